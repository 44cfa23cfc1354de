/-! PURE MATHEMATICS, 46: went. -/
section WENT
variable {c d : CN} {N t M a l q n : Nat} {L L' L1 : Int} {v v1 u : CN} {w : Nat → Nat → Int64} {S : SS} {T T1 : TF} {x y z : Int32}
theorem in220 {x : Int32} {s : SS} : fX6_in x.toInt64 (2 : Int64) (20 : Int64) s = some (if 2 ≤ x ∧ x ≤ 20 then 1 else 0, s) := okR_in32 (by decide) (by decide)
theorem went_zero {rec : Int32 → Int32 → Int32 → Int32 → SS → Option (Int32 × SS)} {s : SS} (hq : q < 8) (hn : n ≤ 20) : ∀ (m k f : Nat), k + m = n → 1 ≤ k → m < f → fX6_went_96 rec f (i32 q) (i32 n) y x (0 : Int32) (i32 k) s = rec (i32 q) (i32 n) (y ||| (0 : Int32)) (x + (1 : Int32)) s
  | m, k, 0 => fun _ _ h => absurd h (Nat.not_lt_zero _)
  | 0, k, f + 1 => fun hk _ _ => by
    unfold fX6_went_96
    rw [if_pos ((gle (show n ≤ 1000 by omega) (show k ≤ 1000 by omega)).mpr (by omega)), if_pos rfl]
  | m + 1, k, f + 1 => fun hk h1 hf => by
    have nk : ¬ i32 n ≤ i32 k := fun z => by have := (gle (show n ≤ 1000 by omega) (show k ≤ 1000 by omega)).mp z; omega
    have e1 : i32 k - (1 : Int32) = i32 (k - 1) := i32_sub (b := 1) (by omega)
    have ih := went_zero (rec := rec) (s := s) hq hn m (k + 1) f (by omega) (by omega) (by omega)
    unfold fX6_went_96
    simp only [if_neg nk, e1, if_pos (gix hq (show 8 ≤ 1000 by decide)), if_pos (gix (show k < 40 by omega) (show 40 ≤ 1000 by decide)), if_pos (gix (show k - 1 < 40 by omega) (show 40 ≤ 1000 by decide)), if_pos (gix (show k < 20 by omega) (show 20 ≤ 1000 by decide)), if_pos (gix (show k - 1 < 20 by omega) (show 20 ≤ 1000 by decide)), show (0 : Int32) &&& 1 = 0 by decide, show (0 : Int32) &&& 0 = 0 by decide, ite_self, i32_succ]
    exact ih
theorem went_in {rec : Int32 → Int32 → Int32 → Int32 → SS → Option (Int32 × SS)} {s : SS} (hq : q < 8) (hn : n ≤ 20) (e : ∀ j : Nat, j < 40 → S.2 (61 + 2 * q + 1) j = s.2 (5 + q) j) (e' : ∀ j : Nat, j < 20 → S.1 9 j = s.1 27 j) : ∀ (m k f g : Nat), k + m = n → 1 ≤ k → m < f → m < g → ∃ b : Bool, fX5_wentAt_14 f (i32 n) x q (i32 k) S = some (if b = true then 1 else 0, S) ∧ fX6_went_96 rec g (i32 q) (i32 n) y x (1 : Int32) (i32 k) s = if b = true then rec (i32 q) (i32 n) (y ||| ((1 : Int32) <<< (x &&& 31))) (x + (1 : Int32)) s else rec (i32 q) (i32 n) (y ||| (0 : Int32)) (x + (1 : Int32)) s
  | m, k, 0, g => fun _ _ h _ => absurd h (Nat.not_lt_zero _)
  | m, k, f + 1, 0 => fun _ _ _ h => absurd h (Nat.not_lt_zero _)
  | 0, k, f + 1, g + 1 => fun hk _ _ _ => by
    unfold fX5_wentAt_14 fX6_went_96
    rw [if_pos ((gle (show n ≤ 1000 by omega) (show k ≤ 1000 by omega)).mpr (by omega)), if_pos ((gle (show n ≤ 1000 by omega) (show k ≤ 1000 by omega)).mpr (by omega)), if_neg (by decide)]
    exact ⟨true, rfl, rfl⟩
  | m + 1, k, f + 1, g + 1 => fun hk h1 hf hg => by
    have nk : ¬ i32 n ≤ i32 k := fun z => by have := (gle (show n ≤ 1000 by omega) (show k ≤ 1000 by omega)).mp z; omega
    have e1 : i32 k - (1 : Int32) = i32 (k - 1) := i32_sub (b := 1) (by omega)
    have zz := went_zero (rec := rec) (s := s) (y := y) (x := x) hq hn m (k + 1) g (by omega) (by omega) (by omega)
    obtain ⟨b, p1, p2⟩ := went_in (rec := rec) hq hn e e' m (k + 1) f g (by omega) (by omega) (by omega) (by omega)
    unfold fX5_wentAt_14 fX6_went_96
    simp only [if_neg nk, e1, if_pos (gix hq (show 8 ≤ 1000 by decide)), if_pos (gix (show k < 40 by omega) (show 40 ≤ 1000 by decide)), if_pos (gix (show k - 1 < 40 by omega) (show 40 ≤ 1000 by decide)), if_pos (gix (show k < 20 by omega) (show 20 ≤ 1000 by decide)), if_pos (gix (show k - 1 < 20 by omega) (show 20 ≤ 1000 by decide)), show (1 : Int32) &&& 1 = 1 by decide, show (1 : Int32) &&& 0 = 0 by decide, i32_succ, gnat (show q ≤ 1000 by omega), gnat (show k ≤ 1000 by omega), gnat (show k - 1 ≤ 1000 by omega), e k (by omega), e (k - 1) (by omega), e' k (by omega), e' (k - 1) (by omega)]
    by_cases z : lg_cmp (s.2 (5 + q) k - s.2 (5 + q) (k - 1)) (x.toInt64 * (s.1 27 k - s.1 27 (k - 1)).toInt64) = 0
    · rw [if_pos z, if_pos z]
      exact ⟨b, p1, p2⟩
    · rw [if_neg z, if_neg z]
      exact ⟨false, rfl, zz⟩
theorem went_out {s : SS} (hq : q < 8) (hn : n ≤ 20) (hn1 : 1 ≤ n) (e : ∀ j : Nat, j < 40 → S.2 (61 + 2 * q + 1) j = s.2 (5 + q) j) (e' : ∀ j : Nat, j < 20 → S.1 9 j = s.1 27 j) : ∀ (m k f g : Nat) (y : Int32), k + m = 10 → m < f → m < g → ∃ r : Int32, fX5_went_44 f (i32 q) (i32 n) y (i32 k) S = some (r, S) ∧ fX6_went_83 g (i32 q) (i32 n) y (i32 k) s = some (r, s)
  | m, k, 0, g, y => fun _ h _ => absurd h (Nat.not_lt_zero _)
  | m, k, f + 1, 0, y => fun _ _ h => absurd h (Nat.not_lt_zero _)
  | 0, k, f + 1, g + 1, y => fun hk _ _ => by
    have : k = 10 := by omega
    subst this
    unfold fX5_went_44 fX6_went_83
    rw [if_pos (by decide), if_pos (by decide)]
    exact ⟨y, rfl, rfl⟩
  | m + 1, k, f + 1, g + 1, y => fun hk hf hg => by
    have n9 : ¬ (9 : Int32) < i32 k := fun z => by have := (l_lt (n := 9) (by unfold B31; omega) (by decide)).mp z; omega
    obtain ⟨b, p1, p2⟩ := went_in (rec := fX6_went_83 g) (x := i32 k) (y := y) hq hn e e' (n - 1) 1 FU FU (by omega) (by decide) (by unfold FU; omega) (by unfold FU; omega)
    have p1' : fX5_wentAt_14 FU (i32 n) (i32 k) q (1 : Int32) S = some (if b = true then 1 else 0, S) := p1
    have p2' := p2
    rw [show i32 1 = (1 : Int32) from rfl] at p2'
    unfold fX5_went_44 fX6_went_83 fX5_wentAt fX5_wentAt_0
    rw [if_neg n9, if_neg n9, if_pos (gix hq (by decide)), gnat (by omega), p1', p2', obind]
    dsimp only
    rw [i32_succ, Int32.or_zero]
    cases b with
    | true =>
      rw [if_pos rfl, if_pos rfl, if_neg (by decide)]
      exact went_out hq hn hn1 e e' m (k + 1) f g _ (by omega) (by omega) (by omega)
    | false =>
      have e0 : (if (false : Bool) = true then (1 : Int32) else 0) = 0 := if_neg (by decide)
      rw [if_pos e0, if_neg (by decide)]
      exact went_out hq hn hn1 e e' m (k + 1) f g _ (by omega) (by omega) (by omega)
theorem both_went (h : RR L S T) : Both L (fX5_went x y S) (fX6_went x y (T.2 [])) T := by
  have hid := h.id
  have hr := h
  have bad2 := bad_of (a := 2) h (by decide) (by decide)
  have bad5 := bad_of (a := 5) h (by decide) (by decide)
  obtain ⟨h0, c, N, t, M, h⟩ := h
  unfold fX5_went fX5_went_0 fX5_toldFault fX5_toldFault_0 fX6_went fX6_went_0 fX6_went_26
  simp only [okC_within, in07, in220, obind, iteB]
  by_cases hx : 0 ≤ x ∧ x ≤ 7
  · rw [if_pos hx]
    by_cases hy : 2 ≤ y ∧ y ≤ 20
    · rw [if_pos hy, if_pos hy]
      obtain ⟨q, hq, e⟩ := of_le (b := 7) (by decide) hx
      obtain ⟨n, hn, e'⟩ := of_le (b := 20) (by decide) ⟨Int32.le_trans (by decide) hy.1, hy.2⟩
      subst e
      subst e'
      have hn2 : 2 ≤ n := (l_le (n := 2) (by unfold B31; omega) (by decide)).mp hy.1
      have ix : ixB (i32 q) 8 := gix (by omega) (by decide)
      have g : (i32 q).toNatClampNeg = q := gnat (by omega)
      rcases rowF (h.2.2.2.2.2.1 q (by omega)) (by omega) with ⟨_, f1, f2⟩ | ⟨⟨o, m, h1, h2, h3, h4, h5, h6, h7, h8⟩, f1, f2⟩ | ⟨_, f1, f2⟩
      · obtain ⟨S', s', k1, k2, k3⟩ := refuse_both (a := 4) hr (by decide) (by decide)
        rw [show (-i32 4 : Int32) = -4 by decide] at k1 k2
        simp only [f1, f2, k1, k2, obind, z_4, if_false]
        exact ⟨_, _, _, rfl, rfl, k3⟩
      · obtain ⟨D, hD, eD⟩ := h.2.1.2.1
        have d1 : S.1 1 5 = i32 D := (h.2.2.1 1 5 5 5 rfl).trans eD
        have d2 : (T.2 []).1 0 25 = i32 D := (h.2.2.2.1 0 25 5 5 rfl).trans eD
        simp only [f1, f2, obind, if_pos ix, g, h4, h7, d1, d2, gle (show n ≤ 1000 by omega) (show m ≤ 1000 by omega), gle (show n ≤ 1000 by omega) (show D ≤ 1000 by omega), if_pos (show (0 : Int32) = 0 from rfl)]
        by_cases hm : n ≤ m
        · simp only [if_pos hm]
          rw [if_pos trivial, if_pos trivial, obind]
          dsimp only
          rw [if_pos rfl, d1]
          by_cases hd : n ≤ D
          · rw [if_pos ((gle (show n ≤ 1000 by omega) (show D ≤ 1000 by omega)).mpr hd), if_pos hd]
            obtain ⟨r, p1, p2⟩ := went_out (S := S) (s := T.2 []) (show q < 8 by omega) hn (by omega) h8 (fun j hj => (rdM h.2.2.1 (fM_drop hj)).trans (h.2.2.2.1 27 j 8 j (fR_drop hj)).symm) 9 1 FU FU 0 rfl (by unfold FU; omega) (by unfold FU; omega)
            exact ⟨r, _, _, p1, p2, hid⟩
          · rw [if_neg (fun z => hd ((gle (show n ≤ 1000 by omega) (show D ≤ 1000 by omega)).mp z)), if_neg hd]
            exact bad5
        · simp only [if_neg hm]
          exact bad2
      · obtain ⟨S', s', k1, k2, k3⟩ := refuse_both (a := 3) hr (by decide) (by decide)
        rw [show (-i32 3 : Int32) = -3 by decide] at k1 k2
        simp only [f1, f2, k1, k2, obind, z_3, if_false]
        exact ⟨_, _, _, rfl, rfl, k3⟩
    · rw [if_neg hy, if_neg hy]
      exact bad2
  · simp only [if_neg hx, (rowF_bad (S := S) (s := T.2 []) hx).1, obind, z_2, if_false, ite_self]
    exact bad2
end WENT
