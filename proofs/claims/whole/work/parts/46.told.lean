/-! PURE MATHEMATICS, 28: what is there. -/
theorem in02 {x : Int32} {s : SS} : fX6_in x.toInt64 (0 : Int64) (2 : Int64) s = some (if 0 ≤ x ∧ x ≤ 2 then 1 else 0, s) := okR_in32 (by decide) (by decide)
theorem in01 {x : Int32} {s : SS} : fX6_in x.toInt64 (0 : Int64) (1 : Int64) s = some (if 0 ≤ x ∧ x ≤ 1 then 1 else 0, s) := okR_in32 (by decide) (by decide)
section TOLD
variable {c d : CN} {N t M : Nat} {L L' : Int} {v : CN} {w : Nat → Nat → Int64} {S : SS} {T : TF} {x y : Int32}
theorem okM_isScoop (h : RC c N t M L (v, w) T) : fX5_isScoop x (v, w) = some (if 0 ≤ x ∧ x ≤ i32 M - 1 then 1 else 0, (v, w)) := by
  have := h.cells.2.2.1
  unfold fX5_isScoop fX5_isScoop_0
  rw [okC_within, obind, this]
  dsimp only
  rw [nbZ_b]
theorem okR_isScoop (h : RC c N t M L S T) : fX6_isScoop x (T.2 []) = some (if 0 ≤ x ∧ x ≤ i32 M - 1 then 1 else 0, T.2 []) := by
  have := h.cells.2.2.2.2.2
  unfold fX6_isScoop fX6_isScoop_0
  rw [in0v, obind, this]
  dsimp only
  rw [nbZ_b]
theorem rdM {k j a b : Nat} (h : Hold (atL 1 φW) c v) (e : atL 1 φW k j = some (a, b)) : v k j = c a b := h k j a b e
theorem fM_sort {i : Nat} (hi : i < 3) : atL 1 φW 3 i = some (1, i) := if_pos hi
theorem fM_amt {i : Nat} (hi : i < 3) : atL 1 φW 4 i = some (2, i) := if_pos hi
theorem fM_rim {i : Nat} (hi : i < 8) : atL 1 φW 6 i = some (4, i) := if_pos hi
theorem fM_kind {i : Nat} (hi : i < 4) : atL 1 φW 7 i = some (6, i) := if_pos hi
theorem fM_by {i : Nat} (hi : i < 4) : atL 1 φW 8 i = some (7, i) := if_pos hi
theorem fM_drop {i : Nat} (hi : i < 20) : atL 1 φW 9 i = some (8, i) := if_pos hi
theorem both_scoopOf (h : RR L S T) : Both L (fX5_scoopOf x y S) (fX6_scoopOf x y (T.2 [])) T := by
  have hid := h.id
  have bad2 := bad_of (a := 2) h (by decide) (by decide)
  obtain ⟨h0, c, N, t, M, h⟩ := h
  obtain ⟨v, w⟩ := S
  have hM := h.1.1.m3
  unfold fX5_scoopOf fX5_scoopOf_0 fX5_scoopOf_17 fX6_scoopOf fX6_scoopOf_0 fX6_scoopOf_20
  simp only [okM_isScoop h, okR_isScoop h, obind, iteB]
  by_cases h1 : 0 ≤ x ∧ x ≤ i32 M - 1
  · obtain ⟨i, hi, e⟩ := (of_lt (by omega)).mp h1
    subst e
    have hi3 : i < 3 := by omega
    simp only [if_pos h1, okC_within, in02, obind, iteB]
    by_cases h2 : 0 ≤ y ∧ y ≤ 2
    · simp only [if_pos h2, if_pos (gix hi3 (show 3 ≤ 1000 by decide)), gnat (show i ≤ 1000 by omega)]
      rw [show v 3 i = c 1 i from rdM h.2.2.1 (fM_sort hi3), show v 4 i = c 2 i from rdM h.2.2.1 (fM_amt hi3), h.2.2.2.1 17 i 1 i (fR_sort hi3), h.2.2.2.1 18 i 2 i (fR_amt hi3)]
      by_cases y0 : y = 0
      · rw [if_pos y0, if_pos y0]
        exact Both.of rfl rfl hid
      · rw [if_neg y0, if_neg y0]
        by_cases y1 : y = 1
        · rw [if_pos y1, if_pos y1]
          exact Both.of rfl rfl hid
        · rw [if_neg y1, if_neg y1]
          obtain ⟨z, e1, e2⟩ := okM_rd (w := w) h.2.2.1 (fun u w => okC_allWet (u := u) (w := w) h.1.1 hi3)
          have g1 := okR_at (T := T) h.2.2.2.1 (fun u w => okR_wetOf (u := u) (w := w) h.1.1 hi3)
          rw [← h.2.2.2.1.mk] at g1
          rw [e1, g1, obind, obind]
          dsimp only
          rw [e2]
          exact Both.of rfl rfl hid
    · simp only [if_neg h2]
      exact bad2
  · simp only [if_neg h1]
    exact bad2
theorem both_wet (h : RR L S T) : Both L (fX5_wet x y S) (fX6_wet x y (T.2 [])) T := by
  have hid := h.id
  have bad2 := bad_of (a := 2) h (by decide) (by decide)
  obtain ⟨h0, c, N, t, M, h⟩ := h
  obtain ⟨v, w⟩ := S
  have hM := h.1.1.m3
  have hN := h.1.1.n8
  unfold fX5_wet fX5_wet_0 fX5_wet_13 fX5_wet_21 fX6_wet fX6_wet_0 fX6_wet_13 fX6_wet_21
  simp only [okM_isScoop h, okR_isScoop h, okM_isSide h, okR_isSide h, obind, iteB]
  by_cases h2 : 0 ≤ y ∧ y ≤ i32 N - 1
  · obtain ⟨k, hk, e⟩ := (of_lt (by omega)).mp h2
    subst e
    have hk8 : k < 8 := by omega
    simp only [if_pos h2, if_pos (gix hk8 (show 8 ≤ 1000 by decide)), gnat (show k ≤ 1000 by omega)]
    by_cases x1 : x = -1
    · simp only [if_pos x1]
      rw [show v 6 k = c 4 k from rdM h.2.2.1 (fM_rim hk8), h.2.2.2.1 23 k 4 k (fR_rim hk8)]
      exact Both.of rfl rfl hid
    · simp only [if_neg x1]
      by_cases h1 : 0 ≤ x ∧ x ≤ i32 M - 1
      · obtain ⟨i, hi, e⟩ := (of_lt (by omega)).mp h1
        subst e
        have hi3 : i < 3 := by omega
        obtain ⟨z, e1, e2⟩ := okM_rd (w := w) h.2.2.1 (fun u w => okC_wetAt (u := u) (w := w) hi3 hk8)
        simp only [if_pos h1, if_pos (gix hi3 (show 3 ≤ 1000 by decide)), gnat (show i ≤ 1000 by omega), e1, obind, e2]
        rw [h.2.2.2.1 (20 + i) k 3 (8 * i + k) (fR_wet hi3 hk8)]
        exact Both.of rfl rfl hid
      · simp only [if_neg h1]
        exact bad2
  · simp only [if_neg h2]
    by_cases x1 : x = -1
    · simp only [if_pos x1]
      exact bad2
    · simp only [if_neg x1]
      by_cases h1 : 0 ≤ x ∧ x ≤ i32 M - 1
      · simp only [if_pos h1]
        exact bad2
      · simp only [if_neg h1]
        exact bad2
theorem both_lickerOf (h : RR L S T) : Both L (fX5_lickerOf x y S) (fX6_lickerOf x y (T.2 [])) T := by
  have hid := h.id
  have bad2 := bad_of (a := 2) h (by decide) (by decide)
  obtain ⟨h0, c, N, t, M, h⟩ := h
  have hl := h.licker.2.2.2
  unfold fX5_lickerOf fX5_lickerOf_0 fX5_lickerOf_17 fX6_lickerOf fX6_lickerOf_0 fX6_lickerOf_18
  simp only [okM_isLicker h, okR_isLicker h, okC_within, in01, obind, iteB]
  by_cases h1 : 0 ≤ x ∧ x ≤ i32 (lk c) - 1
  · obtain ⟨l, hl', e⟩ := (of_lt (by omega)).mp h1
    subst e
    have hl4 : l < 4 := by omega
    simp only [if_pos h1]
    by_cases h2 : 0 ≤ y ∧ y ≤ 1
    · simp only [if_pos h2, if_pos (gix hl4 (show 4 ≤ 1000 by decide)), gnat (show l ≤ 1000 by omega)]
      rw [rdM h.2.2.1 (fM_kind hl4), rdM h.2.2.1 (fM_by hl4), h.2.2.2.1 25 l 6 l (fR_kind hl4), h.2.2.2.1 26 l 7 l (fR_by hl4)]
      split
      · exact Both.of rfl rfl hid
      · exact Both.of rfl rfl hid
    · simp only [if_neg h2]
      exact bad2
  · simp only [if_neg h1]
    exact bad2
theorem both_sunny (h : RR L S T) : Both L (fX5_sunny x S) (fX6_sunny x (T.2 [])) T := by
  have hid := h.id
  have bad2 := bad_of (a := 2) h (by decide) (by decide)
  obtain ⟨h0, c, N, t, M, h⟩ := h
  obtain ⟨v, w⟩ := S
  have hN := h.1.1.n8
  unfold fX5_sunny fX5_sunny_0 fX6_sunny fX6_sunny_0
  simp only [okM_isSide h, okR_isSide h, obind, iteB]
  by_cases h2 : 0 ≤ x ∧ x ≤ i32 N - 1
  · obtain ⟨k, hk, e⟩ := (of_lt (by omega)).mp h2
    subst e
    obtain ⟨z, e1, e2⟩ := okM_rd (w := w) h.2.2.1 (fun u w => okC_isSunny (u := u) (w := w) h.1.1 hk)
    have g1 := okR_at (T := T) h.2.2.2.1 (fun u w => okR_isSunny (u := u) (w := w) h.1.1 hk)
    rw [← h.2.2.2.1.mk] at g1
    simp only [if_pos h2, e1, g1, obind, e2]
    by_cases y : shy c (plc N t k)
    · simp only [if_pos y, if_true]
      exact Both.of rfl rfl hid
    · simp only [if_neg y, i10, if_false]
      exact Both.of rfl rfl hid
  · simp only [if_neg h2]
    exact bad2
theorem both_wettest (h : RR L S T) : Both L (fX5_wettest S) (fX6_wettest (T.2 [])) T := by
  have hid := h.id
  obtain ⟨h0, c, N, t, M, h⟩ := h
  obtain ⟨v, w⟩ := S
  obtain ⟨z, e1, e2⟩ := okM_rd (w := w) h.2.2.1 (fun u w => okC_wettest (u := u) (w := w) h.1.1 h.1.2.1)
  have g1 := okR_at (T := T) h.2.2.2.1 (fun u w => okR_wettest (u := u) (w := w) h.1.1)
  rw [← h.2.2.2.1.mk] at g1
  unfold fX5_wettest fX5_wettest_0 fX6_wettest fX6_wettest_0
  simp only [e1, g1, obind, e2]
  exact Both.of rfl rfl hid
theorem both_larg24 {b : Nat} (h : RC c N t M L S T) : ∀ (m i f g b : Nat), i + m = M → m < f → m < g → b < 3 → ∃ r : Int32, fX5_largestScoop_24 f (i32 b) (i32 i) S = some (r, S) ∧ fX6_largestScoop_18 g (i32 b) (i32 i) (T.2 []) = some (r, T.2 [])
  | m, i, 0, g, b => fun _ h => absurd h (Nat.not_lt_zero _)
  | m, i, f + 1, 0, b => fun _ _ h => absurd h (Nat.not_lt_zero _)
  | 0, i, f + 1, g + 1, b => fun hi _ _ hb => by
    have hM := h.1.1.m3
    have hc := h.cells
    unfold fX5_largestScoop_24 fX6_largestScoop_18
    rw [hc.2.2.1, hc.2.2.2.2.2, if_pos ((gle (a := M) (b := i) (by omega) (by omega)).mpr (by omega)), if_pos ((gle (a := M) (b := i) (by omega) (by omega)).mpr (by omega))]
    exact ⟨_, rfl, rfl⟩
  | m + 1, i, f + 1, g + 1, b => fun hi hf hg hb => by
    have hM := h.1.1.m3
    have hc := h.cells
    have hi3 : i < 3 := by omega
    unfold fX5_largestScoop_24 fX6_largestScoop_18
    simp only [hc.2.2.1, hc.2.2.2.2.2, if_neg (fun z => absurd ((gle (a := M) (b := i) (by omega) (by omega)).mp z) (by omega)), if_pos (gix hi3 (show 3 ≤ 1000 by decide)), if_pos (gix hb (show 3 ≤ 1000 by decide)), gnat (show i ≤ 1000 by omega), gnat (show b ≤ 1000 by omega), i32_succ]
    rw [rdM h.2.2.1 (fM_amt hi3), rdM h.2.2.1 (fM_amt hb), h.2.2.2.1 18 i 2 i (fR_amt hi3), h.2.2.2.1 18 b 2 b (fR_amt hb)]
    split
    · exact both_larg24 (b := b) h m (i + 1) f g b (by omega) (by omega) (by omega) hb
    · exact both_larg24 (b := b) h m (i + 1) f g i (by omega) (by omega) (by omega) hi3
theorem both_largestScoop (h : RR L S T) : Both L (fX5_largestScoop S) (fX6_largestScoop (T.2 [])) T := by
  have hid := h.id
  have bad5 := bad_of (a := 5) h (by decide) (by decide)
  obtain ⟨h0, c, N, t, M, h⟩ := h
  have hM := h.1.1.m3
  have hc := h.cells
  unfold fX5_largestScoop fX5_largestScoop_0 fX6_largestScoop fX6_largestScoop_0
  rw [hc.2.2.1, hc.2.2.2.2.2]
  by_cases z : M = 0
  · subst z
    rw [if_pos (show i32 0 = 0 from rfl), if_pos (show i32 0 = 0 from rfl)]
    exact bad5
  · rw [if_neg (ne_l (n := 0) (by unfold B31; omega) (by decide) z), if_neg (ne_l (n := 0) (by unfold B31; omega) (by decide) z)]
    obtain ⟨r, e1, e2⟩ := both_larg24 (b := 0) h (M - 1) 1 FU FU 0 (by omega) (by unfold FU; omega) (by unfold FU; omega) (by decide)
    exact ⟨r, S, T.2 [], e1, e2, hid⟩
theorem both_drop (h : RR L S T) : Both L (fX5_drop x S) (fX6_drop x (T.2 [])) T := by
  have hid := h.id
  have bad2 := bad_of (a := 2) h (by decide) (by decide)
  have bad5 := bad_of (a := 5) h (by decide) (by decide)
  obtain ⟨h0, c, N, t, M, h⟩ := h
  obtain ⟨D, hD, eD⟩ := h.2.1.2.1
  have e15 : S.1 1 5 = i32 D := (rdM h.2.2.1 (show atL 1 φW 1 5 = some (5, 5) from rfl)).trans eD
  have e25 : (T.2 []).1 0 25 = i32 D := (h.2.2.2.1 0 25 5 5 rfl).trans eD
  unfold fX5_drop fX5_drop_0 fX6_drop fX6_drop_0
  rw [e15, e25]
  by_cases h1 : -1 ≤ x
  · rw [if_pos h1, if_pos h1]
    by_cases h2 : x < i32 D
    · rw [if_pos h2, if_pos h2]
      by_cases h3 : x = -1
      · rw [if_pos h3, if_pos h3]
        exact Both.of rfl rfl hid
      · rw [if_neg h3, if_neg h3]
        have t1 := Int32.le_iff_toInt_le.mp h1
        have t2 := Int32.lt_iff_toInt_lt.mp h2
        rw [i32_toInt (by unfold B31; omega)] at t2
        have em : (-1 : Int32).toInt = -1 := rfl
        rw [em] at t1
        have t3 : x.toInt ≠ -1 := fun z => h3 (Int32.toInt_inj.mp (by rw [z]; rfl))
        obtain ⟨n, hn, e, et⟩ := of_nn (x := x) (by omega)
        subst e
        have hn20 : n < 20 := by omega
        rw [if_pos (gix hn20 (by decide)), if_pos (gix hn20 (by decide)), gnat (by omega), rdM h.2.2.1 (fM_drop hn20), h.2.2.2.1 27 n 8 n (fR_drop hn20)]
        exact Both.of rfl rfl hid
    · rw [if_neg h2, if_neg h2]
      exact bad5
  · rw [if_neg h1, if_neg h1]
    exact bad2
theorem both_seed (h : RR L S T) : Both L (fX5_seed x S) (fX6_seed x (T.2 [])) T := by
  obtain ⟨h0, c, N, t, M, h⟩ := h
  obtain ⟨v, w⟩ := S
  have e1 : v 1 6 = c 5 6 := rdM h.2.2.1 rfl
  have e2 : (T.2 []).1 0 27 = c 5 6 := h.2.2.2.1 0 27 5 6 rfl
  have hw : wrI (v, w) 1 6 x = (put (atL 1 φW) (upd2 c 5 6 x) v, w) := by
    unfold wrI
    rw [wr_M h.2.2.1 (show atL 1 φW 1 6 = some (5, 6) from rfl)]
  unfold fX5_seed fX5_seed_0 fX6_seed fX6_seed_0
  simp only [e1, e2, hw]
  rw [wr_R h.2.2.2.1 (show φR 0 27 = some (5, 6) from rfl)]
  exact Both.of rfl rfl (h.truth h0 ⟨⟨h.1.1.1, h.1.1.2.1, h.1.1.2.2.1, h.1.1.2.2.2⟩, ⟨h.1.2.1.1, h.1.2.1.2.1, h.1.2.1.2.2.1, h.1.2.1.2.2.2.1, h.1.2.1.2.2.2.2⟩, h.1.2.2.1, h.1.2.2.2⟩ ⟨h.2.1.1, h.2.1.2.1, h.2.1.2.2⟩ (Int.le_refl _) (Nat.le_refl _))
end TOLD
