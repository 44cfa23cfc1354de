/-! PURE MATHEMATICS, 27: what is set up, on. -/
section SETUP
variable {c d : CN} {N t M : Nat} {L L' : Int} {v : CN} {w : Nat → Nat → Int64} {S : SS} {T : TF} {x y : Int32}
theorem wr_M {k j a b : Nat} (h : Hold (atL 1 φW) c v) (e : atL 1 φW k j = some (a, b)) : upd2 v k j x = put (atL 1 φW) (upd2 c a b x) v := by
  rw [← put_upd (atL_ok φW_ok) e, h.eq]
theorem wr_R {k j a b : Nat} {s : SS} (h : Hold φR c s.1) (e : φR k j = some (a, b)) : wrI s k j x = (put φR (upd2 c a b x) s.1, s.2) := by
  unfold wrI
  rw [← put_upd φR_ok e, h.eq]
theorem upd_OK {j : Nat} (h : OK c N t M L) (hj : j = 2 ∨ (j = 3 ∧ 0 ≤ x.toInt ∧ x.toInt ≤ 20) ∨ (j = 4 ∧ 0 ≤ x.toInt ∧ x.toInt ≤ 20) ∨ (j = 5 ∧ 1 ≤ x.toInt ∧ x.toInt ≤ 20) ∨ (j = 6 ∧ 1 ≤ x.toInt ∧ x.toInt ≤ 999)) : OK (upd2 c 0 j x) N t M L := by
  have e : ∀ i : Nat, upd2 c 0 j x 0 i = if i = j then x else c 0 i := fun i => upd2_same
  refine ⟨⟨?_, ?_, ?_, h.1.2.2.2⟩, ⟨h.2.1.1, h.2.1.2.1, h.2.1.2.2.1, h.2.1.2.2.2.1, ?_⟩, fun i h7 h10 => ?_, h.2.2.2⟩
  · rw [e, if_neg (by omega)]; exact h.1.1
  · rw [e, if_neg (by omega)]; exact h.1.2.1
  · rw [e, if_neg (by omega)]; exact h.1.2.2.1
  · have hb := h.2.1.2.2.2.2
    rw [e, e, e, e]
    refine ⟨?_, ?_, ?_, ?_⟩
    · split
      · omega
      · exact hb.1
    · split
      · omega
      · exact hb.2.1
    · split
      · omega
      · exact hb.2.2.1
    · split
      · omega
      · exact hb.2.2.2
  · rw [e, if_neg (by omega)]; exact h.2.2.1 i h7 h10
theorem turn_OK {n : Nat} (h : OK c N t M L) (hn : n < N) : OK (upd2 c 0 1 (i32 n)) N n M L := by
  have e : ∀ i : Nat, i ≠ 1 → upd2 c 0 1 (i32 n) 0 i = c 0 i := fun i hi => by rw [upd2_same, if_neg hi]
  refine ⟨⟨h.1.1, rfl, h.1.2.2.1, h.1.n3, h.1.n8, hn, h.1.m3⟩, ⟨h.2.1.1, h.2.1.2.1, h.2.1.2.2.1, h.2.1.2.2.2.1, h.2.1.2.2.2.2⟩, fun i h7 h10 => ?_, h.2.2.2⟩
  rw [e i (by omega)]
  exact h.2.2.1 i h7 h10
theorem upd_5 {j : Nat} : ∀ p : Nat, 5 ≤ p → upd2 c 0 j x p = c p := fun p hp => upd2_ne (by omega)
theorem both_sun (h : RR L S T) : Both L (fX5_sun x S) (fX6_sun x (T.2 [])) T := by
  have bad2 := bad_of (a := 2) h (by decide) (by decide)
  obtain ⟨h0, c, N, t, M, h⟩ := h
  obtain ⟨v, w⟩ := S
  obtain ⟨c1, c2, c3, c4, c5, c6⟩ := h.cells
  dsimp only at c1 c2 c3
  have e22 : v 2 2 = c 0 2 := h.2.2.1 2 2 0 2 rfl
  have e16 : (T.2 []).1 0 16 = c 0 2 := h.2.2.2.1 0 16 0 2 rfl
  obtain ⟨z, e1, e2⟩ := okM_rd (w := w) h.2.2.1 (fun u w => okC_all (u := u) (w := w) h.1.1)
  unfold fX5_sun fX5_sun_0 fX6_sun fX6_sun_0
  simp only [e1, obind, e2, okC_within, in0v, iteB, c4]
  by_cases h1 : 0 ≤ x ∧ x ≤ 1 <<< (i32 N &&& 31) - 1
  · simp only [if_pos h1, e22, e16]
    have hw : wrI (v, w) 2 2 x = (put (atL 1 φW) (upd2 c 0 2 x) v, w) := by
      unfold wrI
      rw [wr_M h.2.2.1 (show atL 1 φW 2 2 = some (0, 2) from rfl)]
    rw [hw, wr_R h.2.2.2.1 (show φR 0 16 = some (0, 2) from rfl)]
    exact Both.of rfl rfl (h.truth h0 (upd_OK h.1 (Or.inl rfl)) (h.2.1.of upd_5) (Int.le_refl _) (Nat.le_refl _))
  · simp only [if_neg h1]
    exact bad2
theorem okM_isSide (h : RC c N t M L (v, w) T) : fX5_isSide x (v, w) = some (if 0 ≤ x ∧ x ≤ i32 N - 1 then 1 else 0, (v, w)) := by
  have := h.cells.1
  unfold fX5_isSide fX5_isSide_0
  rw [okC_within, obind, this]
  dsimp only
  rw [nbZ_b]
theorem okR_isSide (h : RC c N t M L S T) : fX6_isSide x (T.2 []) = some (if 0 ≤ x ∧ x ≤ i32 N - 1 then 1 else 0, T.2 []) := by
  have := h.cells.2.2.2.1
  unfold fX6_isSide fX6_isSide_0
  rw [in0v, obind, this]
  dsimp only
  rw [nbZ_b]
/-- what can be asked for -/
def askP (N : Nat) (x y : Int32) : Prop := (x = 0 ∧ 0 ≤ y ∧ y ≤ 20) ∨ (x = 1 ∧ 0 ≤ y ∧ y ≤ 20) ∨ (x = 2 ∧ 1 ≤ y ∧ y ≤ 20) ∨ (x = 3 ∧ 1 ≤ y ∧ y ≤ 999) ∨ (x = 4 ∧ 0 ≤ y ∧ y ≤ i32 N - 1)
theorem both_ask (h : RR L S T) : Both L (fX5_ask x y S) (fX6_ask x y (T.2 [])) T := by
  have bad2 := bad_of (a := 2) h (by decide) (by decide)
  obtain ⟨h0, c, N, t, M, h⟩ := h
  obtain ⟨v, w⟩ := S
  obtain ⟨c1, c2, c3, c4, c5, c6⟩ := h.cells
  dsimp only at c1 c2 c3
  have eM : ∀ j : Nat, j < 12 → v 2 j = c 0 j := fun j hj => h.2.2.1 2 j 0 j (by unfold atL φW szC; rw [if_pos (by decide), if_neg (by decide), if_pos (by decide)]; exact if_pos hj)
  have eR : ∀ j : Nat, j < 4 → (T.2 []).1 24 j = c 0 (3 + j) := fun j hj => h.2.2.2.1 24 j 0 (3 + j) (by unfold φR φR1; rw [if_neg (by decide), if_neg (by decide), if_neg (by decide), if_neg (by decide), if_neg (by decide), if_pos rfl, if_pos hj])
  have fR : ∀ j : Nat, j < 4 → φR 24 j = some (0, 3 + j) := fun j hj => by unfold φR φR1; rw [if_neg (by decide), if_neg (by decide), if_neg (by decide), if_neg (by decide), if_neg (by decide), if_pos rfl, if_pos hj]
  have fM : ∀ j : Nat, j < 12 → atL 1 φW 2 j = some (0, j) := fun j hj => by unfold atL φW szC; rw [if_pos (by decide), if_neg (by decide), if_pos (by decide)]; exact if_pos hj
  have wM : ∀ j : Nat, j < 12 → wrI (v, w) 2 j y = (put (atL 1 φW) (upd2 c 0 j y) v, w) := fun j hj => by
    unfold wrI
    rw [wr_M h.2.2.1 (fM j hj)]
  have fin : ∀ j : Nat, j < 4 → OK (upd2 c 0 (3 + j) y) N t M L → RR L (put (atL 1 φW) (upd2 c 0 (3 + j) y) v, w) (wrT T [] (wrI (T.2 []) 24 j y)) := fun j hj ho => by
    rw [wr_R h.2.2.2.1 (fR j hj)]
    exact h.truth h0 ho (h.2.1.of upd_5) (Int.le_refl _) (Nat.le_refl _)
  have t0 : (0 : Int32).toInt = 0 := rfl
  have t1 : (1 : Int32).toInt = 1 := rfl
  have t20 : (20 : Int32).toInt = 20 := rfl
  have t999 : (999 : Int32).toInt = 999 := rfl
  unfold fX5_ask fX5_ask_0 fX5_canAsk fX5_canAsk_0 fX6_ask fX6_ask_0 fX6_mayAsk fX6_mayAsk_0 fX6_ask_34
  by_cases x0 : x = 0
  · subst x0
    simp only [okC_within, in020, obind, nbZ_b, iteB, if_true]
    by_cases h1 : 0 ≤ y ∧ y ≤ 20
    · have k1 := Int32.le_iff_toInt_le.mp h1.1
      have k2 := Int32.le_iff_toInt_le.mp h1.2
      simp only [if_pos h1, if_neg (show ¬ (0 : Int32) = 4 by decide), if_pos (show ixB (0 : Int32) 4 from gix (k := 0) (by decide) (by decide)), wM 3 (by decide), eM 3 (by decide), show (0 : Int32).toNatClampNeg = 0 from rfl, eR 0 (by decide)]
      exact Both.of rfl rfl (fin 0 (by decide) (upd_OK h.1 (Or.inr (Or.inl ⟨rfl, by omega, by omega⟩))))
    · simp only [if_neg h1]
      exact bad2
  · by_cases x1 : x = 1
    · subst x1
      simp only [okC_within, in020, obind, nbZ_b, iteB, if_true, i10, if_false]
      by_cases h1 : 0 ≤ y ∧ y ≤ 20
      · have k1 := Int32.le_iff_toInt_le.mp h1.1
        have k2 := Int32.le_iff_toInt_le.mp h1.2
        simp only [if_pos h1, if_neg (show ¬ (1 : Int32) = 4 by decide), if_pos (show ixB (1 : Int32) 4 from gix (k := 1) (by decide) (by decide)), wM 4 (by decide), eM 4 (by decide), show (1 : Int32).toNatClampNeg = 1 from rfl, eR 1 (by decide)]
        exact Both.of rfl rfl (fin 1 (by decide) (upd_OK h.1 (Or.inr (Or.inr (Or.inl ⟨rfl, by omega, by omega⟩)))))
      · simp only [if_neg h1]
        exact bad2
    · by_cases x2 : x = 2
      · subst x2
        simp only [okC_within, in120, obind, nbZ_b, iteB, if_true, z20, z21, if_false]
        by_cases h1 : 1 ≤ y ∧ y ≤ 20
        · have k1 := Int32.le_iff_toInt_le.mp h1.1
          have k2 := Int32.le_iff_toInt_le.mp h1.2
          simp only [if_pos h1, if_neg (show ¬ (2 : Int32) = 4 by decide), if_pos (show ixB (2 : Int32) 4 from gix (k := 2) (by decide) (by decide)), wM 5 (by decide), eM 5 (by decide), show (2 : Int32).toNatClampNeg = 2 from rfl, eR 2 (by decide)]
          exact Both.of rfl rfl (fin 2 (by decide) (upd_OK h.1 (Or.inr (Or.inr (Or.inr (Or.inl ⟨rfl, by omega, by omega⟩))))))
        · simp only [if_neg h1]
          exact bad2
      · by_cases x3 : x = 3
        · subst x3
          simp only [okC_within, in1999, obind, nbZ_b, iteB, if_neg x0, if_neg x1, if_neg x2, if_true]
          by_cases h1 : 1 ≤ y ∧ y ≤ 999
          · have k1 := Int32.le_iff_toInt_le.mp h1.1
            have k2 := Int32.le_iff_toInt_le.mp h1.2
            simp only [if_pos h1, if_neg (show ¬ (3 : Int32) = 4 by decide), if_pos (show ixB (3 : Int32) 4 from gix (k := 3) (by decide) (by decide)), wM 6 (by decide), eM 6 (by decide), show (3 : Int32).toNatClampNeg = 3 from rfl, eR 3 (by decide)]
            exact Both.of rfl rfl (fin 3 (by decide) (upd_OK h.1 (Or.inr (Or.inr (Or.inr (Or.inr ⟨rfl, by omega, by omega⟩))))))
          · simp only [if_neg h1]
            exact bad2
        · by_cases x4 : x = 4
          · subst x4
            simp only [okM_isSide h, okR_isSide h, obind, nbZ_b, iteB, if_neg x0, if_neg x1, if_neg x2, if_neg x3, if_true]
            by_cases h1 : 0 ≤ y ∧ y ≤ i32 N - 1
            · obtain ⟨n, hn, e⟩ := (of_lt (by have := h.1.1.n8; omega)).mp h1
              subst e
              simp only [if_pos h1, obind, i10, if_false, wM 1 (by decide), c2, c5]
              rw [wr_R h.2.2.2.1 (show φR 0 15 = some (0, 1) from rfl)]
              exact Both.of rfl rfl (h.truth h0 (turn_OK h.1 hn) (h.2.1.of upd_5) (Int.le_refl _) (Nat.le_refl _))
            · simp only [if_neg h1, if_true]
              exact bad2
          · simp only [if_neg x0, if_neg x1, if_neg x2, if_neg x3, if_neg x4, obind, if_true]
            exact bad2
def mAddL (n : Nat) (x y : Int32) (c : CN) : CN := upd2 (upd2 (upd2 c 6 n x) 7 n y) 5 3 (i32 (n + 1))
theorem okW_add {n : Nat} {u : CN} (hn : n < 4) (h : c 5 3 = i32 n) : fX4_addLicker x y (put φW c u, w) = some ((), (put φW (mAddL n x y c) u, w)) := by
  have e3 : φW 0 3 = some (5, 3) := rfl
  have e6 : φW 6 n = some (6, n) := by
    unfold φW
    rw [if_neg (by decide), if_neg (by decide), if_pos rfl, if_pos hn]
  have e7 : φW 7 n = some (7, n) := by
    unfold φW
    rw [if_neg (by decide), if_neg (by decide), if_neg (by decide), if_pos rfl, if_pos hn]
  unfold fX4_addLicker fX4_addLicker_0 mAddL
  simp only [rW e3, h, if_neg (fun z => absurd ((l_le (n := 4) (show B31 n by unfold B31; omega) (by decide)).mp z) (by omega)), if_pos (gix hn (show 4 ≤ 1000 by decide)), gnat (show n ≤ 1000 by omega), wW e6, wW e7, wW e3, i32_succ]
theorem okR_add' {n : Nat} {u : CN} (hn : n < 4) (h : c 5 3 = i32 n) : fX6_addLicker x y (put φR c u, w) = some ((), (put φR (mAddL n x y c) u, w)) := by
  have e3 : φR 0 22 = some (5, 3) := rfl
  unfold fX6_addLicker fX6_addLicker_0 mAddL
  simp only [rR e3, h, if_pos (gix hn (show 4 ≤ 1000 by decide)), gnat (show n ≤ 1000 by omega), wR (fR_kind hn), wR (fR_by hn), wR e3, i32_succ]
theorem mAddL_OK {n : Nat} (h : OK c N t M L) : OK (mAddL n x y c) N t M L := ⟨⟨h.1.1, h.1.2.1, h.1.2.2.1, h.1.2.2.2⟩, ⟨h.2.1.1, h.2.1.2.1, h.2.1.2.2.1, h.2.1.2.2.2.1, h.2.1.2.2.2.2⟩, h.2.2.1, h.2.2.2⟩
theorem mAddL_WI {n a b : Nat} (h : WI c) (hn : n < 4) (ha : a ≤ 5) (hb : b ≤ 9) : WI (mAddL n (i32 a) (i32 b) c) := by
  refine ⟨⟨n + 1, by omega, rfl⟩, h.2.1, fun l hl => ⟨?_, ?_⟩⟩
  · show ∃ K : Nat, K ≤ 5 ∧ upd2 (upd2 c 6 n (i32 a)) 7 n (i32 b) 6 l = i32 K
    rw [upd2_ne (by decide), upd2_same]
    split
    · exact ⟨a, ha, rfl⟩
    · exact (h.2.2 l hl).1
  · show ∃ K : Nat, K ≤ 9 ∧ upd2 (upd2 c 6 n (i32 a)) 7 n (i32 b) 7 l = i32 K
    rw [upd2_same]
    split
    · exact ⟨b, hb, rfl⟩
    · rw [upd2_ne (by decide)]; exact (h.2.2 l hl).2
/-- the class's call over its world -/
theorem okM_atW {ρ : Type} {f : SS → Option (ρ × SS)} {r : ρ} (h : Hold (atL 1 φW) c v) (e : ∀ (u : CN) (w : Nat → Nat → Int64), f (put φW c u, w) = some (r, (put φW d u, w))) : ∃ z : SS, f (selS (fun k => 1 + k) (v, w)) = some (r, z) ∧ mrgS (fun k => 1 + k) 9 (v, w) z = (put (atL 1 φW) d v, w) := by
  refine ⟨_, by rw [sel_at h]; exact e _ _, ?_⟩
  rw [mrg_W]
theorem both_licker (h : RR L S T) : Both L (fX5_licker x y S) (fX6_licker x y (T.2 [])) T := by
  have bad2 := bad_of (a := 2) h (by decide) (by decide)
  have bad6 := bad_of (a := 6) h (by decide) (by decide)
  obtain ⟨h0, c, N, t, M, h⟩ := h
  obtain ⟨v, w⟩ := S
  have hl := h.licker
  dsimp only at hl
  have e13 : v 1 3 = i32 (lk c) := hl.1.trans hl.2.2.1
  have e22 : (T.2 []).1 0 22 = i32 (lk c) := hl.2.1.trans hl.2.2.1
  unfold fX5_licker fX5_licker_0 fX5_licker_19 fX6_licker fX6_licker_0 fX6_licker_24
  simp only [okC_within, in05, in09, obind, iteB, e13, e22, lt_l (a := lk c) (n := 4) (by unfold B31; omega) (by decide), eq_l (a := lk c) (n := 4) (by unfold B31; omega) (by decide)]
  by_cases h1 : 0 ≤ x ∧ x ≤ 5
  · obtain ⟨a, ha, e⟩ := of_le (b := 5) (by decide) h1
    subst e
    simp only [if_pos h1]
    by_cases h2 : 0 ≤ y ∧ y ≤ 9
    · obtain ⟨b, hb, e⟩ := of_le (b := 9) (by decide) h2
      subst e
      simp only [if_pos h2]
      by_cases h4 : lk c < 4
      · obtain ⟨z, e1, e2⟩ := okM_atW (w := w) h.2.2.1 (fun u w => okW_add (x := i32 a) (y := i32 b) (u := u) (w := w) h4 hl.2.2.1)
        have g1 := okR_at h.2.2.2.1 (fun u w => okR_add' (x := i32 a) (y := i32 b) (u := u) (w := w) h4 hl.2.2.1)
        have hr := h.truth h0 (mAddL_OK (x := i32 a) (y := i32 b) (n := lk c) h.1) (mAddL_WI h.2.1 h4 ha hb) (Int.le_refl _) (by show lk c ≤ (i32 (lk c + 1)).toNatClampNeg; rw [gnat (by omega)]; omega)
        simp only [if_pos h4, if_neg (show ¬ lk c = 4 by omega), e1, g1, obind, e2]
        refine Both.of (r := i32 (lk c + 1) - 1) ?_ ?_ hr
        · rw [put_at (a := 5) (b := 3) rfl]; rfl
        · rw [rR (a := 5) (b := 3) rfl]; rfl
      · simp only [if_neg h4, if_pos (show lk c = 4 by omega)]
        exact bad6
    · simp only [if_neg h2]
      exact bad2
  · simp only [if_neg h1]
    exact bad2
/-- the tape has changed -/
theorem RR.tape {S' s' : SS} (h : RR L S T) (e1 : S'.2 = S.2 ∧ ∀ p : Nat, p ≠ 58 → p ≠ 59 → S'.1 p = S.1 p) (e2 : s'.2 = (T.2 []).2 ∧ ∀ a b : Nat, relT a b → ¬ (a = 0 ∧ b = 7) → a ≠ 15 → s'.1 a b = (T.2 []).1 a b) (e3 : TPr S' s') : RR L S' (wrT T [] s') := by
  obtain ⟨h0, c, N, t, M, h1, hW, h3, h4, h5, h7, h8, h9⟩ := h
  have n7 : φR 0 7 = none := rfl
  have n15 : ∀ j : Nat, φR 15 j = none := fun j => by
    unfold φR φR1
    rw [if_neg (by omega)]
    repeat rw [if_neg (by omega)]
  refine ⟨h0, c, N, t, M, h1, hW, h3.same (fun p p1 p2 => e1.2 p (by omega) (by omega)), fun a b u v e => ?_, ?_, fun q hq => ?_, by rw [wrT_same]; exact e3, fun j j1 j2 => ?_⟩
  · rw [wrT_same, e2.2 a b (φR_rel e) (fun z => by rw [z.1, z.2, n7] at e; cases e) (fun z => by rw [z, n15] at e; cases e)]
    exact h4 a b u v e
  · unfold KR at h5 ⊢
    rw [e1.2 0 (by decide) (by decide), wrT_ne (show ([8] : List Nat) ≠ [] by decide)]
    rcases h5 with h | ⟨ha, hc, ck, N1, t1, M1, k1, k2, k3, k4⟩
    · exact Or.inl h
    · exact Or.inr ⟨ha, hc, ck, N1, t1, M1, k1, k2, k3.same (fun p p1 p2 => e1.2 p (by omega) (by omega)), k4⟩
  · rw [wrT_same]
    have := h7 q hq
    unfold SHr at this ⊢
    rw [e1.2 (61 + 2 * q) (by omega) (by omega), e1.1, e2.1, e2.2 1 q ⟨fun z => by omega, by decide⟩ (by omega) (by decide), e2.2 2 q ⟨fun z => by omega, by decide⟩ (by omega) (by decide), e2.2 3 q ⟨fun z => by omega, by decide⟩ (by omega) (by decide), e2.2 14 q ⟨fun z => by omega, by decide⟩ (by omega) (by decide)]
    exact this
  · rw [wrT_same, e1.2 60 (by decide) (by decide), e2.2 16 j ⟨fun z => by omega, by decide⟩ (by omega) (by decide)]
    exact h9 j j1 j2
theorem both_wipe (h : RR L S T) : Both L (fX5_wipe S) (fX6_wipe (T.2 [])) T := by
  have hh := h
  obtain ⟨h0, c, N, t, M, h⟩ := h
  obtain ⟨⟨n, hn, e1, e2⟩, hb⟩ := h.2.2.2.2.2.2.1
  unfold fX5_wipe fX5_wipe_0 fX6_wipe fX6_wipe_0
  rw [e1, e2]
  refine Both.of rfl rfl (hh.tape ⟨rfl, fun p h8 _ => upd2_ne h8⟩ ⟨rfl, fun a b _ hab _ => ?_⟩ ⟨⟨0, by decide, ?_, ?_⟩, fun j hj => ?_⟩)
  · show upd2 _ 0 7 0 a b = _
    by_cases z : a = 0
    · subst z
      rw [upd2_same, if_neg (by omega)]
    · rw [upd2_ne z]
  · show upd2 S.1 58 1 0 58 1 = _
    rw [upd2_same, if_pos rfl]; rfl
  · show upd2 (T.2 []).1 0 7 0 0 7 = _
    rw [upd2_same, if_pos rfl]; rfl
  · exact hb j hj
theorem both_feed (h : RR L S T) : Both L (fX5_feed x S) (fX6_feed x (T.2 [])) T := by
  have hh := h
  have bad2 := bad_of (a := 2) h (by decide) (by decide)
  have bad6 := bad_of (a := 6) h (by decide) (by decide)
  obtain ⟨h0, c, N, t, M, h⟩ := h
  obtain ⟨⟨n, hn, e1, e2⟩, hb⟩ := h.2.2.2.2.2.2.1
  have ea : (selS (fun k => 58 + k) S).1 0 1 = i32 n := e1
  unfold fX5_feed fX5_feed_0 fX6_feed fX6_feed_0 fX1_append fX1_append_0
  simp only [okC_within, in0255, obind, iteB, e1, e2, ea, lt_l (a := n) (n := 250) (by unfold B31; omega) (by decide), eq_l (a := n) (n := 250) (by unfold B31; omega) (by decide), l_le (a := n) (n := 250) (by unfold B31; omega) (by decide)]
  by_cases h1 : 0 ≤ x ∧ x ≤ 255
  · simp only [if_pos h1]
    by_cases h2 : n < 250
    · simp only [if_pos h2, if_neg (show ¬ n = 250 by omega), if_neg (show ¬ 250 ≤ n by omega), if_pos (gix h2 (show 250 ≤ 1000 by decide)), gnat (show n ≤ 1000 by omega), obind, i32_succ]
      have mg := mrg2 (A := 58) (S := S) (s := wrI (wrI (selS (fun k => 58 + k) S) 1 n x) 0 1 (i32 (n + 1)))
      have e58 : (mrgS (fun k => 58 + k) 2 S (wrI (wrI (selS (fun k => 58 + k) S) 1 n x) 0 1 (i32 (n + 1)))).1 58 1 = i32 (n + 1) := by
        rw [mg.2.1.1]; rfl
      rw [e58]
      refine Both.of rfl rfl (hh.tape ⟨?_, fun p h8 h9 => (mg.1 p h8 h9).1⟩ ⟨rfl, fun a b _ hab h15 => ?_⟩ ⟨⟨n + 1, by omega, e58, ?_⟩, fun j hj => ?_⟩)
      · funext p
        by_cases h8 : p = 58
        · subst h8; rw [mg.2.2.1]; rfl
        · by_cases h9 : p = 59
          · subst h9; rw [mg.2.2.2]; rfl
          · exact (mg.1 p h8 h9).2
      · show upd2 (upd2 _ 0 7 _) 15 n x a b = _
        rw [upd2_ne h15]
        by_cases z : a = 0
        · subst z
          rw [upd2_same, if_neg (by omega)]
        · rw [upd2_ne z]
      · show upd2 (upd2 (T.2 []).1 0 7 (i32 (n + 1))) 15 n x 0 7 = _
        rw [upd2_ne (by decide), upd2_same, if_pos rfl]
      · rw [mg.2.1.2]
        show upd2 (upd2 (fun k => S.1 (58 + k)) 1 n x) 0 1 (i32 (n + 1)) 1 j = upd2 (upd2 (T.2 []).1 0 7 (i32 (n + 1))) 15 n x 15 j
        rw [upd2_ne (by decide), upd2_same, upd2_same]
        by_cases z : j = n
        · rw [if_pos z, if_pos z]
        · rw [if_neg z, if_neg z, upd2_ne (by decide)]
          exact hb j hj
    · simp only [if_neg h2, if_pos (show n = 250 by omega)]
      exact bad6
  · simp only [if_neg h1]
    exact bad2
end SETUP
