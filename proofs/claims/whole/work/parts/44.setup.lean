/-! PURE MATHEMATICS, 26: what is set up. -/
theorem in38 {x : Int32} {s : SS} : fX6_in x.toInt64 (3 : Int64) (8 : Int64) s = some (if 3 ≤ x ∧ x ≤ 8 then 1 else 0, s) := okR_in32 (by decide) (by decide)
theorem in09 {x : Int32} {s : SS} : fX6_in x.toInt64 (0 : Int64) (9 : Int64) s = some (if 0 ≤ x ∧ x ≤ 9 then 1 else 0, s) := okR_in32 (by decide) (by decide)
theorem in099 {x : Int32} {s : SS} : fX6_in x.toInt64 (0 : Int64) (99 : Int64) s = some (if 0 ≤ x ∧ x ≤ 99 then 1 else 0, s) := okR_in32 (by decide) (by decide)
theorem in020 {x : Int32} {s : SS} : fX6_in x.toInt64 (0 : Int64) (20 : Int64) s = some (if 0 ≤ x ∧ x ≤ 20 then 1 else 0, s) := okR_in32 (by decide) (by decide)
theorem in120 {x : Int32} {s : SS} : fX6_in x.toInt64 (1 : Int64) (20 : Int64) s = some (if 1 ≤ x ∧ x ≤ 20 then 1 else 0, s) := okR_in32 (by decide) (by decide)
theorem in1999 {x : Int32} {s : SS} : fX6_in x.toInt64 (1 : Int64) (999 : Int64) s = some (if 1 ≤ x ∧ x ≤ 999 then 1 else 0, s) := okR_in32 (by decide) (by decide)
theorem in05 {x : Int32} {s : SS} : fX6_in x.toInt64 (0 : Int64) (5 : Int64) s = some (if 0 ≤ x ∧ x ≤ 5 then 1 else 0, s) := okR_in32 (by decide) (by decide)
theorem in0255 {x : Int32} {s : SS} : fX6_in x.toInt64 (0 : Int64) (255 : Int64) s = some (if 0 ≤ x ∧ x ≤ 255 then 1 else 0, s) := okR_in32 (by decide) (by decide)
theorem of_bet {x : Int32} {a b : Nat} (hb : b ≤ 1000) (h : i32 a ≤ x ∧ x ≤ i32 b) (ha : a ≤ b) : ∃ n : Nat, a ≤ n ∧ n ≤ b ∧ x = i32 n := by
  have h1 := Int32.le_iff_toInt_le.mp h.1
  have h2 := Int32.le_iff_toInt_le.mp h.2
  rw [i32_toInt (by unfold B31; omega)] at h1 h2
  obtain ⟨n, hn, e, et⟩ := of_nn (x := x) (by omega)
  exact ⟨n, by omega, by omega, e⟩
section SETUP
variable {c d : CN} {N t M : Nat} {L L' : Int} {v : CN} {w : Nat → Nat → Int64} {S : SS} {T : TF} {x y : Int32}
theorem hold_C2 (h : Hold (atL 1 φW) c v) : Hold (atL 2 φC) c v := fun k j a b e => by
  unfold atL at e
  split at e
  · have hk : k - 2 < 5 := Nat.not_le.mp (fun z => by rw [φC_5 _ j z] at e; cases e)
    refine h k j a b ?_
    unfold atL
    rw [if_pos (by omega)]
    have := fW_cone (k := k - 2) (j := j) hk
    rw [show 1 + (k - 2) = k - 1 by omega] at this
    rw [this]
    exact e
  · cases e
/-- a changed cone is a changed world -/
theorem coneW (h : Hold (atL 1 φW) c v) (hd : ∀ p : Nat, 5 ≤ p → d p = c p) : put (atL 2 φC) d v = put (atL 1 φW) d v := by
  funext k j
  cases q : atL 1 φW k j with
  | none =>
    rw [put_off q]
    refine put_off ?_
    unfold atL at q ⊢
    by_cases h2 : 2 ≤ k
    · rw [if_pos (by omega)] at q
      rw [if_pos h2]
      by_cases hk : k - 2 < 5
      · have := fW_cone (k := k - 2) (j := j) hk
        rw [show 1 + (k - 2) = k - 1 by omega] at this
        rw [← this]; exact q
      · exact φC_5 _ _ (by omega)
    · rw [if_neg h2]
  | some z =>
    rw [put_at (a := z.1) (b := z.2) q]
    cases r : atL 2 φC k j with
    | some y =>
      have hy := hold_C2 (c := fun a b => i32 (a * 100 + b)) (v := put (atL 1 φW) (fun a b => i32 (a * 100 + b)) v) Hold_put
      have e : y = z := by
        have h2 : 2 ≤ k := Nat.not_lt.mp (fun z => by unfold atL at r; rw [if_neg (by omega)] at r; cases r)
        have hk : k - 2 < 5 := Nat.not_le.mp (fun z => by unfold atL at r; rw [if_pos h2, φC_5 _ j z] at r; cases r)
        have := fW_cone (k := k - 2) (j := j) hk
        rw [show 1 + (k - 2) = k - 1 by omega] at this
        unfold atL at q r
        rw [if_pos (by omega), this] at q
        rw [if_pos h2, q] at r
        exact (Option.some.inj r).symm
      rw [put_at (a := y.1) (b := y.2) r, e]
    | none =>
      rw [put_off r, h k j z.1 z.2 q, hd z.1 ?_]
      refine Nat.not_lt.mp (fun hz => ?_)
      have h1 : 1 ≤ k := Nat.not_lt.mp (fun z => by unfold atL at q; rw [if_neg (by omega)] at q; cases q)
      unfold atL at q
      rw [if_pos h1] at q
      have e := ψW_of (k - 1) j z q
      unfold ψW at e
      rw [if_pos hz] at e
      have e1 := congrArg Prod.fst e
      dsimp only at e1
      have hk : k - 2 < 5 := by omega
      have := fW_cone (k := k - 2) (j := j) hk
      rw [show 1 + (k - 2) = k - 1 by omega, q] at this
      unfold atL at r
      rw [if_pos (by omega), ← this] at r
      cases r
theorem RC.cells (h : RC c N t M L S T) : S.1 2 0 = i32 N ∧ S.1 2 1 = i32 t ∧ S.1 2 11 = i32 M ∧ (T.2 []).1 0 9 = i32 N ∧ (T.2 []).1 0 15 = i32 t ∧ (T.2 []).1 0 10 = i32 M := by
  have hH := h.1.1
  exact ⟨(h.2.2.1 2 0 0 0 rfl).trans hH.1, (h.2.2.1 2 1 0 1 rfl).trans hH.2.1, (h.2.2.1 2 11 0 11 rfl).trans hH.2.2.1, (h.2.2.2.1 0 9 0 0 rfl).trans hH.1, (h.2.2.2.1 0 15 0 1 rfl).trans hH.2.1, (h.2.2.2.1 0 10 0 11 rfl).trans hH.2.2.1⟩
theorem WI.of (h : WI c) (hd : ∀ p : Nat, 5 ≤ p → d p = c p) : WI d := by
  unfold WI at h ⊢
  rw [hd 5 (by decide), hd 6 (by decide), hd 7 (by decide)]
  exact h
/-- the reference's call over its own object -/
theorem okR_at {ρ : Type} {f : SS → Option (ρ × SS)} {r : ρ} (h : Hold φR c (T.2 []).1) (e : ∀ (u : CN) (w : Nat → Nat → Int64), f (put φR c u, w) = some (r, (put φR d u, w))) : f (T.2 []) = some (r, (put φR d (T.2 []).1, (T.2 []).2)) := by
  have := e (T.2 []).1 (T.2 []).2
  rw [← h.mk] at this
  exact this
/-- the class's call over its cone -/
theorem okM_at {ρ : Type} {f : SS → Option (ρ × SS)} {r : ρ} (h : Hold (atL 1 φW) c v) (hd : ∀ p : Nat, 5 ≤ p → d p = c p) (e : ∀ (u : CN) (w : Nat → Nat → Int64), f (put φC c u, w) = some (r, (put φC d u, w))) : ∃ z : SS, f (selS (fun k => 2 + k) (v, w)) = some (r, z) ∧ mrgS (fun k => 2 + k) 5 (v, w) z = (put (atL 1 φW) d v, w) := by
  refine ⟨_, by rw [sel_at (hold_C2 h)]; exact e _ _, ?_⟩
  rw [mrg_C, coneW h hd]
theorem okM_rd {ρ : Type} {f : SS → Option (ρ × SS)} {r : ρ} (h : Hold (atL 1 φW) c v) (e : ∀ (u : CN) (w : Nat → Nat → Int64), f (put φC c u, w) = some (r, (put φC c u, w))) : ∃ z : SS, f (selS (fun k => 2 + k) (v, w)) = some (r, z) ∧ mrgS (fun k => 2 + k) 5 (v, w) z = (v, w) := by
  obtain ⟨z, h1, h2⟩ := okM_at (w := w) h (fun _ _ => rfl) e
  exact ⟨z, h1, by rw [h2, h.eq]⟩
theorem mSides_OK {n : Nat} (h : OK c N t 0 L) (h3 : 3 ≤ n) (h8 : n ≤ 8) : OK (mSides (i32 n) c) n 0 0 L := by
  refine ⟨⟨rfl, rfl, h.1.2.2.1, h3, h8, by omega, by omega⟩, ⟨h.2.1.1, h.2.1.2.1, h.2.1.2.2.1, h.2.1.2.2.2.1, h.2.1.2.2.2.2⟩, fun j h7 h10 => ?_, h.2.2.2⟩
  have : mSides (i32 n) c 0 j = c 0 j := by
    unfold mSides
    rw [upd2_same, if_neg (by omega), upd2_same, if_neg (by omega), upd2_same, if_neg (by omega)]
  rw [this]
  exact h.2.2.1 j h7 h10
theorem both_sides (h : RR L S T) : Both L (fX5_sides x S) (fX6_sides x (T.2 [])) T := by
  have bad2 := bad_of (a := 2) h (by decide) (by decide)
  have bad5 := bad_of (a := 5) h (by decide) (by decide)
  obtain ⟨h0, c, N, t, M, h⟩ := h
  obtain ⟨v, w⟩ := S
  obtain ⟨c1, c2, c3, c4, c5, c6⟩ := h.cells
  dsimp only at c1 c2 c3
  have hM := h.1.1.m3
  unfold fX5_sides fX5_sides_0 fX6_sides fX6_sides_0
  simp only [okC_within, in38, obind, iteB, c1, c3, c4, c6]
  by_cases h1 : 3 ≤ x ∧ x ≤ 8
  · obtain ⟨n, n3, n8, e⟩ := of_bet (a := 3) (b := 8) (by decide) h1 (by decide)
    subst e
    simp only [if_pos h1]
    by_cases hz : i32 M ≤ 0
    · have hM0 : M = 0 := by have := (le_l (n := 0) (by unfold B31; omega) (by decide)).mp hz; omega
      subst hM0
      obtain ⟨z, e1, e2⟩ := okM_at (w := w) (d := mSides (i32 n) c) h.2.2.1 (fun p hp => by unfold mSides; rw [upd2_ne (by omega), upd2_ne (by omega), upd2_ne (by omega)]) (fun u w => okC_sides (x := i32 n))
      have g1 := okR_at h.2.2.2.1 (fun u w => okR_sides (x := i32 n) (c := c) (u := u) (w := w))
      simp only [if_pos hz, e1, g1, obind, e2]
      exact Both.of rfl rfl (h.truth h0 (mSides_OK h.1 n3 n8) (h.2.1.of (fun p hp => by unfold mSides; rw [upd2_ne (by omega), upd2_ne (by omega), upd2_ne (by omega)])) (Int.le_refl _) (Nat.le_refl _))
    · simp only [if_neg hz]
      exact bad5
  · simp only [if_neg h1]
    exact bad2
theorem zeroW_p {p : Nat} (h : p ≠ 3) : zeroW M c p = c p := by
  unfold zeroW
  exact up_inv (P := fun d => d p = c p) (fun k d q => (upd2_ne h).trans q) 8 0 c rfl
theorem zeroW_wt (hM : M < 3) (hb : ∀ i k : Nat, i < 3 → k < 8 → 0 ≤ wt c i k ∧ wt c i k ≤ 20) : ∀ i k : Nat, i < 3 → k < 8 → 0 ≤ wt (zeroW M c) i k ∧ wt (zeroW M c) i k ≤ 20 := by
  unfold zeroW
  refine up_inv (P := fun d => ∀ i k : Nat, i < 3 → k < 8 → 0 ≤ wt d i k ∧ wt d i k ≤ 20) (fun k d q i' k' hi' hk' => ?_) 8 0 c hb
  unfold wt
  rw [upd2_same]
  split
  · exact ⟨Int.le_refl _, by decide⟩
  · exact q i' k' hi' hk'
theorem mTop_OK {a b : Nat} (h : OK c N t M L) (hM : M < 3) (ha : a ≤ 9) (hb : b ≤ 99) : OK (mTop M (i32 a) (i32 b) c) N t (M + 1) L := by
  have hp : ∀ p : Nat, p ≠ 0 → p ≠ 3 → mTop M (i32 a) (i32 b) c p = upd2 (upd2 c 1 M (i32 a)) 2 M (i32 b) p := fun p h0 h3 => by
    unfold mTop
    rw [upd2_ne h0, zeroW_p h3]
  have h00 : ∀ j : Nat, j ≠ 11 → mTop M (i32 a) (i32 b) c 0 j = c 0 j := fun j hj => by
    unfold mTop
    rw [upd2_same, if_neg hj, zeroW_p (by decide)]
    rfl
  refine ⟨⟨(h00 0 (by decide)).trans h.1.1, (h00 1 (by decide)).trans h.1.2.1, ?_, h.1.n3, h.1.n8, h.1.tN, by omega⟩, ⟨fun i hi => ?_, fun i hi => ?_, fun i k hi hk => ?_, fun k hk => ?_, ?_⟩, fun j h7 h10 => ?_, h.2.2.2⟩
  · show upd2 _ 0 11 (c 0 11 + 1) 0 11 = _
    rw [upd2_same, if_pos rfl, h.1.2.2.1, i32_succ]
  · rw [hp 1 (by decide) (by decide), upd2_ne (by decide), upd2_same]
    split
    · rw [i32_toInt (by unfold B31; omega)]; omega
    · exact h.2.1.1 i hi
  · rw [hp 2 (by decide) (by decide), upd2_same]
    split
    · rw [i32_toInt (by unfold B31; omega)]; omega
    · exact h.2.1.2.1 i hi
  · have : wt (mTop M (i32 a) (i32 b) c) i k = wt (zeroW M (upd2 (upd2 c 1 M (i32 a)) 2 M (i32 b))) i k := by
      unfold wt mTop
      rw [upd2_ne (by decide)]
    rw [this]
    exact zeroW_wt hM (fun i k hi hk => h.2.1.2.2.1 i k hi hk) i k hi hk
  · rw [hp 4 (by decide) (by decide), upd2_ne (by decide), upd2_ne (by decide)]
    exact h.2.1.2.2.2.1 k hk
  · rw [h00 3 (by decide), h00 4 (by decide), h00 5 (by decide), h00 6 (by decide)]
    exact h.2.1.2.2.2.2
  · rw [h00 j (by omega)]
    exact h.2.2.1 j h7 h10
theorem mTop_p {a b : Int32} {p : Nat} (hp : 5 ≤ p) : mTop M a b c p = c p := by
  unfold mTop
  rw [upd2_ne (by omega), zeroW_p (by omega), upd2_ne (by omega), upd2_ne (by omega)]
theorem both_scoop (h : RR L S T) : Both L (fX5_scoop x y S) (fX6_scoop x y (T.2 [])) T := by
  have bad2 := bad_of (a := 2) h (by decide) (by decide)
  have bad6 := bad_of (a := 6) h (by decide) (by decide)
  obtain ⟨h0, c, N, t, M, h⟩ := h
  obtain ⟨v, w⟩ := S
  obtain ⟨c1, c2, c3, c4, c5, c6⟩ := h.cells
  dsimp only at c1 c2 c3
  have hM := h.1.1.m3
  unfold fX5_scoop fX5_scoop_0 fX5_scoop_20 fX6_scoop fX6_scoop_0 fX6_scoop_24
  simp only [okC_within, in09, in099, obind, iteB, c3, c6, lt_l (a := M) (n := 3) (by unfold B31; omega) (by decide), eq_l (a := M) (n := 3) (by unfold B31; omega) (by decide)]
  by_cases h1 : 0 ≤ x ∧ x ≤ 9
  · obtain ⟨a, ha, e⟩ := of_le (b := 9) (by decide) h1
    subst e
    simp only [if_pos h1]
    by_cases h2 : 0 ≤ y ∧ y ≤ 99
    · obtain ⟨b, hb, e⟩ := of_le (b := 99) (by decide) h2
      subst e
      simp only [if_pos h2]
      by_cases h3 : M < 3
      · obtain ⟨z, e1, e2⟩ := okM_at (w := w) (d := mTop M (i32 a) (i32 b) c) h.2.2.1 (fun p hp => mTop_p hp) (fun u w => okC_top h.1.1 h3)
        have g1 := okR_at h.2.2.2.1 (fun u w => okR_add (x := i32 a) (y := i32 b) (u := u) (w := w) h.1.1 h3)
        have hok := mTop_OK h.1 h3 ha hb
        have hr := h.truth h0 hok (h.2.1.of (fun p hp => mTop_p hp)) (Int.le_refl _) (by unfold lk; rw [mTop_p (by decide)]; exact Nat.le_refl _)
        simp only [if_pos h3, if_neg (show ¬ M = 3 by omega), e1, g1, obind, e2]
        refine Both.of (r := i32 (M + 1) - 1) ?_ ?_ hr
        · rw [put_at (a := 0) (b := 11) rfl, hok.1.2.2.1]
        · rw [rR (a := 0) (b := 11) rfl, hok.1.2.2.1]
      · simp only [if_neg h3, if_pos (show M = 3 by omega)]
        exact bad6
    · simp only [if_neg h2]
      exact bad2
  · simp only [if_neg h1]
    exact bad2
end SETUP
