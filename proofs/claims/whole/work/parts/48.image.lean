/-! PURE MATHEMATICS, 30: image and back. -/
section IMAGE
variable {c d : CN} {N t M : Nat} {L L' : Int} {v : CN} {w : Nat → Nat → Int64} {S : SS} {T : TF} {x y : Int32}
theorem hold_W10 (h : Hold φW c (fun k => v (9 + k))) : Hold (atL 10 φC) c v := by
  refine Hold.of_at (fun k j a b e => ?_)
  have hk : k < 5 := Nat.not_le.mp (fun z => by rw [φC_5 k j z] at e; cases e)
  have := h (1 + k) j a b (by rw [fW_cone hk]; exact e)
  dsimp only at this
  rw [show 9 + (1 + k) = 10 + k by omega] at this
  exact this
theorem cpy4 {f g : Nat → Int32} {n : Nat} : (fun j => if j < n then f j else g j) = (fun j => if j < n then f j else g j) := rfl
/-- a world taken from another -/
theorem okW_takeFrom (h : Hold φW c (fun k => v (9 + k))) : fX4_takeFrom (v, w) = some ((), (put φW c v, w)) := by
  have a4 : acOK (0 : Int32) (0 : Int32) (4 : Int32) 4 4 := acok 4 4 4 (by decide) (by decide) (by decide)
  have a20 : acOK (0 : Int32) (0 : Int32) (20 : Int32) 20 20 := acok 20 20 20 (by decide) (by decide) (by decide)
  have p1 := okM_take (A := 1) (B := 10) (w := w) (Or.inl (by decide)) (hold_W10 h)
  have off : ∀ p : Nat, p = 0 ∨ 6 ≤ p → put (atL 1 φC) c v p = v p := fun p hp => by
    funext j
    exact put_off (atL_off φC_5 p j (by omega))
  have k6 : ∀ j : Nat, j < 4 → v 15 j = c 6 j := fun j hj => h 6 j 6 j (by unfold φW; rw [if_neg (by decide), if_neg (by decide), if_pos rfl, if_pos hj])
  have k7 : ∀ j : Nat, j < 4 → v 16 j = c 7 j := fun j hj => h 7 j 7 j (by unfold φW; rw [if_neg (by decide), if_neg (by decide), if_neg (by decide), if_pos rfl, if_pos hj])
  have k8 : ∀ j : Nat, j < 20 → v 17 j = c 8 j := fun j hj => h 8 j 8 j (by unfold φW; rw [if_neg (by decide), if_neg (by decide), if_neg (by decide), if_neg (by decide), if_pos rfl, if_pos hj])
  have k3 : v 9 3 = c 5 3 := h 0 3 5 3 rfl
  have k5 : v 9 5 = c 5 5 := h 0 5 5 5 rfl
  have k6' : v 9 6 = c 5 6 := h 0 6 5 6 rfl
  unfold fX4_takeFrom fX4_takeFrom_0
  rw [p1, obind]
  simp only [mrg_take (A := 1) (B := 10) (Or.inl (by decide))]
  rw [if_pos a4, if_pos a4, if_pos a20]
  refine congrArg some (Prod.ext rfl (Prod.ext ?_ rfl))
  unfold wrA wrI
  dsimp only
  rw [show (0 : Int32).toNatClampNeg = 0 from rfl, show (4 : Int32).toNatClampNeg = 4 from rfl, show (20 : Int32).toNatClampNeg = 20 from rfl, cpy0, cpy0, cpy0]
  rw [off 9 (by decide), off 15 (by decide), off 16 (by decide), off 17 (by decide), off 6 (by decide), off 7 (by decide), off 8 (by decide), k3, k5, k6']
  funext k j
  by_cases h0 : k = 0
  · subst h0
    rw [upd2_same, upd2_same, updA_ne (by decide), upd2_same, updA_ne (by decide), updA_ne (by decide), off 0 (by decide)]
    by_cases j6 : j = 6
    · subst j6; rw [if_pos rfl]; exact (put_at (φ := φW) (a := 5) (b := 6) rfl).symm
    · rw [if_neg j6]
      by_cases j5 : j = 5
      · subst j5; rw [if_pos rfl]; exact (put_at (φ := φW) (a := 5) (b := 5) rfl).symm
      · rw [if_neg j5]
        by_cases j3 : j = 3
        · subst j3; rw [if_pos rfl]; exact (put_at (φ := φW) (a := 5) (b := 3) rfl).symm
        · rw [if_neg j3]
          refine (put_off ?_).symm
          unfold φW
          rw [if_pos rfl, if_neg j3, if_neg j5, if_neg j6]
  · rw [upd2_ne h0, upd2_ne h0]
    by_cases h8 : k = 8
    · subst h8
      rw [updA_same]
      by_cases hj : j < 20
      · rw [if_pos hj, k8 j hj]
        exact (put_at (φ := φW) (a := 8) (b := j) (by unfold φW; rw [if_neg (by decide), if_neg (by decide), if_neg (by decide), if_neg (by decide), if_pos rfl, if_pos hj])).symm
      · rw [if_neg hj]
        exact (put_off (φ := φW) (by unfold φW; rw [if_neg (by decide), if_neg (by decide), if_neg (by decide), if_neg (by decide), if_pos rfl, if_neg hj])).symm
    · rw [updA_ne h8, upd2_ne h0]
      by_cases h7 : k = 7
      · subst h7
        rw [updA_same]
        by_cases hj : j < 4
        · rw [if_pos hj, k7 j hj]
          exact (put_at (φ := φW) (a := 7) (b := j) (by unfold φW; rw [if_neg (by decide), if_neg (by decide), if_neg (by decide), if_pos rfl, if_pos hj])).symm
        · rw [if_neg hj]
          exact (put_off (φ := φW) (by unfold φW; rw [if_neg (by decide), if_neg (by decide), if_neg (by decide), if_pos rfl, if_neg hj])).symm
      · rw [updA_ne h7]
        by_cases h6 : k = 6
        · subst h6
          rw [updA_same]
          by_cases hj : j < 4
          · rw [if_pos hj, k6 j hj]
            exact (put_at (φ := φW) (a := 6) (b := j) (by unfold φW; rw [if_neg (by decide), if_neg (by decide), if_pos rfl, if_pos hj])).symm
          · rw [if_neg hj]
            exact (put_off (φ := φW) (by unfold φW; rw [if_neg (by decide), if_neg (by decide), if_pos rfl, if_neg hj])).symm
        · rw [updA_ne h6]
          by_cases h5 : k ≤ 5
          · have e := fW_cone (k := k - 1) (j := j) (by omega)
            rw [show 1 + (k - 1) = k by omega] at e
            unfold put
            rw [e]
            unfold atL
            rw [if_pos (by omega)]
          · rw [off k (by omega)]
            exact (put_off (φW_9 k j (by omega))).symm
theorem hold_W2 {A B : Nat} (h : Hold (atL B φW) c v) : Hold φW c (fun k => (fun k => v (if k < 9 then A + k else B + (k - 9))) (9 + k)) := h.at2 (n := 9)
theorem okM_takeW {A B : Nat} (hd : A + 9 ≤ B ∨ B + 9 ≤ A) (h : Hold (atL B φW) c v) : ∃ z : SS, fX4_takeFrom (selS (fun k => if k < 9 then A + k else B + (k - 9)) (v, w)) = some ((), z) ∧ mrgS (fun k => if k < 9 then A + k else B + (k - 9)) 18 (v, w) z = (put (atL A φW) c v, w) :=
  ⟨_, okW_takeFrom (v := fun k => v (if k < 9 then A + k else B + (k - 9))) (hold_W2 h), mrg_atL2 (n := 9) φW_9 hd⟩
theorem both_image (h : RR L S T) : BothT L (fX5_image S) (fX6_image [] T) := by
  obtain ⟨h0, c, N, t, M, h⟩ := h
  obtain ⟨v, w⟩ := S
  obtain ⟨z, e1, e2⟩ := okM_takeW (A := 10) (B := 1) (w := w) (Or.inr (by decide)) h.2.2.1
  dsimp only at e1 e2
  have go : ∀ T1 : TF, T1.1 [8] = true → T1.2 [] = T.2 [] → T1.1 [] = true → ∃ T' : TF, fX6_image_18 [] T1 = some (1, T') ∧ T'.1 = T1.1 ∧ T'.2 [] = T.2 [] ∧ Hold φR c (T'.2 [8]).1 := by
    intro T1 hf he _
    unfold fX6_image_18
    rw [if_pos hf, he, okR_take h.2.2.2.1, obind]
    refine ⟨_, rfl, rfl, ?_, ?_⟩
    · rw [wrT_same, snS_pr]
    · rw [wrT_ne (show ([8] : List Nat) ≠ [] by decide), wrT_same]
      exact Hold_prS Hold_put
  have ref : ∃ T' : TF, fX6_image [] T = some (1, T') ∧ T'.1 [8] = true ∧ T'.1 [] = true ∧ T'.2 [] = T.2 [] ∧ Hold φR c (T'.2 [8]).1 := by
    unfold fX6_image fX6_image_0
    by_cases hf : T.1 [8] = true
    · rw [if_pos hf]
      obtain ⟨T', q1, q2, q3, q4⟩ := go T hf rfl h0
      exact ⟨T', q1, by rw [q2]; exact hf, by rw [q2]; exact h0, q3, q4⟩
    · rw [if_neg hf, if_pos (show [8] ∈ UF by decide)]
      obtain ⟨T', q1, q2, q3, q4⟩ := go (mkT T [8] S0R) mkT_at (show (if ([] : List Nat) = [8] then S0R else T.2 []) = T.2 [] from if_neg (by decide)) (mkT_le [] h0)
      exact ⟨T', q1, by rw [q2]; exact mkT_at, by rw [q2]; exact mkT_le [] h0, q3, q4⟩
  obtain ⟨T', q1, q2, q3, q4, q5⟩ := ref
  have hS : ∀ p : Nat, p ≠ 0 → (p < 10 ∨ 19 ≤ p) → (wrI (put (atL 10 φW) c v, w) 0 8 1).1 p = v p := fun p p0 hp => by
    show upd2 (put (atL 10 φW) c v) 0 8 1 p = v p
    rw [upd2_ne p0]
    funext j
    exact put_off (atW_off (by omega))
  refine ⟨1, wrI (put (atL 10 φW) c v, w) 0 8 1, T', ?_, q1, q3, c, N, t, M, h.1, h.2.1, h.2.2.1.same (fun p p1 p2 => hS p (by omega) (by omega)), by rw [q4]; exact h.2.2.2.1, Or.inr ⟨?_, q2, c, N, t, M, h.1, h.2.1, ?_, q5⟩, fun q hq => ?_, ?_, fun j j1 j2 => ?_⟩
  · unfold fX5_image fX5_image_0
    rw [e1, obind]
    dsimp only
    rw [e2]
  · show ¬ upd2 (put (atL 10 φW) c v) 0 8 1 0 8 = 0
    rw [upd2_same, if_pos rfl]
    decide
  · refine Hold.same (v := put (atL 10 φW) c v) Hold_put (fun p p1 p2 => ?_)
    show upd2 (put (atL 10 φW) c v) 0 8 1 p = _
    rw [upd2_ne (by omega)]
  · rw [q4]
    refine (h.2.2.2.2.2.1 q hq).same (Nat.le_refl _) (fun p hp => hS p (by omega) (by omega)) rfl (fun _ _ _ => rfl) rfl
  · have := h.2.2.2.2.2.2.1
    unfold TPr at this ⊢
    rw [q4, hS 58 (by decide) (by decide), hS 59 (by decide) (by decide)]
    exact this
  · rw [q4, hS 60 (by decide) (by decide)]
    exact h.2.2.2.2.2.2.2 j j1 j2
theorem SHr.lk_le {n n' : Nat} {s : SS} {q : Nat} (h : SHr n S s q) (hn : ∀ l : Nat, S.1 (61 + 2 * q) 0 = i32 (10 + l) → l < n → l < n') : SHr n' S s q := by
  rcases h with h | h | ⟨l, a1, a2, a3, a4⟩
  · exact Or.inl h
  · exact Or.inr (Or.inl h)
  · exact Or.inr (Or.inr ⟨l, hn l a3 a1, a2, a3, a4⟩)
theorem back_loop {n n0 : Nat} (hn : n ≤ 4) : ∀ (m k f g : Nat) (v : CN) (t : TF), k + m = 8 → m < f → m < g → v 1 3 = i32 n → (t.2 []).1 0 22 = i32 n → (∀ q : Nat, q < 8 → SHr (if q < k then n else n0) (v, w) (t.2 []) q) → ∃ (v' : CN) (t' : TF), fX5_back_27 f (i32 k) (v, w) = some (1, (v', w)) ∧ fX6_back_24 [] g (i32 k) t = some (1, t') ∧ (∀ q : Nat, q < 8 → SHr n (v', w) (t'.2 []) q) ∧ (∀ p : Nat, p ≤ 60 → v' p = v p) ∧ t'.1 = t.1 ∧ t'.2 [8] = t.2 [8] ∧ (t'.2 []).2 = (t.2 []).2 ∧ ∀ a b : Nat, a ≠ 1 → (t'.2 []).1 a b = (t.2 []).1 a b
  | m, k, 0, g, v, t => fun _ h => absurd h (Nat.not_lt_zero _)
  | m, k, f + 1, 0, v, t => fun _ _ h => absurd h (Nat.not_lt_zero _)
  | 0, k, f + 1, g + 1, v, t => fun hk _ _ _ _ hs => by
    have : k = 8 := by omega
    subst this
    unfold fX5_back_27 fX6_back_24
    rw [if_pos (show (8 : Int32) ≤ i32 8 by decide), if_pos (show (8 : Int32) ≤ i32 8 by decide)]
    exact ⟨v, t, rfl, rfl, fun q hq => by have := hs q hq; rw [if_pos hq] at this; exact this, fun _ _ => rfl, rfl, rfl, rfl, fun _ _ _ => rfl⟩
  | m + 1, k, f + 1, g + 1, v, t => fun hk hf hg h1 h2 hs => by
    have hk8 : k < 8 := by omega
    have n8 : ¬ (8 : Int32) ≤ i32 k := fun z => absurd ((l_le (n := 8) (by unfold B31; omega) (by decide)).mp z) (by omega)
    have hsk := hs k hk8
    rw [if_neg (Nat.lt_irrefl k)] at hsk
    -- the next ones
    have next : ∀ (v1 : CN) (t1 : TF), v1 1 3 = i32 n → (t1.2 []).1 0 22 = i32 n → (∀ q : Nat, q < 8 → q ≠ k → SHr (if q < k then n else n0) (v1, w) (t1.2 []) q) → SHr n (v1, w) (t1.2 []) k → ∀ q : Nat, q < 8 → SHr (if q < k + 1 then n else n0) (v1, w) (t1.2 []) q := by
      intro v1 t1 _ _ ho hk' q hq
      by_cases z : q = k
      · rw [if_pos (by omega), z]; exact hk'
      · have := ho q hq z
        by_cases y : q < k
        · rw [if_pos y] at this; rw [if_pos (by omega)]; exact this
        · rw [if_neg y] at this; rw [if_neg (by omega)]; exact this
    have skip : SHr n (v, w) (t.2 []) k → ∀ q : Nat, q < 8 → SHr (if q < k + 1 then n else n0) (v, w) (t.2 []) q := fun hk' => next v t h1 h2 (fun q hq _ => hs q hq) hk'
    unfold fX5_back_27 fX6_back_24
    simp only [if_neg n8, if_pos (gix hk8 (show 8 ≤ 1000 by decide)), gnat (show k ≤ 1000 by omega), i32_succ]
    have lnum : ∀ x : Int32, v (61 + 2 * k) 0 = x → fX3_lickerNumber (selS (fun k_1 => 61 + 2 * k + k_1) (v, w)) = some (if x < 10 then -1 else x - 10, selS (fun k_1 => 61 + 2 * k + k_1) (v, w)) := by
      intro x hx
      unfold fX3_lickerNumber fX3_lickerNumber_0
      rw [show (selS (fun k_1 => 61 + 2 * k + k_1) (v, w)).1 0 0 = x from hx]
      split <;> rfl
    have lt1 : (-1 : Int32) < i32 n := by
      rw [Int32.lt_iff_toInt_lt, i32_toInt (by unfold B31; omega), show (-1 : Int32).toInt = -1 from rfl]; omega
    rcases hsk with ⟨a1, a2⟩ | ⟨o, m', a1, a2, a3, a4, a5, a6⟩ | ⟨l, a1, a2, a3, a4, a5⟩
    · rw [lnum _ a1, obind]
      simp only [mrg_sel injA, h1, if_pos (show (-1 : Int32) < 10 by decide), if_pos lt1, a2]
      rw [if_neg (by decide)]
      exact back_loop hn m (k + 1) f g v t (by omega) (by omega) (by omega) h1 h2 (skip (Or.inl ⟨a1, a2⟩))
    · rw [lnum _ a3, obind]
      simp only [mrg_sel injA, h1, if_pos ((lt_l (a := o) (n := 10) (by unfold B31; omega) (by decide)).mpr (by omega)), if_pos lt1, a5]
      rw [if_neg (by decide)]
      exact back_loop hn m (k + 1) f g v t (by omega) (by omega) (by omega) h1 h2 (skip (Or.inr (Or.inl ⟨o, m', a1, a2, a3, a4, a5, a6⟩)))
    · rw [lnum _ a3, obind]
      simp only [mrg_sel injA, h1, if_neg (fun z => absurd ((lt_l (a := 10 + l) (n := 10) (by unfold B31; omega) (by decide)).mp z) (by omega)), show i32 (10 + l) - (10 : Int32) = i32 l from (i32_sub (b := 10) (by omega)).trans (congrArg i32 (by omega)), a4, a5, h2]
      by_cases z : l < n
      · have zz : i32 l < i32 n := (glt (by omega) (by omega)).mpr z
        rw [if_pos zz, if_pos trivial, if_pos zz]
        exact back_loop hn m (k + 1) f g v t (by omega) (by omega) (by omega) h1 h2 (skip (Or.inr (Or.inr ⟨l, z, a2, a3, a4, a5⟩)))
      · have zz : ¬ i32 l < i32 n := fun y => z ((glt (by omega) (by omega)).mp y)
        rw [if_neg zz, if_pos trivial, if_neg zz]
        unfold fX3_clearAway fX3_clearAway_0
        rw [obind]
        dsimp only
        have mg := mrg2 (A := 61 + 2 * k) (S := (v, w)) (s := wrI (wrI (selS (fun k_1 => 61 + 2 * k + k_1) (v, w)) 0 0 (-1 : Int32)) 0 1 (0 : Int32))
        have ew : (mrgS (fun k_1 => 61 + 2 * k + k_1) 2 (v, w) (wrI (wrI (selS (fun k_1 => 61 + 2 * k + k_1) (v, w)) 0 0 (-1 : Int32)) 0 1 (0 : Int32))).2 = w := by
          funext p
          by_cases p1 : p = 61 + 2 * k
          · subst p1; rw [mg.2.2.1]; rfl
          · by_cases p2 : p = 61 + 2 * k + 1
            · subst p2; rw [mg.2.2.2]; rfl
            · exact (mg.1 p p1 p2).2
        have em : mrgS (fun k_1 => 61 + 2 * k + k_1) 2 (v, w) (wrI (wrI (selS (fun k_1 => 61 + 2 * k + k_1) (v, w)) 0 0 (-1 : Int32)) 0 1 (0 : Int32)) = ((mrgS (fun k_1 => 61 + 2 * k + k_1) 2 (v, w) (wrI (wrI (selS (fun k_1 => 61 + 2 * k + k_1) (v, w)) 0 0 (-1 : Int32)) 0 1 (0 : Int32))).1, w) := Prod.ext rfl ew
        have c1 : (mrgS (fun k_1 => 61 + 2 * k + k_1) 2 (v, w) (wrI (wrI (selS (fun k_1 => 61 + 2 * k + k_1) (v, w)) 0 0 (-1 : Int32)) 0 1 (0 : Int32))).1 (61 + 2 * k) 0 = -1 := by rw [mg.2.1.1]; rfl
        have cp : ∀ p : Nat, p ≤ 60 ∨ (p ≠ 61 + 2 * k ∧ p ≠ 61 + 2 * k + 1) → (mrgS (fun k_1 => 61 + 2 * k + k_1) 2 (v, w) (wrI (wrI (selS (fun k_1 => 61 + 2 * k + k_1) (v, w)) 0 0 (-1 : Int32)) 0 1 (0 : Int32))).1 p = v p := fun p hp => (mg.1 p (by omega) (by omega)).1
        rw [em]
        generalize hv1 : (mrgS (fun k_1 => 61 + 2 * k + k_1) 2 (v, w) (wrI (wrI (selS (fun k_1 => 61 + 2 * k + k_1) (v, w)) 0 0 (-1 : Int32)) 0 1 (0 : Int32))).1 = v1 at c1 cp
        have ht1 : ∀ a b : Nat, a ≠ 1 → ((wTI t [] 1 k 0).2 []).1 a b = (t.2 []).1 a b := fun a b ha => by rw [rd_wr, if_neg (fun z => ha z.1)]
        have ht2 : ((wTI t [] 1 k 0).2 []).2 = (t.2 []).2 := by rw [wrT_same]; rfl
        have hx1 : ∀ q : Nat, q < 8 → q ≠ k → SHr (if q < k then n else n0) (v1, w) ((wTI t [] 1 k 0).2 []) q := by
          intro q hq hqk
          have := hs q hq
          unfold SHr at this ⊢
          dsimp only at this ⊢
          rw [cp (61 + 2 * q) (by omega), ht1 2 q (by decide), ht1 3 q (by decide), ht1 14 q (by decide), ht2, rd_wr, if_neg (by omega)]
          exact this
        have hx2 : SHr n (v1, w) ((wTI t [] 1 k 0).2 []) k := Or.inl ⟨c1, by rw [rd_wr, if_pos ⟨rfl, rfl⟩]⟩
        have hv : v1 1 3 = i32 n := by rw [cp 1 (by omega)]; exact h1
        have ht : ((wTI t [] 1 k 0).2 []).1 0 22 = i32 n := by rw [ht1 0 22 (by decide)]; exact h2
        obtain ⟨v', t', r1, r2, r3, r4, r5, r6, r7, r8⟩ := back_loop hn m (k + 1) f g v1 (wTI t [] 1 k 0) (by omega) (by omega) (by omega) hv ht (next v1 (wTI t [] 1 k 0) hv ht hx1 hx2)
        exact ⟨v', t', r1, r2, r3, fun p hp => (r4 p hp).trans (cp p (Or.inl hp)), r5, r6.trans (wrT_ne (by decide)), r7.trans ht2, fun a b ha => (r8 a b ha).trans (ht1 a b ha)⟩
theorem both_back (h : RR L S T) : BothT L (fX5_back S) (fX6_back [] T) := by
  have hh := h
  obtain ⟨h0, c, N, t, M, h⟩ := h
  obtain ⟨v, w⟩ := S
  have hl := h.licker
  rcases h.2.2.2.2.1 with ⟨k1, k2⟩ | ⟨k1, k2, ck, N', t', M', k3, k4, k5, k6⟩
  · refine BothT.refuse (a := 5) hh (by decide) (by decide) ?_ ?_
    · unfold fX5_back fX5_back_0
      rw [if_pos k1]
      rfl
    · unfold fX6_back fX6_back_0
      rw [if_neg (by rw [k2]; decide)]
      rfl
  · obtain ⟨z, e1, e2⟩ := okM_takeW (A := 1) (B := 10) (w := w) (Or.inl (by decide)) k5
    dsimp only at e1 e2
    obtain ⟨n, hn, en⟩ := k4.1
    have enl : lk ck = n := by unfold lk; rw [en]; exact gnat (by omega)
    have pS : ∀ p : Nat, p < 1 ∨ 10 ≤ p → put (atL 1 φW) ck v p = v p := fun p hp => by
      funext j
      exact put_off (atW_off (by omega))
    have hX : Hold φR ck (prS (put φR ck (T.2 []).1, (T.2 []).2) (T.2 [8])).1 := Hold_prS Hold_put
    have eT : ∀ a b : Nat, a < 33 → (prS (put φR ck (T.2 []).1, (T.2 []).2) (T.2 [8])).1 a b = put φR ck (T.2 []).1 a b := fun a b ha => by
      unfold prS
      dsimp only
      rw [if_pos ha]
    have eW : ∀ a : Nat, a < 33 → (prS (put φR ck (T.2 []).1, (T.2 []).2) (T.2 [8])).2 a = (T.2 []).2 a := fun a ha => by
      unfold prS
      dsimp only
      rw [if_pos ha]
    have nφ : ∀ a b : Nat, (a = 1 ∨ a = 2 ∨ a = 3 ∨ a = 14 ∨ a = 15 ∨ a = 16) → φR a b = none := fun a b e => by
      unfold φR φR1
      rw [if_neg (by omega)]
      repeat rw [if_neg (by omega)]
    have t0 : (wrT (wrT T [] (prS (put φR ck (T.2 []).1, (T.2 []).2) (T.2 [8]))) [8] (T.2 [8])).2 [] = prS (put φR ck (T.2 []).1, (T.2 []).2) (T.2 [8]) := by
      rw [wrT_ne (by decide), wrT_same]
    obtain ⟨v', T', r1, r2, r3, r4, r5, r6, r7, r8⟩ := back_loop (n := n) (n0 := 4) (w := w) hn 8 0 FU FU (put (atL 1 φW) ck v) (wrT (wrT T [] (prS (put φR ck (T.2 []).1, (T.2 []).2) (T.2 [8]))) [8] (T.2 [8])) (by decide) (by decide) (by decide) ((put_at (φ := atL 1 φW) (a := 5) (b := 3) rfl).trans en) (by rw [t0]; exact (hX 0 22 5 3 rfl).trans en) (fun q hq => by
      rw [if_neg (Nat.not_lt_zero _), t0]
      have := h.2.2.2.2.2.1 q hq
      unfold SHr at this ⊢
      dsimp only at this ⊢
      rw [pS _ (by omega), eT 1 q (by decide), eT 2 q (by decide), eT 3 q (by decide), eT 14 q (by decide), eW (5 + q) (by omega), put_off (nφ 1 q (by decide)), put_off (nφ 2 q (by decide)), put_off (nφ 3 q (by decide)), put_off (nφ 14 q (by decide))]
      rcases this with h | h | ⟨l, b1, b2, b3⟩
      · exact Or.inl h
      · exact Or.inr (Or.inl h)
      · exact Or.inr (Or.inr ⟨l, b2, b2, b3⟩))
    have g1 : fX6_takeFrom (prS (T.2 []) (T.2 [8])) = some ((), prS (put φR ck (T.2 []).1, (T.2 []).2) (T.2 [8])) := okR_take k6
    refine ⟨1, (v', w), T', ?_, ?_, by rw [r5]; exact h0, ck, N', t', M', k3, k4, ?_, ?_, ?_, fun q hq => by rw [enl]; exact r3 q hq, ?_, fun j j1 j2 => ?_⟩
    · unfold fX5_back fX5_back_0
      rw [if_neg k1, e1, obind]
      dsimp only
      rw [e2]
      exact r1
    · unfold fX6_back fX6_back_0
      rw [if_pos k2, if_pos k2, g1, obind]
      dsimp only
      rw [snS_pr]
      exact r2
    · exact Hold.same (v := put (atL 1 φW) ck v) Hold_put (fun p p1 p2 => r4 p (by omega))
    · intro a b x y e
      have h1 : a ≠ 1 := fun z => by rw [nφ a b (Or.inl z)] at e; cases e
      rw [r8 a b h1, t0]
      exact hX a b x y e
    · refine Or.inr ⟨?_, by rw [r5]; exact k2, ck, N', t', M', k3, k4, ?_, ?_⟩
      · show ¬ v' 0 8 = 0
        rw [r4 0 (by decide), pS 0 (by decide)]
        exact k1
      · refine Hold.same (v := v) k5 (fun p p1 p2 => ?_)
        show v' p = v p
        rw [r4 p (by omega), pS p (by omega)]
      · rw [r6, wrT_same]
        exact k6
    · have := h.2.2.2.2.2.2.1
      unfold TPr at this ⊢
      dsimp only at this ⊢
      rw [r4 58 (by decide), r4 59 (by decide), pS 58 (by decide), pS 59 (by decide), r8 0 7 (by decide), t0, eT 0 7 (by decide), put_off (show φR 0 7 = none from rfl)]
      exact ⟨this.1, fun j hj => by rw [r8 15 j (by decide), t0, eT 15 j (by decide), put_off (nφ 15 j (by decide))]; exact this.2 j hj⟩
    · show v' 60 j = _
      rw [r4 60 (by decide), pS 60 (by decide), r8 16 j (by decide), t0, eT 16 j (by decide), put_off (nφ 16 j (by decide))]
      exact h.2.2.2.2.2.2.2 j j1 j2
end IMAGE
