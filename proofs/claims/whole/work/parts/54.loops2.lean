/-! PURE MATHEMATICS, 36: shade, gives, melted. -/
section THOUGHT
variable {c d : CN} {N t M a l : Nat} {L L1 : Int} {v v1 : CN} {w : Nat → Nat → Int64} {S : SS} {T T1 : TF} {x y : Int32}
theorem idle_lost : ∀ (m : Nat) (d : CN) (L1 : Int), OK d N t M L1 → L1 + 1000 * m ≤ 1999000000 → (d 0 8).toInt ≤ (idle N t M m d 0 8).toInt
  | 0, d, L1 => fun _ _ => Int.le_refl _
  | m + 1, d, L1 => fun h hL => by
    have h1 := h.pass (a := 0) (by omega) canA_0
    rw [newT_0] at h1
    have := idle_lost m (mPass N t M 0 d) (L1 + 1000) h1 (by omega)
    have h2 := h.lost (a := 0) canA_0
    show _ ≤ (idle N t M m (mPass N t M 0 d) 0 8).toInt
    omega
theorem sub_le' {a b k : Int32} (hk : 0 ≤ k.toInt) (ha : k.toInt ≤ a.toInt) (hb : k.toInt ≤ b.toInt) : (a - k ≤ b - k) ↔ a ≤ b := by
  have h1 := a.toInt_lt
  have h2 := b.toInt_lt
  rw [Int32.le_iff_toInt_le, Int32.le_iff_toInt_le, toInt_sub' (by omega) (by omega), toInt_sub' (by omega) (by omega)]
  omega
/-- one turn of the shade -/
theorem shade_one {n k : Nat} (h : RC c N t M L S T) (hL : L + 300000 ≤ 1999000000) (hn : n ≤ 200) (hk : k < N) (hb : Bas S T v1 T1) : ∃ (z : SS) (v2 v3 : CN) (T2 : TF) (s : SS) (X : Int32), fX0_takeFrom (selS (fun k => if k < 5 then 28 + k else 2 + (k - 5)) (v1, S.2)) = some ((), z) ∧ mrgS (fun k => if k < 5 then 28 + k else 2 + (k - 5)) 10 (v1, S.2) z = (v2, S.2) ∧ fX5_lostIdling (i32 n) (wrI (v2, S.2) 28 1 (i32 k)) = some (X - c 0 8, (v3, S.2)) ∧ fX6_fresh [] T1 = some ((), T2) ∧ fX6_stands (i32 n) ((wTI T2 [9] 0 15 (i32 k)).2 [9]) = some ((), s) ∧ ((wrT (wTI T2 [9] 0 15 (i32 k)) [9] s).2 [9]).1 0 19 = X ∧ Bas S T v3 (wrT (wTI T2 [9] 0 15 (i32 k)) [9] s) ∧ (c 0 8).toInt ≤ X.toInt := by
  obtain ⟨z, v2, T2, e1, e2, e3, e4⟩ := begin_both (w := S.2) h hb
  have e5 := wrI_tht (x := i32 k) e4 (show φC 0 1 = some (0, 1) from rfl) (show φR 0 15 = some (0, 1) from rfl) (by decide) (by decide)
  have hd : OK (upd2 c 0 1 (i32 k)) N k M L := turn_OK h.1 hk
  obtain ⟨v3, s, q1, q2, q3⟩ := idle_both (w := S.2) (n := n) e5 hd (h.2.1.of upd_5) hn (by omega)
  obtain ⟨a1, a2, a3, a4, a5, a6⟩ := lost_S h q3
  exact ⟨z, v2, v3, T2, s, _, e1, e2, q1, e3, q2, a4, q3.1, idle_lost n _ L hd (by omega)⟩
theorem shade_loop {n : Nat} (h : RC c N t M L S T) (hL : L + 300000 ≤ 1999000000) (hn : n ≤ 200) : ∀ (m k f g b : Nat) (Y : Int32) (v1 : CN) (T1 : TF), k + m = N → 1 ≤ k → b < 8 → m < f → m < g → (c 0 8).toInt ≤ Y.toInt → Bas S T v1 T1 → ∃ (r : Int32) (v2 : CN) (T2 : TF), fX5_shade_21 f (i32 n) (i32 b) (Y - c 0 8) (i32 k) (v1, S.2) = some (r, (v2, S.2)) ∧ fX6_shade_26 [] g (i32 n) (i32 b) Y (i32 k) T1 = some (r, T2) ∧ Bas S T v2 T2
  | m, k, 0, g, b, Y, v1, T1 => fun _ _ _ h => absurd h (Nat.not_lt_zero _)
  | m, k, f + 1, 0, b, Y, v1, T1 => fun _ _ _ _ h => absurd h (Nat.not_lt_zero _)
  | 0, k, f + 1, g + 1, b, Y, v1, T1 => fun hk _ _ _ _ _ hb => by
    have hN := h.1.1.n8
    have e1 : v1 2 0 = i32 N := by rw [hb.1 2 (by decide)]; exact h.cells.1
    have e2 : (T1.2 []).1 0 9 = i32 N := by rw [hb.2.1]; exact h.cells.2.2.2.1
    unfold fX5_shade_21 fX6_shade_26
    rw [show (v1, S.2).1 2 0 = i32 N from e1, e2, if_pos ((gle (by omega) (by omega)).mpr (by omega)), if_pos ((gle (by omega) (by omega)).mpr (by omega))]
    exact ⟨_, v1, T1, rfl, rfl, hb⟩
  | m + 1, k, f + 1, g + 1, b, Y, v1, T1 => fun hk hk1 hb8 hf hg hY hb => by
    have hN := h.1.1.n8
    have e1 : v1 2 0 = i32 N := by rw [hb.1 2 (by decide)]; exact h.cells.1
    have e2 : (T1.2 []).1 0 9 = i32 N := by rw [hb.2.1]; exact h.cells.2.2.2.1
    have nk : ¬ i32 N ≤ i32 k := fun z => absurd ((gle (by omega) (by omega)).mp z) (by omega)
    have k0 : ¬ i32 k = 0 := ne_l (n := 0) (by unfold B31; omega) (by decide) (by omega)
    have h8 := h.1.2.2.1 8 (by decide) (by decide)
    obtain ⟨z, v2, v3, T2, s, X, p1, p2, p3, p4, p5, p6, p7, p8⟩ := shade_one (k := k) h hL hn (by omega) hb
    have take := shade_loop h hL hn m (k + 1) f g k X v3 _ (by omega) (by omega) (by omega) (by omega) (by omega) p8 p7
    have keep := shade_loop h hL hn m (k + 1) f g b Y v3 _ (by omega) (by omega) hb8 (by omega) (by omega) hY p7
    unfold fX5_shade_21 fX6_shade_26
    rw [show (v1, S.2).1 2 0 = i32 N from e1, e2, if_neg nk, if_neg nk, p1, p4, obind, obind]
    dsimp only
    rw [p2, p3, p5, obind, obind]
    dsimp only
    unfold fX5_shade_77 fX6_shade_68
    simp only [if_neg k0, if_neg (i32_ne1 (show b ≤ 1000 by omega)), p6, i32_succ, sub_le' h8.1 hY p8]
    by_cases y : Y ≤ X
    · rw [if_pos y, if_pos y]
      exact keep
    · rw [if_neg y, if_neg y]
      exact take
theorem both_shade (h : RR L S T) (hL : L + 300000 ≤ 1999000000) : BothT L (fX5_shade x S) (fX6_shade [] x T) := by
  have hh := h
  have bad2 := bad_T (a := 2) h (by decide) (by decide)
  obtain ⟨h0, c, N, t, M, h⟩ := h
  have hN := h.1.1.n8
  have hN3 := h.1.1.n3
  unfold fX5_shade fX5_shade_0 fX6_shade fX6_shade_0
  simp only [okC_isSpan, in0200, obind, iteB]
  by_cases h1 : 0 ≤ x ∧ x ≤ 200
  · obtain ⟨n, hn, e⟩ := of_le (b := 200) (by decide) h1
    subst e
    simp only [if_pos h1]
    obtain ⟨z, v2, v3, T2, s, X, p1, p2, p3, p4, p5, p6, p7, p8⟩ := shade_one (k := 0) h hL hn (by omega) Bas.rf
    obtain ⟨r, v4, T4, r1, r2, r3⟩ := shade_loop h hL hn (N - 1) 1 999 999 0 X v3 _ (by omega) (by decide) (by decide) (by omega) (by omega) p8 p7
    have nk : ¬ i32 N ≤ (0 : Int32) := fun z => absurd ((gle (a := N) (b := 0) (by omega) (by omega)).mp z) (by omega)
    have p1' : fX0_takeFrom (selS (fun k => if k < 5 then 28 + k else 2 + (k - 5)) S) = some ((), z) := p1
    have p2' : mrgS (fun k => if k < 5 then 28 + k else 2 + (k - 5)) 10 S z = (v2, S.2) := p2
    have p3' : fX5_lostIdling (i32 n) (wrI (v2, S.2) 28 1 0) = some (X - c 0 8, (v3, S.2)) := p3
    have p5' : fX6_stands (i32 n) ((wTI T2 [9] 0 15 0).2 [9]) = some ((), s) := p5
    have p6' : ((wrT (wTI T2 [9] 0 15 0) [9] s).2 [9]).1 0 19 = X := p6
    refine ⟨r, (v4, S.2), T4, ?_, ?_, r3.rr hh⟩
    · rw [show FU = 999 + 1 from rfl]
      unfold fX5_shade_21
      rw [h.cells.1, if_neg nk, p1', obind]
      dsimp only
      rw [p2', p3', obind]
      dsimp only
      rw [if_pos rfl]
      exact r1
    · rw [show FU = 999 + 1 from rfl]
      unfold fX6_shade_26
      rw [h.cells.2.2.2.1, if_neg nk, p4, obind]
      dsimp only
      rw [p5', obind]
      dsimp only
      rw [if_pos rfl]
      unfold fX6_shade_68
      rw [p6']
      exact r2
  · simp only [if_neg h1]
    exact bad2
/-- what a second leaves alone -/
theorem mPass_0 {j : Nat} (h : 2 ≤ j) (h' : j ≤ 6) : mPass N t M a d 0 j = d 0 j := by
  have e1 : mAct N t a d 0 j = d 0 j := by
    unfold mAct eatS eatR
    repeat' split
    · rfl
    · rw [upd2_same, if_neg (by omega)]; rfl
    · rw [upd2_same, if_neg (by omega)]; rfl
    · rw [upd2_same, if_neg (by omega)]
  have e2 : mTick N (newT N t a) M (mAct N t a d) 0 j = d 0 j := by
    unfold mTick mFall
    exact up_inv (P := fun q => q 0 j = d 0 j) (fun k q p => (fallS_0 (by omega) (by omega)).trans p) N 0 _ (by rw [mRun_keep, mMelt_keep]; exact e1)
  unfold mPass
  rw [upd2_same, if_neg (by omega)]
  exact e2
theorem gives_loop (h : RC c N t M L S T) : ∀ (m k f g : Nat) (d : CN) (v1 : CN) (T1 : TF) (L1 : Int), k + m = 200 → m < f → m + 1 < g → Tht c d S T v1 T1 → OK d N t M L1 → d 0 6 = c 0 6 → L1 + 1000 * m + 1000 ≤ 1999000000 → ∃ (r : Int32) (v2 : CN) (T2 : TF), fX5_gives_16 f (i32 k) (v1, S.2) = some (r, (v2, S.2)) ∧ fX6_gives_7 [] g (i32 k) T1 = some (r, T2) ∧ Bas S T v2 T2
  | m, k, 0, g, d, v1, T1, L1 => fun _ h => absurd h (Nat.not_lt_zero _)
  | m, k, f + 1, 0, d, v1, T1, L1 => fun _ _ h => absurd h (Nat.not_lt_zero _)
  | 0, k, f + 1, g + 1, d, v1, T1, L1 => fun hk _ hg ht hd h6 hL => by
    have : k = 200 := by omega
    subst this
    have b1 : v1 28 10 = d 0 10 := ht.2.1 28 10 0 10 (atL_at 0 10)
    have b2 : v1 28 6 = c 0 6 := (ht.2.1 28 6 0 6 (atL_at 0 6)).trans h6
    have b3 : (T1.2 [9]).1 0 21 = d 0 10 := ht.2.2.1 0 21 0 10 rfl
    have b4 : (T1.2 []).1 24 3 = c 0 6 := by rw [ht.1.2.1]; exact h.2.2.2.1 24 3 0 6 rfl
    unfold fX5_gives_16 fX6_gives_7
    simp only [if_pos (show (200 : Int32) ≤ i32 200 by decide), if_neg (show ¬ (200 : Int32) < i32 200 by decide), b1, b2, b3, b4]
    by_cases z : d 0 10 < c 0 6
    · simp only [if_pos z]
      obtain ⟨zz, s, v2, e1, e2, e3, e4⟩ := pass_both (a := 0) (w := S.2) ht hd (ht.WI h.2.1) canA_0
      have e3' : fX6_goes (0 : Int32) (0 : Int32) (T1.2 [9]) = some ((), s) := e3
      rw [e3', obind]
      obtain ⟨g', rfl⟩ : ∃ g', g = g' + 1 := ⟨g - 1, by omega⟩
      dsimp only
      unfold fX6_gives_7
      rw [if_pos (by decide)]
      exact ⟨_, v1, _, rfl, rfl, ht.1.of_v e4.1⟩
    · simp only [if_neg z]
      exact ⟨200, v1, T1, rfl, rfl, ht.1⟩
  | m + 1, k, f + 1, g + 1, d, v1, T1, L1 => fun hk hf hg ht hd h6 hL => by
    have n2 : ¬ (200 : Int32) ≤ i32 k := fun z => absurd ((l_le (n := 200) (by unfold B31; omega) (by decide)).mp z) (by omega)
    have n3 : ¬ (200 : Int32) < i32 k := fun z => absurd ((l_lt (n := 200) (by unfold B31; omega) (by decide)).mp z) (by omega)
    have b1 : v1 28 10 = d 0 10 := ht.2.1 28 10 0 10 (atL_at 0 10)
    have b2 : v1 28 6 = c 0 6 := (ht.2.1 28 6 0 6 (atL_at 0 6)).trans h6
    have b3 : (T1.2 [9]).1 0 21 = d 0 10 := ht.2.2.1 0 21 0 10 rfl
    have b4 : (T1.2 []).1 24 3 = c 0 6 := by rw [ht.1.2.1]; exact h.2.2.2.1 24 3 0 6 rfl
    unfold fX5_gives_16 fX6_gives_7
    simp only [if_neg n2, if_neg n3, b1, b2, b3, b4]
    by_cases z : d 0 10 < c 0 6
    · simp only [if_pos z]
      obtain ⟨zz, s, v2, e1, e2, e3, e4⟩ := pass_both (a := 0) (w := S.2) ht hd (ht.WI h.2.1) canA_0
      have hd1 := hd.pass (a := 0) (by omega) canA_0
      rw [newT_0] at hd1
      have e1' : fX0_pass (0 : Int32) (selS (fun k => 28 + k) (v1, S.2)) = some ((), zz) := e1
      have e3' : fX6_goes (0 : Int32) (0 : Int32) (T1.2 [9]) = some ((), s) := e3
      rw [e1', e3', obind, obind]
      dsimp only
      rw [e2, i32_succ]
      exact gives_loop h m (k + 1) f g _ v2 _ (L1 + 1000) (by omega) (by omega) (by omega) e4 hd1 ((mPass_0 (by decide) (by decide)).trans h6) (by omega)
    · simp only [if_neg z]
      exact ⟨_, v1, T1, rfl, rfl, ht.1⟩
theorem both_gives (h : RR L S T) (hL : L + 300000 ≤ 1999000000) : BothT L (fX5_gives S) (fX6_gives [] T) := by
  have hh := h
  obtain ⟨h0, c, N, t, M, h⟩ := h
  obtain ⟨z, v1, T2, e1, e2, e3, e4⟩ := begin_both (w := S.2) h Bas.rf
  have e1' : fX0_takeFrom (selS (fun k => if k < 5 then 28 + k else 2 + (k - 5)) S) = some ((), z) := e1
  have e2' : mrgS (fun k => if k < 5 then 28 + k else 2 + (k - 5)) 10 S z = (v1, S.2) := e2
  obtain ⟨r, v2, T3, q1, q2, q3⟩ := gives_loop h 200 0 FU FU c v1 T2 L (by decide) (by decide) (by decide) e4 h.1 rfl (by omega)
  unfold fX5_gives fX5_gives_0 fX6_gives fX6_gives_0
  rw [e1', e3, obind, obind]
  dsimp only
  rw [e2']
  exact ⟨r, (v2, S.2), T3, q1, q2, q3.rr hh⟩
theorem melt_inner {rec_7 : Int32 → TF → Option (Int32 × TF)} (h : RC c N t M L S T) (ht : Tht c d S T v1 T1) (hd : OK d N t M L1) {k : Nat} : ∀ (m i f : Nat), i + m = M → m < f → fX6_melted_16 [] rec_7 f (i32 k) (i32 i) T1 = if anyM d m i = 0 then (((fX6_goes (0 : Int32) (0 : Int32) (T1.2 [9])).bind fun z2 => rec_7 (i32 (k + 1)) (wrT T1 [9] z2.2))) else some (i32 k, T1)
  | m, i, 0 => fun _ h => absurd h (Nat.not_lt_zero _)
  | 0, i, f + 1 => fun hi _ => by
    have hM := h.1.1.m3
    have e : (T1.2 []).1 0 10 = i32 M := by rw [ht.1.2.1]; exact h.cells.2.2.2.2.2
    unfold fX6_melted_16 anyM
    rw [e, if_pos ((gle (by omega) (by omega)).mpr (by omega)), if_pos rfl, i32_succ]
  | m + 1, i, f + 1 => fun hi hf => by
    have hM := h.1.1.m3
    have hi3 : i < 3 := by omega
    have e : (T1.2 []).1 0 10 = i32 M := by rw [ht.1.2.1]; exact h.cells.2.2.2.2.2
    have e18 : (T1.2 [9]).1 18 i = d 2 i := ht.2.2.1 18 i 2 i (fR_amt hi3)
    unfold fX6_melted_16 anyM
    simp only [e, if_neg (fun z => absurd ((gle (a := M) (b := i) (by omega) (by omega)).mp z) (by omega)), if_pos (gix hi3 (show 3 ≤ 1000 by decide)), gnat (show i ≤ 1000 by omega), e18, i32_succ]
    by_cases z : d 2 i = 0
    · rw [if_pos z, if_pos z, if_neg (by decide)]
    · rw [if_neg z, if_neg z]
      exact melt_inner h ht hd m (i + 1) f (by omega) (by omega)
theorem melted_loop (h : RC c N t M L S T) : ∀ (m k f g : Nat) (d : CN) (v1 : CN) (T1 : TF) (L1 : Int), k + m = 200 → m < f → m + 1 < g → Tht c d S T v1 T1 → OK d N t M L1 → L1 + 1000 * m + 1000 ≤ 1999000000 → ∃ (r : Int32) (v2 : CN) (T2 : TF), fX5_melted_16 f (i32 k) (v1, S.2) = some (r, (v2, S.2)) ∧ fX6_melted_7 [] g (i32 k) T1 = some (r, T2) ∧ Bas S T v2 T2
  | m, k, 0, g, d, v1, T1, L1 => fun _ h => absurd h (Nat.not_lt_zero _)
  | m, k, f + 1, 0, d, v1, T1, L1 => fun _ _ h => absurd h (Nat.not_lt_zero _)
  | 0, k, f + 1, g + 1, d, v1, T1, L1 => fun hk _ hg ht hd hL => by
    have : k = 200 := by omega
    subst this
    have hM := hd.1.m3
    have e1 := sel_at (w := S.2) ht.2.1
    have e2 := okC_anyM (u := fun k => v1 (28 + k)) (w := fun k => S.2 (28 + k)) hd.1
    have em : mrgS (fun k => 28 + k) 5 (v1, S.2) (put φC d (fun k => v1 (28 + k)), fun k => S.2 (28 + k)) = (v1, S.2) := by rw [mrg_C, ht.2.1.eq]
    unfold fX5_melted_16 fX6_melted_7
    rw [if_pos (show (200 : Int32) ≤ i32 200 by decide), if_neg (show ¬ (200 : Int32) < i32 200 by decide), e1, e2, obind]
    dsimp only
    have mi : fX6_melted_16 [] (fX6_melted_7 [] g) FU (i32 200) 0 T1 = if anyM d M 0 = 0 then (((fX6_goes (0 : Int32) (0 : Int32) (T1.2 [9])).bind fun z2 => fX6_melted_7 [] g (i32 (200 + 1)) (wrT T1 [9] z2.2))) else some (i32 200, T1) := melt_inner (rec_7 := fX6_melted_7 [] g) (k := 200) h ht hd M 0 FU (by omega) (by unfold FU; omega)
    rw [em, mi]
    by_cases z : anyM d M 0 = 0
    · rw [if_pos z, if_pos z]
      obtain ⟨zz, s, v2, q1, q2, q3, q4⟩ := pass_both (a := 0) (w := S.2) ht hd (ht.WI h.2.1) canA_0
      have q3' : fX6_goes (0 : Int32) (0 : Int32) (T1.2 [9]) = some ((), s) := q3
      rw [q3', obind]
      dsimp only
      obtain ⟨g', rfl⟩ : ∃ g', g = g' + 1 := ⟨g - 1, by omega⟩
      unfold fX6_melted_7
      rw [if_pos (by decide)]
      exact ⟨_, v1, _, rfl, rfl, ht.1.of_v q4.1⟩
    · rw [if_neg z, if_neg z]
      exact ⟨200, v1, T1, rfl, rfl, ht.1⟩
  | m + 1, k, f + 1, g + 1, d, v1, T1, L1 => fun hk hf hg ht hd hL => by
    have hM := hd.1.m3
    have n2 : ¬ (200 : Int32) ≤ i32 k := fun z => absurd ((l_le (n := 200) (by unfold B31; omega) (by decide)).mp z) (by omega)
    have n3 : ¬ (200 : Int32) < i32 k := fun z => absurd ((l_lt (n := 200) (by unfold B31; omega) (by decide)).mp z) (by omega)
    have e1 := sel_at (w := S.2) ht.2.1
    have e2 := okC_anyM (u := fun k => v1 (28 + k)) (w := fun k => S.2 (28 + k)) hd.1
    have em : mrgS (fun k => 28 + k) 5 (v1, S.2) (put φC d (fun k => v1 (28 + k)), fun k => S.2 (28 + k)) = (v1, S.2) := by rw [mrg_C, ht.2.1.eq]
    have mi := melt_inner (rec_7 := fX6_melted_7 [] g) (k := k) h ht hd M 0 FU (by omega) (by unfold FU; omega)
    have mi' : fX6_melted_16 [] (fX6_melted_7 [] g) FU (i32 k) 0 T1 = if anyM d M 0 = 0 then (((fX6_goes (0 : Int32) (0 : Int32) (T1.2 [9])).bind fun z2 => fX6_melted_7 [] g (i32 (k + 1)) (wrT T1 [9] z2.2))) else some (i32 k, T1) := mi
    unfold fX5_melted_16 fX6_melted_7
    rw [if_neg n2, if_neg n3, e1, e2, obind]
    dsimp only
    rw [em, mi']
    by_cases z : anyM d M 0 = 0
    · rw [if_pos z, if_pos z]
      obtain ⟨zz, s, v2, q1, q2, q3, q4⟩ := pass_both (a := 0) (w := S.2) ht hd (ht.WI h.2.1) canA_0
      have hd1 := hd.pass (a := 0) (by omega) canA_0
      rw [newT_0] at hd1
      have q1' : fX0_pass (0 : Int32) (selS (fun k => 28 + k) (v1, S.2)) = some ((), zz) := q1
      have q3' : fX6_goes (0 : Int32) (0 : Int32) (T1.2 [9]) = some ((), s) := q3
      rw [q1', q3', obind, obind]
      dsimp only
      rw [q2, i32_succ]
      exact melted_loop h m (k + 1) f g _ v2 _ (L1 + 1000) (by omega) (by omega) (by omega) q4 hd1 (by omega)
    · rw [if_neg z, if_neg z]
      exact ⟨_, v1, T1, rfl, rfl, ht.1⟩
theorem both_melted (h : RR L S T) (hL : L + 300000 ≤ 1999000000) : BothT L (fX5_melted S) (fX6_melted [] T) := by
  have hh := h
  obtain ⟨h0, c, N, t, M, h⟩ := h
  obtain ⟨z, v1, T2, e1, e2, e3, e4⟩ := begin_both (w := S.2) h Bas.rf
  have e1' : fX0_takeFrom (selS (fun k => if k < 5 then 28 + k else 2 + (k - 5)) S) = some ((), z) := e1
  have e2' : mrgS (fun k => if k < 5 then 28 + k else 2 + (k - 5)) 10 S z = (v1, S.2) := e2
  obtain ⟨r, v2, T3, q1, q2, q3⟩ := melted_loop h 200 0 FU FU c v1 T2 L (by decide) (by decide) (by decide) e4 h.1 (by omega)
  unfold fX5_melted fX5_melted_0 fX6_melted fX6_melted_0
  rw [e1', e3, obind, obind]
  dsimp only
  rw [e2']
  exact ⟨r, (v2, S.2), T3, q1, q2, q3.rr hh⟩
end THOUGHT
