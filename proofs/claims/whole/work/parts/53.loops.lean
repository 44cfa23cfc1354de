/-! PURE MATHEMATICS, 35: loops in thought. -/
section THOUGHT
variable {c d : CN} {N t M a l : Nat} {L L1 : Int} {v v1 : CN} {w : Nat → Nat → Int64} {S : SS} {T T1 : TF} {x y : Int32}
theorem until_loop (h : RC c N t M L S T) (hl : l < 4) : ∀ (m k f g : Nat) (d : CN) (τ : Nat) (v1 : CN) (T1 : TF) (L1 : Int), k + m = 200 → m < f → m + 1 < g → Tht c d S T v1 T1 → OK d N τ M L1 → L1 + 1000 * m + 6000 ≤ 1999000000 → ∃ (r : Int32) (v2 : CN) (T2 : TF), fX5_until_31 f (i32 l) (i32 k) (v1, S.2) = some (r, (v2, S.2)) ∧ fX6_until_22 [] g (i32 l) (i32 k) T1 = some (r, T2) ∧ Bas S T v2 T2
  | m, k, 0, g, d, τ, v1, T1, L1 => fun _ h => absurd h (Nat.not_lt_zero _)
  | m, k, f + 1, 0, d, τ, v1, T1, L1 => fun _ _ h => absurd h (Nat.not_lt_zero _)
  | 0, k, f + 1, g + 1, d, τ, v1, T1, L1 => fun hk _ hg ht hd hL => by
    have : k = 200 := by omega
    subst this
    have e1 := sel_at (w := S.2) ht.2.1
    have e2 := okC_left (u := fun k => v1 (28 + k)) (w := fun k => S.2 (28 + k)) hd.1
    have e3 := okR_left (u := (T1.2 [9]).1) (w := (T1.2 [9]).2) hd.1
    rw [← ht.2.2.1.mk] at e3
    have em : mrgS (fun k => 28 + k) 5 (v1, S.2) (put φC d (fun k => v1 (28 + k)), fun k => S.2 (28 + k)) = (v1, S.2) := by rw [mrg_C, ht.2.1.eq]
    unfold fX5_until_31 fX6_until_22
    rw [if_pos (show (200 : Int32) ≤ i32 200 by decide), if_neg (show ¬ (200 : Int32) < i32 200 by decide), e1, e2, e3, obind, obind]
    dsimp only
    rw [em, wrT_id]
    by_cases z : mLeft N M d = 0
    · rw [if_pos z, if_pos z]
      exact ⟨200, v1, T1, rfl, rfl, ht.1⟩
    · rw [if_neg z, if_neg z]
      obtain ⟨A, v2, v3, T2, z, s, hA, q1, q2, q3, q4, q5, q6, q7⟩ := lick_both h ht hd (by omega) hl
      rw [licked1 q4 q5, obind]
      dsimp only
      obtain ⟨g', rfl⟩ : ∃ g', g = g' + 1 := ⟨g - 1, by omega⟩
      unfold fX6_until_22
      rw [if_pos (by decide)]
      exact ⟨_, v1, _, rfl, rfl, ht.1.of_v q6.1⟩
  | m + 1, k, f + 1, g + 1, d, τ, v1, T1, L1 => fun hk hf hg ht hd hL => by
    have n2 : ¬ (200 : Int32) ≤ i32 k := fun z => absurd ((l_le (n := 200) (by unfold B31; omega) (by decide)).mp z) (by omega)
    have n3 : ¬ (200 : Int32) < i32 k := fun z => absurd ((l_lt (n := 200) (by unfold B31; omega) (by decide)).mp z) (by omega)
    have e1 := sel_at (w := S.2) ht.2.1
    have e2 := okC_left (u := fun k => v1 (28 + k)) (w := fun k => S.2 (28 + k)) hd.1
    have e3 := okR_left (u := (T1.2 [9]).1) (w := (T1.2 [9]).2) hd.1
    rw [← ht.2.2.1.mk] at e3
    have em : mrgS (fun k => 28 + k) 5 (v1, S.2) (put φC d (fun k => v1 (28 + k)), fun k => S.2 (28 + k)) = (v1, S.2) := by rw [mrg_C, ht.2.1.eq]
    unfold fX5_until_31 fX6_until_22
    rw [if_neg n2, if_neg n3, e1, e2, e3, obind, obind]
    dsimp only
    rw [em, wrT_id]
    by_cases z : mLeft N M d = 0
    · rw [if_pos z, if_pos z]
      exact ⟨_, v1, T1, rfl, rfl, ht.1⟩
    · rw [if_neg z, if_neg z]
      obtain ⟨A, v2, v3, T2, z, s, hA, q1, q2, q3, q4, q5, q6, q7⟩ := lick_both h ht hd (by omega) hl
      rw [licked1 q4 q5, obind, q1, obind]
      dsimp only
      rw [q2, obind]
      dsimp only
      rw [q3, i32_succ]
      exact until_loop h hl m (k + 1) f g _ _ v3 _ (L1 + 1000) (by omega) (by omega) (by omega) q6 q7 (by omega)
theorem both_until (h : RR L S T) (hL : L + 300000 ≤ 1999000000) : BothT L (fX5_until x S) (fX6_until [] x T) := by
  have hh := h
  have bad2 := bad_T (a := 2) h (by decide) (by decide)
  obtain ⟨h0, c, N, t, M, h⟩ := h
  have hl := h.licker.2.2.2
  unfold fX5_until fX5_until_0 fX6_until fX6_until_0
  simp only [okM_isLicker h, okR_isLicker h, obind, iteB, wrT_id]
  by_cases h1 : 0 ≤ x ∧ x ≤ i32 (lk c) - 1
  · obtain ⟨l, hl', e⟩ := (of_lt (by omega)).mp h1
    subst e
    simp only [if_pos h1]
    obtain ⟨z, v1, T2, e1, e2, e3, e4⟩ := begin_both (w := S.2) h Bas.rf
    have e1' : fX0_takeFrom (selS (fun k => if k < 5 then 28 + k else 2 + (k - 5)) S) = some ((), z) := e1
    have e2' : mrgS (fun k => if k < 5 then 28 + k else 2 + (k - 5)) 10 S z = (v1, S.2) := e2
    obtain ⟨r, v2, T3, q1, q2, q3⟩ := until_loop h (show l < 4 by omega) 200 0 FU FU c t v1 T2 L (by decide) (by decide) (by decide) e4 h.1 (by omega)
    rw [e1', e3, obind, obind]
    dsimp only
    rw [e2']
    exact ⟨r, (v2, S.2), T3, q1, q2, q3.rr hh⟩
  · simp only [if_neg h1]
    exact bad2
theorem spareBy_loop (h : RC c N t M L S T) (hl : l < 4) : ∀ (m k f g : Nat) (d : CN) (τ : Nat) (v1 : CN) (T1 : TF) (L1 : Int), k + m = 200 → m < f → m < g → Tht c d S T v1 T1 → OK d N τ M L1 → L1 + 1000 * m + 6000 ≤ 1999000000 → ∃ (r : Int32) (v2 : CN) (T2 : TF), fX5_spareBy_31 f (i32 l) (i32 k) (v1, S.2) = some (r, (v2, S.2)) ∧ fX6_spareBy_22 [] g (i32 l) (i32 k) T1 = some (r, T2) ∧ Bas S T v2 T2
  | m, k, 0, g, d, τ, v1, T1, L1 => fun _ h => absurd h (Nat.not_lt_zero _)
  | m, k, f + 1, 0, d, τ, v1, T1, L1 => fun _ _ h => absurd h (Nat.not_lt_zero _)
  | 0, k, f + 1, g + 1, d, τ, v1, T1, L1 => fun hk _ hg ht hd hL => by
    have : k = 200 := by omega
    subst this
    unfold fX5_spareBy_31 fX6_spareBy_22
    rw [if_pos (show (200 : Int32) ≤ i32 200 by decide), if_pos (show (200 : Int32) ≤ i32 200 by decide)]
    exact ⟨200, v1, T1, rfl, rfl, ht.1⟩
  | m + 1, k, f + 1, g + 1, d, τ, v1, T1, L1 => fun hk hf hg ht hd hL => by
    have n2 : ¬ (200 : Int32) ≤ i32 k := fun z => absurd ((l_le (n := 200) (by unfold B31; omega) (by decide)).mp z) (by omega)
    obtain ⟨A, v2, v3, T2, z, s, hA, q1, q2, q3, q4, q5, q6, q7⟩ := lick_both h ht hd (by omega) hl
    obtain ⟨a1, a2, a3, a4, a5, a6⟩ := lost_S h q6
    unfold fX5_spareBy_31 fX6_spareBy_22
    rw [if_neg n2, if_neg n2, licked1 q4 q5, obind, q1, obind]
    dsimp only
    rw [q2, obind]
    dsimp only
    rw [q3, i32_succ]
    simp only [a1, a3, a4, a6]
    by_cases y : mPass N τ M A d 0 8 ≤ c 0 8
    · rw [if_pos y, if_pos y]
      exact spareBy_loop h hl m (k + 1) f g _ _ v3 _ (L1 + 1000) (by omega) (by omega) (by omega) q6 q7 (by omega)
    · rw [if_neg y, if_neg y]
      exact ⟨_, v3, _, rfl, rfl, q6.1⟩
theorem both_spareBy (h : RR L S T) (hL : L + 300000 ≤ 1999000000) : BothT L (fX5_spareBy x S) (fX6_spareBy [] x T) := by
  have hh := h
  have bad2 := bad_T (a := 2) h (by decide) (by decide)
  obtain ⟨h0, c, N, t, M, h⟩ := h
  have hl := h.licker.2.2.2
  unfold fX5_spareBy fX5_spareBy_0 fX6_spareBy fX6_spareBy_0
  simp only [okM_isLicker h, okR_isLicker h, obind, iteB, wrT_id]
  by_cases h1 : 0 ≤ x ∧ x ≤ i32 (lk c) - 1
  · obtain ⟨l, hl', e⟩ := (of_lt (by omega)).mp h1
    subst e
    simp only [if_pos h1]
    obtain ⟨z, v1, T2, e1, e2, e3, e4⟩ := begin_both (w := S.2) h Bas.rf
    have e1' : fX0_takeFrom (selS (fun k => if k < 5 then 28 + k else 2 + (k - 5)) S) = some ((), z) := e1
    have e2' : mrgS (fun k => if k < 5 then 28 + k else 2 + (k - 5)) 10 S z = (v1, S.2) := e2
    obtain ⟨r, v2, T3, q1, q2, q3⟩ := spareBy_loop h (show l < 4 by omega) 200 0 FU FU c t v1 T2 L (by decide) (by decide) (by decide) e4 h.1 (by omega)
    rw [e1', e3, obind, obind]
    dsimp only
    rw [e2']
    exact ⟨r, (v2, S.2), T3, q1, q2, q3.rr hh⟩
  · simp only [if_neg h1]
    exact bad2
theorem both_loop {l' n : Nat} (h : RC c N t M L S T) (hl : l < 4) (hl' : l' < 4) (hn : n ≤ 200) : ∀ (m k f g : Nat) (d : CN) (τ : Nat) (v1 : CN) (T1 : TF) (L1 : Int), k + m = n → m < f → m < g → Tht c d S T v1 T1 → OK d N τ M L1 → L1 + 1000 * m + 6000 ≤ 1999000000 → ∃ (r : Int32) (v2 : CN) (T2 : TF), fX5_both_47 f (i32 l) (i32 l') (i32 n) (i32 k) (v1, S.2) = some (r, (v2, S.2)) ∧ fX6_both_44 [] g (i32 l) (i32 l') (i32 n) (i32 k) T1 = some (r, T2) ∧ Bas S T v2 T2
  | m, k, 0, g, d, τ, v1, T1, L1 => fun _ h => absurd h (Nat.not_lt_zero _)
  | m, k, f + 1, 0, d, τ, v1, T1, L1 => fun _ _ h => absurd h (Nat.not_lt_zero _)
  | 0, k, f + 1, g + 1, d, τ, v1, T1, L1 => fun hk _ hg ht hd hL => by
    have : k = n := by omega
    subst this
    obtain ⟨a1, a2, a3, a4, a5, a6⟩ := lost_S h ht
    unfold fX5_both_47 fX6_both_44
    rw [if_pos (Int32.le_refl _), if_pos (Int32.le_refl _)]
    exact ⟨d 0 8 - c 0 8, v1, T1, by rw [show (v1, S.2).1 28 8 = d 0 8 from a1, show (v1, S.2).1 2 8 = c 0 8 from a3], by rw [a4, a6], ht.1⟩
  | m + 1, k, f + 1, g + 1, d, τ, v1, T1, L1 => fun hk hf hg ht hd hL => by
    have nk : ¬ i32 n ≤ i32 k := fun z => absurd ((gle (a := n) (b := k) (by omega) (by omega)).mp z) (by omega)
    have step : ∀ q : Nat, q < 4 → ∃ (r : Int32) (v2 : CN) (T2 : TF), fX5_both_74 (fX5_both_47 f) (i32 l) (i32 l') (i32 n) (i32 k) (i32 q) (v1, S.2) = some (r, (v2, S.2)) ∧ fX6_both_64 [] (fX6_both_44 [] g) (i32 l) (i32 l') (i32 n) (i32 k) (i32 q) T1 = some (r, T2) ∧ Bas S T v2 T2 := by
      intro q hq
      obtain ⟨A, v2, v3, T2, z, s, hA, q1, q2, q3, q4, q5, q6, q7⟩ := lick_both h ht hd (by omega) hq
      unfold fX5_both_74 fX6_both_64
      rw [licked1 q4 q5, obind, q1, obind]
      dsimp only
      rw [q2, obind]
      dsimp only
      rw [q3, i32_succ]
      exact both_loop h hl hl' hn m (k + 1) f g _ _ v3 _ (L1 + 1000) (by omega) (by omega) (by omega) q6 q7 (by omega)
    unfold fX5_both_47 fX6_both_44
    rw [if_neg nk, if_neg nk]
    by_cases y : i32 k - i32 k / 2 * 2 = 0
    · rw [if_pos y, if_pos y]
      exact step l hl
    · rw [if_neg y, if_neg y]
      exact step l' hl'
theorem both_both {z : Int32} (h : RR L S T) (hL : L + 300000 ≤ 1999000000) : BothT L (fX5_both x y z S) (fX6_both [] x y z T) := by
  have hh := h
  have bad2 := bad_T (a := 2) h (by decide) (by decide)
  obtain ⟨h0, c, N, t, M, h⟩ := h
  have hl := h.licker.2.2.2
  unfold fX5_both fX5_both_0 fX5_both_23 fX6_both fX6_both_0 fX6_both_28
  simp only [okM_isLicker h, okR_isLicker h, okC_isSpan, in0200, obind, iteB, wrT_id]
  by_cases h1 : 0 ≤ x ∧ x ≤ i32 (lk c) - 1
  · obtain ⟨l, hl', e⟩ := (of_lt (by omega)).mp h1
    subst e
    simp only [if_pos h1]
    by_cases h2 : 0 ≤ y ∧ y ≤ i32 (lk c) - 1
    · obtain ⟨l2, hl2, e⟩ := (of_lt (by omega)).mp h2
      subst e
      simp only [if_pos h2]
      by_cases h3 : 0 ≤ z ∧ z ≤ 200
      · obtain ⟨n, hn, e⟩ := of_le (b := 200) (by decide) h3
        subst e
        simp only [if_pos h3]
        obtain ⟨z, v1, T2, e1, e2, e3, e4⟩ := begin_both (w := S.2) h Bas.rf
        have e1' : fX0_takeFrom (selS (fun k => if k < 5 then 28 + k else 2 + (k - 5)) S) = some ((), z) := e1
        have e2' : mrgS (fun k => if k < 5 then 28 + k else 2 + (k - 5)) 10 S z = (v1, S.2) := e2
        obtain ⟨r, v2, T3, q1, q2, q3⟩ := both_loop h (show l < 4 by omega) (show l2 < 4 by omega) hn n 0 FU FU c t v1 T2 L (by omega) (by unfold FU; omega) (by unfold FU; omega) e4 h.1 (by omega)
        rw [e1', e3, obind, obind]
        dsimp only
        rw [e2']
        exact ⟨r, (v2, S.2), T3, q1, q2, q3.rr hh⟩
      · simp only [if_neg h3]
        exact bad2
    · simp only [if_neg h2]
      exact bad2
  · simp only [if_neg h1]
    exact bad2
theorem wrI_tht {k j a b : Nat} (h : Tht c d S T v1 T1) (e1 : φC k j = some (a, b)) {k' j' : Nat} (e2 : φR k' j' = some (a, b)) (hk : k < 5) (ha : a < 5) : Tht c (upd2 d a b x) S T (upd2 v1 (28 + k) j x) (wTI T1 [9] k' j' x) := by
  refine ⟨⟨fun p hp => ?_, ?_, h.1.2.2.1, h.1.2.2.2.1, ?_⟩, ?_, ?_, fun p hp => ?_⟩
  · rw [upd2_ne (by omega)]; exact h.1.1 p hp
  · rw [wrT_ne (by decide)]; exact h.1.2.1
  · rw [wrT_ne (by decide)]; exact h.1.2.2.2.2
  · have : upd2 v1 (28 + k) j x = put (atL 28 φC) (upd2 d a b x) v1 := by
      rw [← put_upd (atL_ok φC_ok) ((atL_at k j).trans e1), h.2.1.eq]
    rw [this]
    exact Hold_put
  · rw [wrT_same, wr_R h.2.2.1 e2]
    exact Hold_put
  · rw [upd2_ne (by omega)]; exact h.p p hp
theorem sub_z {a b : Int32} : (a - b = 0) ↔ a = b := by
  constructor
  · intro e
    have := Int32.sub_add_cancel a b
    rw [e, Int32.zero_add] at this
    exact this.symm
  · intro e
    rw [e, Int32.sub_self]
theorem hold_loop {n : Nat} (h : RC c N t M L S T) (hL : L + 300000 ≤ 1999000000) (hn : n ≤ 200) : ∀ (m k f g : Nat) (v1 : CN) (T1 : TF), k + m = 21 → m < f → m < g → Bas S T v1 T1 → ∃ (r : Int32) (v2 : CN) (T2 : TF), fX5_holdFor_16 f (i32 n) (i32 k) (v1, S.2) = some (r, (v2, S.2)) ∧ fX6_holdFor_21 [] g (i32 n) (i32 k) T1 = some (r, T2) ∧ Bas S T v2 T2
  | m, k, 0, g, v1, T1 => fun _ h => absurd h (Nat.not_lt_zero _)
  | m, k, f + 1, 0, v1, T1 => fun _ _ h => absurd h (Nat.not_lt_zero _)
  | 0, k, f + 1, g + 1, v1, T1 => fun hk _ _ hb => by
    have : k = 21 := by omega
    subst this
    unfold fX5_holdFor_16 fX6_holdFor_21
    rw [if_pos (show (20 : Int32) < i32 21 by decide), if_pos (show (20 : Int32) < i32 21 by decide)]
    exact ⟨_, v1, T1, rfl, rfl, hb⟩
  | m + 1, k, f + 1, g + 1, v1, T1 => fun hk hf hg hb => by
    have n2 : ¬ (20 : Int32) < i32 k := fun z => absurd ((l_lt (n := 20) (by unfold B31; omega) (by decide)).mp z) (by omega)
    obtain ⟨z, v2, T2, e1, e2, e3, e4⟩ := begin_both (w := S.2) h hb
    have e5 := wrI_tht (x := i32 k) e4 (show φC 0 3 = some (0, 3) from rfl) (show φR 24 0 = some (0, 3) from rfl) (by decide) (by decide)
    have hd : OK (upd2 c 0 3 (i32 k)) N t M L := upd_OK h.1 (Or.inr (Or.inl ⟨rfl, by rw [i32_toInt (by unfold B31; omega)]; omega, by rw [i32_toInt (by unfold B31; omega)]; omega⟩))
    obtain ⟨v3, s, q1, q2, q3⟩ := idle_both (w := S.2) (n := n) e5 hd (h.2.1.of upd_5) hn (by omega)
    obtain ⟨a1, a2, a3, a4, a5, a6⟩ := lost_S h q3
    have ew : wrI (v2, S.2) 28 3 (i32 k) = (upd2 v2 (28 + 0) 3 (i32 k), S.2) := rfl
    unfold fX5_holdFor_16 fX6_holdFor_21
    rw [if_neg n2, if_neg n2, e1, e3, obind, obind]
    dsimp only
    rw [e2, ew, q1, q2, obind, obind]
    simp only [a4, a6, sub_z, show upd2 c 0 3 (i32 k) 0 8 = c 0 8 from rfl, i32_succ]
    by_cases y : idle N t M n (upd2 c 0 3 (i32 k)) 0 8 = c 0 8
    · rw [if_pos y, if_pos y]
      exact ⟨_, v3, _, rfl, rfl, q3.1⟩
    · rw [if_neg y, if_neg y]
      exact hold_loop h hL hn m (k + 1) f g v3 _ (by omega) (by omega) (by omega) q3.1
theorem both_holdFor (h : RR L S T) (hL : L + 300000 ≤ 1999000000) : BothT L (fX5_holdFor x S) (fX6_holdFor [] x T) := by
  have hh := h
  have bad2 := bad_T (a := 2) h (by decide) (by decide)
  obtain ⟨h0, c, N, t, M, h⟩ := h
  unfold fX5_holdFor fX5_holdFor_0 fX6_holdFor fX6_holdFor_0
  simp only [okC_isSpan, in0200, obind, iteB]
  by_cases h1 : 0 ≤ x ∧ x ≤ 200
  · obtain ⟨n, hn, e⟩ := of_le (b := 200) (by decide) h1
    subst e
    simp only [if_pos h1]
    obtain ⟨r, v2, T2, q1, q2, q3⟩ := hold_loop h hL hn 21 0 FU FU S.1 T (by decide) (by decide) (by decide) Bas.rf
    exact ⟨r, (v2, S.2), T2, q1, q2, q3.rr hh⟩
  · simp only [if_neg h1]
    exact bad2
end THOUGHT
