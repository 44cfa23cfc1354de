/-! PURE MATHEMATICS, 4: the class's acts and what it reads off a cone. -/
theorem lt_l {a n : Nat} (ha : B31 a) (hn : B31 n) : (i32 a < (OfNat.ofNat n : Int32)) ↔ a < n := i32_lt ha hn
theorem le_l {a n : Nat} (ha : B31 a) (hn : B31 n) : (i32 a ≤ (OfNat.ofNat n : Int32)) ↔ a ≤ n := i32_le ha hn
theorem l_lt {a n : Nat} (ha : B31 a) (hn : B31 n) : ((OfNat.ofNat n : Int32) < i32 a) ↔ n < a := i32_lt hn ha
theorem l_le {a n : Nat} (ha : B31 a) (hn : B31 n) : ((OfNat.ofNat n : Int32) ≤ i32 a) ↔ n ≤ a := i32_le hn ha
theorem eq_l {a n : Nat} (ha : B31 a) (hn : B31 n) : (i32 a = (OfNat.ofNat n : Int32)) ↔ a = n := i32_inj ha hn
theorem ne_l {a n : Nat} (ha : B31 a) (hn : B31 n) (h : a ≠ n) : ¬ (i32 a = (OfNat.ofNat n : Int32)) := fun z => h ((eq_l ha hn).mp z)
abbrev idl (c : CN) (M t a : Nat) : Prop := a = 0 ∨ (1 ≤ a ∧ a < 4 ∧ (M < a ∨ c 3 (8 * (a - 1) + t) = 0)) ∨ (a = 4 ∧ c 4 t = 0)
theorem mn_0 {l : Int32} (h : 0 ≤ l) : mn 0 l = 0 := by
  have := mn_nn (Int32.le_refl 0) h
  exact Int32.le_antisymm this.2.1 this.1
theorem eatS_id {c : CN} {i t : Nat} (h : c 3 (8 * i + t) = 0) (hl : 0 ≤ c 0 5) : eatS i t c = c := by
  unfold eatS
  rw [h, mn_0 hl, Int32.sub_zero, Int32.add_zero]
  have e : upd2 c 3 (8 * i + t) 0 = c := by rw [← h]; exact upd2_id
  rw [e, upd2_id]
theorem eatR_id {c : CN} {t : Nat} (h : c 4 t = 0) (hl : 0 ≤ c 0 5) : eatR t c = c := by
  unfold eatR
  rw [h, mn_0 hl, Int32.sub_zero, Int32.add_zero]
  have e : upd2 c 4 t 0 = c := by rw [← h]; exact upd2_id
  rw [e, upd2_id]
theorem mAct_idle {c : CN} {N M t a : Nat} (h : idl c M t a) (hc : canA M a) (hl : 0 ≤ c 0 5) : mAct N t a c = c := by
  unfold mAct
  rcases h with h | ⟨h1, h2, h3⟩ | ⟨h1, h2⟩
  · rw [if_pos h]
  · rw [if_neg (by omega), if_pos h2]
    rcases h3 with h3 | h3
    · exact absurd (hc.2 h1 h2) (by omega)
    · exact eatS_id h3 hl
  · subst h1
    rw [if_neg (by decide), if_neg (by decide), if_pos rfl]
    exact eatR_id h2 hl
theorem eatS_Hd {c : CN} {i t N t' M : Nat} (H : Hd c N t' M) : Hd (eatS i t c) N t' M := H.of3 (by unfold eatS; exact ⟨rfl, rfl, rfl⟩)
theorem eatR_Hd {c : CN} {t N t' M : Nat} (H : Hd c N t' M) : Hd (eatR t c) N t' M := H.of3 (by unfold eatR; exact ⟨rfl, rfl, rfl⟩)
theorem mAct_Hd {c : CN} {N t M a : Nat} (H : Hd c N t M) : Hd (mAct N t a c) N (newT N t a) M := by
  have e : a < 5 → newT N t a = t := fun h => by unfold newT; rw [if_neg (by omega), if_neg]; intro z; omega
  unfold mAct
  split
  · rw [e (by omega)]; exact H
  · split
    · rw [e (by omega)]; exact eatS_Hd H
    · split
      · rw [e (by omega)]; exact eatR_Hd H
      · have h6 := newT_lt (a := a) H.2.2.2.2.2.1
        obtain ⟨h0, h1, h2, h3, h4, h5, h7⟩ := H
        exact ⟨h0, rfl, h2, h3, h4, h6, h7⟩
theorem mAct_12 {c : CN} {N t a : Nat} : mAct N t a c 1 = c 1 ∧ mAct N t a c 2 = c 2 := by
  unfold mAct eatS eatR
  repeat' split
  all_goals exact ⟨rfl, rfl⟩
theorem mAct_Nn {c : CN} {N t a : Nat} (h : Nn c) : Nn (mAct N t a c) := by
  unfold Nn
  rw [mAct_12.1, mAct_12.2]
  exact h
theorem mMelt_keep {c : CN} {N t M : Nat} : mMelt N t M c 0 = c 0 := by
  unfold mMelt
  exact up_inv (P := fun d => d 0 = c 0) (fun i d p => up_inv (P := fun d => d 0 = c 0) (fun k d p => melS_0.trans p) N 0 d p) M 0 c rfl
theorem mRun_keep {c : CN} {N M : Nat} : mRun N M c 0 = c 0 := by
  unfold mRun
  exact dn_invR (n := M) (P := fun d => d 0 = c 0) (fun i d _ p => up_inv (P := fun d => d 0 = c 0) (fun k d p => runS_0.trans p) N 0 d p) M c (Nat.le_refl _) rfl
section CONE
variable {c u : CN} {w : Nat → Nat → Int64} {N t M i k a : Nat} {x : Int32}
theorem hdt (H : Hd c N t M) : put φC c u 0 1 = i32 t := (rC (by decide)).trans H.2.1
theorem okC_canDo (H : Hd c N t M) (ha : a ≤ 6) : fX0_canDo (i32 a) (put φC c u, w) = some (if 1 ≤ a ∧ a < 4 ∧ M < a then 0 else 1, (put φC c u, w)) := by
  have e0 : put φC c u 0 11 = i32 M := (rC (by decide)).trans H.2.2.1
  have hM := H.2.2.2.2.2.2
  unfold fX0_canDo fX0_canDo_0
  by_cases h1 : a < 1
  · rw [if_pos ((lt_l (n := 1) (by unfold B31; omega) (by decide)).mpr h1), if_neg (by omega)]
  · rw [if_neg (fun z => h1 ((lt_l (n := 1) (by unfold B31; omega) (by decide)).mp z))]
    by_cases h4 : 4 ≤ a
    · rw [if_pos ((l_le (n := 4) (by unfold B31; omega) (by decide)).mpr h4), if_neg (by omega)]
    · rw [if_neg (fun z => h4 ((l_le (n := 4) (by unfold B31; omega) (by decide)).mp z))]
      have e1 : i32 a - (1 : Int32) = i32 (a - 1) := i32_sub (b := 1) (by omega)
      simp only [e0, e1, i32_le (a := M) (b := a - 1) (by unfold B31; omega) (by unfold B31; omega)]
      by_cases z : M ≤ a - 1
      · rw [if_pos z, if_pos (by omega)]
      · rw [if_neg z, if_neg (by omega)]
theorem okC_isIdle (H : Hd c N t M) (ha : a ≤ 6) : fX0_isIdle (i32 a) (put φC c u, w) = some (if idl c M t a then 1 else 0, (put φC c u, w)) := by
  have hM := H.2.2.2.2.2.2
  have hN := H.2.2.2.2.1
  have ht := H.2.2.2.2.2.1
  have ht8 : t < 8 := by omega
  unfold fX0_isIdle fX0_isIdle_0
  by_cases h1 : a < 1
  · have : a = 0 := by omega
    subst this
    rw [if_pos (by decide), if_pos (Or.inl rfl)]
    rfl
  · rw [if_neg (fun z => h1 ((lt_l (n := 1) (by unfold B31; omega) (by decide)).mp z))]
    by_cases h4 : a ≤ 4
    · rw [if_pos ((le_l (n := 4) (by unfold B31; omega) (by decide)).mpr h4)]
      by_cases h5 : a = 4
      · subst h5
        simp only [if_pos (show i32 4 = 4 from rfl), hdt H, if_pos (i32_ixB ht8 (by decide)), i32_nat (n := t) (by unfold B31; omega), rC (k := 4) (j := t) ht8]
        by_cases z : c 4 t = 0
        · rw [if_pos z, if_pos (Or.inr (Or.inr ⟨rfl, z⟩))]
        · rw [if_neg z, if_neg (by intro q; rcases q with q | q | q; exact absurd q (by decide); exact absurd q.2.1 (by decide); exact z q.2)]
      · have n5 : ¬ i32 a = 4 := ne_l (n := 4) (by unfold B31; omega) (by decide) h5
        have e1 : i32 a - (1 : Int32) = i32 (a - 1) := i32_sub (b := 1) (by omega)
        rw [if_neg n5, okC_canDo H ha]
        simp only [Option.bind_some]
        by_cases z : 1 ≤ a ∧ a < 4 ∧ M < a
        · rw [if_pos z, if_pos rfl, if_pos (Or.inr (Or.inl ⟨z.1, z.2.1, Or.inl z.2.2⟩))]
        · rw [if_neg z, if_neg (by decide)]
          simp only [e1, hdt H, okC_wetAt (i := a - 1) (k := t) (by omega) ht8, Option.bind_some]
          by_cases y : c 3 (8 * (a - 1) + t) = 0
          · rw [if_pos y, if_pos (Or.inr (Or.inl ⟨by omega, by omega, Or.inr y⟩))]
          · rw [if_neg y, if_neg (by intro q; rcases q with q | q | q; omega; rcases q.2.2 with r | r; omega; exact y r; omega)]
    · rw [if_neg (fun z => h4 ((le_l (n := 4) (by unfold B31; omega) (by decide)).mp z))]
      unfold fX0_isIdle_10
      rw [if_neg (ne_l (n := 0) (by unfold B31; omega) (by decide) (by omega)), if_neg (by intro q; rcases q with q | q | q <;> omega)]
theorem okC_eat (H : Hd c N t M) (h1 : 1 ≤ a) (h4 : a ≤ 4) : fX0_eat (i32 a) (put φC c u, w) = some ((), (put φC (mAct N t a c) u, w)) := by
  have hN := H.2.2.2.2.1
  have ht := H.2.2.2.2.2.1
  have ht8 : t < 8 := by omega
  unfold fX0_eat fX0_eat_0 mAct
  rw [if_neg (show ¬ a = 0 by omega)]
  by_cases h5 : a = 4
  · subst h5
    simp only [if_pos (show i32 4 = 4 from rfl), hdt H, if_pos (i32_ixB ht8 (by decide)), i32_nat (n := t) (by unfold B31; omega), rC (k := 4) (j := t) ht8, rC (k := 0) (j := 5) (show 5 < szC 0 by decide), rC (k := 0) (j := 9) (show 9 < szC 0 by decide), wC (k := 4) (j := t) ht8, wC (k := 0) (j := 9) (show 9 < szC 0 by decide)]
    rfl
  · have n5 : ¬ i32 a = 4 := ne_l (n := 4) (by unfold B31; omega) (by decide) h5
    have e1 : i32 a - (1 : Int32) = i32 (a - 1) := i32_sub (b := 1) (by omega)
    have h24 : 8 * (a - 1) + t < 24 := by omega
    simp only [if_neg n5, e1, hdt H, ix8, if_pos (i32_ixB h24 (by decide)), i32_nat (n := 8 * (a - 1) + t) (by unfold B31; omega), rC (k := 3) h24, rC (k := 0) (j := 5) (show 5 < szC 0 by decide), rC (k := 0) (j := 9) (show 9 < szC 0 by decide), wC (k := 3) h24, wC (k := 0) (j := 9) (show 9 < szC 0 by decide), if_pos (show a < 4 by omega)]
    rfl
theorem okC_pass83 (H : Hd c N t M) (hs : Nn c) : fX0_pass_83 (put φC c u, w) = some ((), (put φC (upd2 (mTick N t M c) 0 7 (mTick N t M c 0 7 + 1)) u, w)) := by
  unfold fX0_pass_83
  rw [okC_melt H hs]
  simp only [Option.bind_some]
  rw [okC_run (H.of mMelt_keep)]
  simp only [Option.bind_some]
  rw [okC_fall ((H.of mMelt_keep).of mRun_keep)]
  simp only [Option.bind_some, rC (k := 0) (j := 7) (show 7 < szC 0 by decide), wC (k := 0) (j := 7) (show 7 < szC 0 by decide)]
  rfl
theorem okC_pass (H : Hd c N t M) (hs : Nn c) (hl : 0 ≤ c 0 5) (ha : canA M a) : fX0_pass (i32 a) (put φC c u, w) = some ((), (put φC (mPass N t M a c) u, w)) := by
  have hN := H.2.2.2.2.1
  have ht := H.2.2.2.2.2.1
  have ht8 : t < 8 := by omega
  have e0 : put φC c u 0 0 = i32 N := (rC (by decide)).trans H.1
  have HA := mAct_Hd (a := a) H
  have NA := mAct_Nn (N := N) (t := t) (a := a) hs
  have fin := okC_pass83 (u := u) (w := w) HA NA
  unfold fX0_pass fX0_pass_0
  unfold mPass
  by_cases h5 : a = 5
  · subst h5
    rw [if_pos (show i32 5 = 5 from rfl), ← fin]
    have e1 : i32 t + (1 : Int32) = i32 (t + 1) := i32_succ t
    simp only [e0, hdt H, e1, i32_le (a := N) (b := t + 1) (by unfold B31; omega) (by unfold B31; omega)]
    unfold fX0_pass_29 mAct newT
    simp only [wC (k := 0) (j := 1) (show 1 < szC 0 by decide)]
    by_cases z : N ≤ t + 1
    · rw [if_pos z]
      simp [show ¬ t + 1 < N by omega]
      rfl
    · rw [if_neg z]
      simp [show t + 1 < N by omega]
  · rw [if_neg (ne_l (n := 5) (by unfold B31; have := ha.1; omega) (by decide) h5)]
    by_cases h6 : a = 6
    · subst h6
      rw [if_pos (show i32 6 = 6 from rfl), ← fin]
      unfold fX0_pass_64 mAct newT
      simp only [e0, hdt H, wC (k := 0) (j := 1) (show 1 < szC 0 by decide)]
      by_cases z : t = 0
      · subst z
        rw [if_pos (show i32 0 ≤ 0 by decide)]
        simp [show i32 N - (1 : Int32) = i32 (N - 1) from i32_sub (b := 1) (by omega)]
      · rw [if_neg (fun y => z (by have := (i32_le (a := t) (b := 0) (by unfold B31; omega) (by decide)).mp y; omega))]
        simp [show i32 t - (1 : Int32) = i32 (t - 1) from i32_sub (b := 1) (by omega), show 0 < t by omega]
    · rw [if_neg (ne_l (n := 6) (by unfold B31; have := ha.1; omega) (by decide) h6), okC_isIdle H ha.1]
      simp only [Option.bind_some]
      by_cases z : idl c M t a
      · rw [if_pos z, if_neg (by decide), ← fin, mAct_idle z ha hl]
      · rw [if_neg z, if_pos rfl]
        have := ha.1
        rw [okC_eat H (by omega) (by omega)]
        simp only [Option.bind_some]
        rw [← fin]
end CONE
