/-! PURE MATHEMATICS, 8: where it's wettest, lowest; what the kinds would do. -/
section READ
variable {c u : CN} {w : Nat → Nat → Int64} {N t M : Nat}
theorem atS_nn (h : G20 c) {k : Nat} (hk : k < 8) : ∀ (m i : Nat) (a : Int32), i + m ≤ 3 → 0 ≤ a.toInt → a.toInt ≤ 20 * (i : Int) + 20 → 0 ≤ (atS c k m i a).toInt
  | 0, _, _ => fun _ ha _ => ha
  | m + 1, i, a => fun him ha hb => by
    have h3 : 0 ≤ (c 3 (8 * i + k)).toInt ∧ (c 3 (8 * i + k)).toInt ≤ 20 := h.2.2.1 i k (by omega) hk
    have e : (a + c 3 (8 * i + k)).toInt = a.toInt + (c 3 (8 * i + k)).toInt := toInt_add' (by omega) (by omega)
    exact atS_nn h hk m (i + 1) _ (by omega) (by rw [e]; omega) (by rw [e]; omega)
theorem mAt_nn (h : G20 c) (hM : M ≤ 3) {k : Nat} (hk : k < 8) : 0 ≤ mAt c M k := by
  have h4 : 0 ≤ (c 4 k).toInt ∧ (c 4 k).toInt ≤ 20 := h.2.2.2.1 k hk
  exact Int32.le_iff_toInt_le.mpr (atS_nn h hk M 0 _ (by omega) h4.1 (by omega))
theorem okC_wettest25 {r6 : Int32 → Int32 → Int32 → SS → Option (Int32 × SS)} {b v : Int32} (H : Hd c N t M) {k : Nat} (hk : k < 8) : ∀ (m i f : Nat) (a : Int32), i + m = M → m < f → fX0_wettestSide_25 r6 f b v (i32 k) a (i32 i) (put φC c u, w) = if atS c k m i a ≤ v then r6 b v (i32 (k + 1)) (put φC c u, w) else r6 (i32 k) (atS c k m i a) (i32 (k + 1)) (put φC c u, w)
  | m, i, 0, a => fun _ h => absurd h (Nat.not_lt_zero _)
  | 0, i, f + 1, a => fun hi _ => by
    have := H.m3
    unfold fX0_wettestSide_25
    simp only [eC11 H, if_pos ((gle (a := M) (b := i) (by omega) (by omega)).mpr (by omega)), i32_succ]
    rfl
  | m + 1, i, f + 1, a => fun hi hf => by
    have := H.m3
    unfold fX0_wettestSide_25
    simp only [eC11 H, if_neg (fun z => absurd ((gle (a := M) (b := i) (by omega) (by omega)).mp z) (by omega)), okC_wetAt (i := i) (k := k) (by omega) hk, Option.bind_some, i32_succ]
    exact okC_wettest25 H hk m (i + 1) f _ (by omega) (by omega)
theorem okC_wettest6 (H : Hd c N t M) : ∀ (m k f b : Nat), k + m = N → m < f → fX0_wettestSide_6 f (i32 b) (mAt c M b) (i32 k) (put φC c u, w) = some (i32 (wetB c M m k b), (put φC c u, w))
  | m, k, 0, b => fun _ h => absurd h (Nat.not_lt_zero _)
  | 0, k, f + 1, b => fun hk _ => by
    have := H.n8
    unfold fX0_wettestSide_6
    simp only [eC0 H, if_pos ((gle (a := N) (b := k) (by omega) (by omega)).mpr (by omega))]
    rfl
  | m + 1, k, f + 1, b => fun hk hf => by
    have := H.n8
    have := H.m3
    have hk8 : k < 8 := by omega
    unfold fX0_wettestSide_6
    simp only [eC0 H, if_neg (fun z => absurd ((gle (a := N) (b := k) (by omega) (by omega)).mp z) (by omega)), if_pos (gix hk8 (by decide)), gnat (a := k) (by omega), rC (k := 4) (j := k) hk8]
    refine (okC_wettest25 (M := M) (k := k) H hk8 M 0 FU _ (by omega) (by unfold FU; omega)).trans ?_
    unfold wetB
    show (if mAt c M k ≤ mAt c M b then _ else _) = _
    split
    · exact okC_wettest6 H m (k + 1) f b (by omega) (by omega)
    · exact okC_wettest6 H m (k + 1) f k (by omega) (by omega)
theorem okC_wettest (H : Hd c N t M) (h : G20 c) : fX0_wettestSide (put φC c u, w) = some (i32 (mWet N M c), (put φC c u, w)) := by
  have hn := H.n8
  have h3 := H.n3
  have hm := H.m3
  have hk8 : 0 < 8 := by decide
  unfold fX0_wettestSide fX0_wettestSide_0
  rw [show FU = 999 + 1 from rfl]
  unfold fX0_wettestSide_6
  have g : ¬ i32 N ≤ (0 : Int32) := fun z => absurd ((gle (a := N) (b := 0) (by omega) (by omega)).mp z) (by omega)
  have ix : ixB (0 : Int32) 8 := gix (k := 0) (by decide) (by decide)
  have e0 : (0 : Int32).toNatClampNeg = 0 := rfl
  simp only [eC0 H, if_neg g, if_pos ix, e0, rC (k := 4) (j := 0) (show 0 < szC 4 by decide)]
  refine (okC_wettest25 (M := M) (k := 0) H hk8 M 0 FU _ (by omega) (by unfold FU; omega)).trans ?_
  have key := okC_wettest6 (u := u) (w := w) H (N - 1) 1 999 0 (by omega) (by omega)
  show (if mAt c M 0 ≤ 0 then _ else _) = _
  by_cases z : mAt c M 0 ≤ 0
  · have : mAt c M 0 = 0 := Int32.le_antisymm z (mAt_nn h hm hk8)
    rw [if_pos z]
    rw [this] at key
    exact key
  · rw [if_neg z]
    exact key
theorem okC_low38 (H : Hd c N t M) {k o : Nat} (hk : k < 8) (ho : o < 8) : ∀ (m i f : Nat), i + m = M → m < f → fX0_isWetLower_38 f (i32 k) (i32 o) (i32 i) (put φC c u, w) = some (lowS c k o m i, (put φC c u, w))
  | m, i, 0 => fun _ h => absurd h (Nat.not_lt_zero _)
  | 0, i, f + 1 => fun hi _ => by
    have := H.m3
    unfold fX0_isWetLower_38
    simp only [eC11 H, if_pos ((gle (a := M) (b := i) (by omega) (by omega)).mpr (by omega))]
    rfl
  | m + 1, i, f + 1 => fun hi' hf => by
    have := H.m3
    have hi : i < 3 := by omega
    unfold fX0_isWetLower_38
    simp only [eC11 H, if_neg (fun z => absurd ((gle (a := M) (b := i) (by omega) (by omega)).mp z) (by omega)), okC_wetAt hi hk, okC_wetAt hi ho, Option.bind_some, i32_succ]
    unfold lowS
    split
    · exact okC_low38 H hk ho m (i + 1) f (by omega) (by omega)
    · split <;> rfl
theorem okC_low (H : Hd c N t M) {k o : Nat} (hk : k < 8) (ho : o < 8) : fX0_isWetLower (i32 k) (i32 o) (put φC c u, w) = some (mLow c M k o, (put φC c u, w)) := by
  have := H.m3
  unfold fX0_isWetLower fX0_isWetLower_0 mLow
  simp only [if_pos (gix hk (by decide)), if_pos (gix ho (by decide)), gnat (a := k) (by omega), gnat (a := o) (by omega), rC (k := 4) (j := k) hk, rC (k := 4) (j := o) ho]
  split
  · exact okC_low38 H hk ho M 0 FU (by omega) (by unfold FU; omega)
  · split <;> rfl
theorem okR_more38 (H : Hd c N t M) {k o : Nat} (hk : k < 8) (ho : o < 8) : ∀ (m i f : Nat), i + m = M → m < f → fX6_isMore_38 f (i32 k) (i32 o) (i32 i) (put φR c u, w) = some (lowS c k o m i, (put φR c u, w))
  | m, i, 0 => fun _ h => absurd h (Nat.not_lt_zero _)
  | 0, i, f + 1 => fun hi _ => by
    have := H.m3
    unfold fX6_isMore_38
    simp only [eR11 H, if_pos ((gle (a := M) (b := i) (by omega) (by omega)).mpr (by omega))]
    rfl
  | m + 1, i, f + 1 => fun hi' hf => by
    have := H.m3
    have hi : i < 3 := by omega
    unfold fX6_isMore_38
    simp only [eR11 H, if_neg (fun z => absurd ((gle (a := M) (b := i) (by omega) (by omega)).mp z) (by omega)), if_pos (gix hi (by decide)), if_pos (gix hk (by decide)), if_pos (gix ho (by decide)), gnat (a := i) (by omega), gnat (a := k) (by omega), gnat (a := o) (by omega), rR (fR_wet hi hk), rR (fR_wet hi ho), i32_succ]
    unfold lowS
    split
    · exact okR_more38 H hk ho m (i + 1) f (by omega) (by omega)
    · split <;> rfl
theorem okR_more (H : Hd c N t M) {k o : Nat} (hk : k < 8) (ho : o < 8) : fX6_isMore (i32 k) (i32 o) (put φR c u, w) = some (mLow c M k o, (put φR c u, w)) := by
  have := H.m3
  unfold fX6_isMore fX6_isMore_0 mLow
  simp only [if_pos (gix hk (by decide)), if_pos (gix ho (by decide)), gnat (a := k) (by omega), gnat (a := o) (by omega), rR (fR_rim hk), rR (fR_rim ho)]
  split
  · exact okR_more38 H hk ho M 0 FU (by omega) (by unfold FU; omega)
  · split <;> rfl
theorem okC_lowest4 (H : Hd c N t M) : ∀ (m k f b : Nat), k + m = N → m < f → b < 8 → fX0_lowestWetSide_4 f (i32 b) (i32 k) (put φC c u, w) = some (i32 (lowB c M m k b), (put φC c u, w))
  | m, k, 0, b => fun _ h => absurd h (Nat.not_lt_zero _)
  | 0, k, f + 1, b => fun hk _ _ => by
    have := H.n8
    unfold fX0_lowestWetSide_4
    simp only [eC0 H, if_pos ((gle (a := N) (b := k) (by omega) (by omega)).mpr (by omega))]
    rfl
  | m + 1, k, f + 1, b => fun hk hf hb => by
    have := H.n8
    have hk8 : k < 8 := by omega
    unfold fX0_lowestWetSide_4
    simp only [eC0 H, if_neg (fun z => absurd ((gle (a := N) (b := k) (by omega) (by omega)).mp z) (by omega)), okC_low H hk8 hb, Option.bind_some, i32_succ]
    unfold lowB
    split
    · exact okC_lowest4 H m (k + 1) f b (by omega) (by omega) hb
    · exact okC_lowest4 H m (k + 1) f k (by omega) (by omega) hk8
theorem okC_lowest (H : Hd c N t M) : fX0_lowestWetSide (put φC c u, w) = some (i32 (mLowest N M c), (put φC c u, w)) :=
  okC_lowest4 H (N - 1) 1 FU 0 (by have := H.n3; omega) (by have := H.n8; unfold FU; omega) (by decide)
theorem okC_lick16 (H : Hd c N t M) : ∀ (m i f : Nat), i + m = M → m < f → fX2_lickLowest_16 f (i32 i) (put φC c u, w) = some (i32 (lickS c t m i), (put φC c u, w))
  | m, i, 0 => fun _ h => absurd h (Nat.not_lt_zero _)
  | 0, i, f + 1 => fun hi _ => by
    have := H.m3
    unfold fX2_lickLowest_16
    simp only [eC11 H, if_pos ((gle (a := M) (b := i) (by omega) (by omega)).mpr (by omega))]
    rfl
  | m + 1, i, f + 1 => fun hi' hf => by
    have := H.m3
    have hi : i < 3 := by omega
    unfold fX2_lickLowest_16
    simp only [eC11 H, eC1 H, if_neg (fun z => absurd ((gle (a := M) (b := i) (by omega) (by omega)).mp z) (by omega)), okC_wetAt hi H.t8, Option.bind_some, i32_succ]
    unfold lickS
    split
    · exact okC_lick16 H m (i + 1) f (by omega) (by omega)
    · rw [Int32.add_comm, i32_succ]
theorem okC_lick (H : Hd c N t M) : fX2_lickLowest (put φC c u, w) = some (i32 (mLick t M c), (put φC c u, w)) := by
  have := H.m3
  have ht := H.t8
  unfold fX2_lickLowest fX2_lickLowest_0 mLick
  simp only [eC1 H, if_pos (gix ht (by decide)), gnat (a := t) (by omega), rC (k := 4) (j := t) ht]
  split
  · exact okC_lick16 H M 0 FU (by omega) (by unfold FU; omega)
  · rfl
theorem lickS_le : ∀ m i : Nat, i + m ≤ 3 → lickS c t m i ≤ 3
  | 0, _ => fun _ => by unfold lickS; omega
  | m + 1, i => fun h => by
    unfold lickS
    split
    · exact lickS_le m (i + 1) (by omega)
    · omega
theorem mLick_le (hM : M ≤ 3) : mLick t M c ≤ 4 := by
  unfold mLick
  split
  · have := lickS_le (c := c) (t := t) M 0 (by omega); omega
  · omega
theorem okC_round (H : Hd c N t M) : fX2_goRound (put φC c u, w) = some (i32 (mRound t M c), (put φC c u, w)) := by
  have h4 := mLick_le (c := c) (t := t) H.m3
  unfold fX2_goRound fX2_goRound_0 mRound
  rw [okC_lick H]
  simp only [Option.bind_some]
  by_cases z : mLick t M c = 0
  · rw [z]; rfl
  · rw [if_neg z, if_neg (ne_l (n := 0) (by unfold B31; omega) (by decide) z)]
theorem pos_ne {x : Int32} (h : 0 ≤ x.toInt) : (x ≤ 0) ↔ x = 0 :=
  ⟨fun z => Int32.le_antisymm z (Int32.le_iff_toInt_le.mpr h), fun z => by rw [z]; exact Int32.le_refl 0⟩
theorem okR_round16 (H : Hd c N t M) (h : G20 c) : ∀ (m i f : Nat), i + m = M → m < f → fX6_roundAct_16 f (i32 i) (put φR c u, w) = some (if lickS c t m i = 0 then 5 else i32 (lickS c t m i), (put φR c u, w))
  | m, i, 0 => fun _ h => absurd h (Nat.not_lt_zero _)
  | 0, i, f + 1 => fun hi _ => by
    have := H.m3
    unfold fX6_roundAct_16
    simp only [eR11 H, if_pos ((gle (a := M) (b := i) (by omega) (by omega)).mpr (by omega))]
    rfl
  | m + 1, i, f + 1 => fun hi' hf => by
    have := H.m3
    have hi : i < 3 := by omega
    have ht := H.t8
    have h3 : 0 ≤ (c 3 (8 * i + t)).toInt ∧ (c 3 (8 * i + t)).toInt ≤ 20 := h.2.2.1 i t hi ht
    unfold fX6_roundAct_16
    simp only [eR11 H, eR1 H, if_neg (fun z => absurd ((gle (a := M) (b := i) (by omega) (by omega)).mp z) (by omega)), if_pos (gix hi (by decide)), if_pos (gix ht (by decide)), gnat (a := i) (by omega), gnat (a := t) (by omega), rR (fR_wet hi ht), i32_succ, pos_ne h3.1]
    unfold lickS
    by_cases z : c 3 (8 * i + t) = 0
    · rw [if_pos z, if_pos z]
      exact okR_round16 H h m (i + 1) f (by omega) (by omega)
    · rw [if_neg z, if_neg z, if_neg (by omega)]
theorem okR_round (H : Hd c N t M) (h : G20 c) : fX6_roundAct (put φR c u, w) = some (i32 (mRound t M c), (put φR c u, w)) := by
  have := H.m3
  have ht := H.t8
  have h4 : 0 ≤ (c 4 t).toInt ∧ (c 4 t).toInt ≤ 20 := h.2.2.2.1 t ht
  unfold fX6_roundAct fX6_roundAct_0 mRound mLick
  simp only [eR1 H, if_pos (gix ht (by decide)), gnat (a := t) (by omega), rR (fR_rim ht), pos_ne h4.1]
  by_cases z : c 4 t = 0
  · simp only [if_pos z]
    refine (okR_round16 H h M 0 FU (by omega) (by unfold FU; omega)).trans ?_
    split <;> rfl
  · simp only [if_neg z]
    rfl
theorem okC_lw30 (H : Hd c N t M) : ∀ (m i f a : Nat) (v : Int32), i + m = M → m < f → fX2_lickWettest_30 f (i32 a) v (i32 i) (put φC c u, w) = some (i32 (lwS c t m i a v), (put φC c u, w))
  | m, i, 0, a, v => fun _ h => absurd h (Nat.not_lt_zero _)
  | 0, i, f + 1, a, v => fun hi _ => by
    have := H.m3
    unfold fX2_lickWettest_30
    simp only [eC11 H, if_pos ((gle (a := M) (b := i) (by omega) (by omega)).mpr (by omega))]
    rfl
  | m + 1, i, f + 1, a, v => fun hi' hf => by
    have := H.m3
    have hi : i < 3 := by omega
    unfold fX2_lickWettest_30
    simp only [eC11 H, eC1 H, if_neg (fun z => absurd ((gle (a := M) (b := i) (by omega) (by omega)).mp z) (by omega)), okC_wetAt hi H.t8, Option.bind_some, i32_succ, Int32.add_comm 1]
    unfold lwS
    split
    · exact okC_lw30 H m (i + 1) f a v (by omega) (by omega)
    · exact okC_lw30 H m (i + 1) f (i + 1) _ (by omega) (by omega)
theorem okC_lickW (H : Hd c N t M) : fX2_lickWettest (put φC c u, w) = some (i32 (mLickW t M c), (put φC c u, w)) := by
  have := H.m3
  have ht := H.t8
  unfold fX2_lickWettest fX2_lickWettest_0 fX2_lickWettest_17 mLickW
  simp only [eC1 H, if_pos (gix ht (by decide)), gnat (a := t) (by omega), rC (k := 4) (j := t) ht]
  split
  · exact okC_lw30 H M 0 FU 0 _ (by omega) (by unfold FU; omega)
  · exact okC_lw30 H M 0 FU 4 _ (by omega) (by unfold FU; omega)
theorem okR_wa50 (H : Hd c N t M) : ∀ (m i f a : Nat) (v : Int32), i + m = M → m < f → fX6_wettestAct_50 f (i32 a) v (i32 i) (put φR c u, w) = some (i32 (lwS c t m i a v), (put φR c u, w))
  | m, i, 0, a, v => fun _ h => absurd h (Nat.not_lt_zero _)
  | 0, i, f + 1, a, v => fun hi _ => by
    have := H.m3
    unfold fX6_wettestAct_50
    simp only [eR11 H, if_pos ((gle (a := M) (b := i) (by omega) (by omega)).mpr (by omega))]
    rfl
  | m + 1, i, f + 1, a, v => fun hi' hf => by
    have := H.m3
    have hi : i < 3 := by omega
    have ht := H.t8
    unfold fX6_wettestAct_50
    simp only [eR11 H, eR1 H, if_neg (fun z => absurd ((gle (a := M) (b := i) (by omega) (by omega)).mp z) (by omega)), if_pos (gix hi (by decide)), if_pos (gix ht (by decide)), gnat (a := i) (by omega), gnat (a := t) (by omega), rR (fR_wet hi ht), i32_succ]
    unfold lwS
    split
    · exact okR_wa50 H m (i + 1) f a v (by omega) (by omega)
    · exact okR_wa50 H m (i + 1) f (i + 1) _ (by omega) (by omega)
theorem plc_lt {k : Nat} (ht : t < N) (hk : k < N) : plc N t k < N := by unfold plc; split <;> omega
theorem okC_turnTo (H : Hd c N t M) {k : Nat} (hk : k < N) : fX2_turnTo (i32 k) (put φC c u, w) = some (i32 (mTo N t k), (put φC c u, w)) := by
  have hn := H.n8
  have ht := H.tN
  have key : ∀ p : Nat, p < N → fX2_turnTo_18 (i32 p) (put φC c u, w) = some (i32 (if N - p < p then 6 else 5), (put φC c u, w)) := by
    intro p hp
    unfold fX2_turnTo_18
    simp only [eC0 H, i32_sub (Nat.le_of_lt hp), glt (a := N - p) (b := p) (by omega) (by omega)]
    split <;> rfl
  unfold fX2_turnTo fX2_turnTo_0 mTo
  simp only [eC0 H, eC1 H]
  have hp := plc_lt ht hk
  unfold plc at hp ⊢
  by_cases z : t ≤ k
  · simp only [i32_sub z, if_pos z, if_pos (i32_nn (n := k - t) (by unfold B31; omega))]
    exact key _ (by omega)
  · rw [if_neg z] at hp
    rw [if_neg z, if_neg ?_]
    · have e : i32 k - i32 t + i32 N = i32 (k + N - t) := by
        rw [← i32_sub (a := k + N) (b := t) (by omega), ← i32_add, Int32.sub_eq_add_neg, Int32.sub_eq_add_neg, Int32.add_assoc, Int32.add_assoc, Int32.add_comm (-i32 t)]
      rw [e]
      exact key _ hp
    · rw [Int32.le_iff_toInt_le, toInt_sub' (by rw [i32_toInt (by unfold B31; omega), i32_toInt (by unfold B31; omega)]; omega) (by rw [i32_toInt (by unfold B31; omega), i32_toInt (by unfold B31; omega)]; omega), i32_toInt (by unfold B31; omega), i32_toInt (by unfold B31; omega)]
      show ¬ ((0 : Int) ≤ _)
      omega
theorem okR_turnTo (H : Hd c N t M) {k : Nat} (hk : k < N) : fX6_turnTo (i32 k) (put φR c u, w) = some (i32 (mTo N t k), (put φR c u, w)) := by
  have hn := H.n8
  have ht := H.tN
  have e : i32 k - i32 t + i32 N = i32 (k + N - t) := by
    rw [← i32_sub (a := k + N) (b := t) (by omega), ← i32_add, Int32.sub_eq_add_neg, Int32.sub_eq_add_neg, Int32.add_assoc, Int32.add_assoc, Int32.add_comm (-i32 t)]
  have n0 : ¬ i32 N = 0 := ne_l (n := 0) (by unfold B31; omega) (by decide) (by omega)
  have hp := plc_lt ht hk
  unfold fX6_turnTo fX6_turnTo_0 mTo
  simp only [eR0 H, eR1 H, if_pos n0, e, i32_rem (a := k + N - t) (b := N) (by unfold B31; omega) (by unfold B31; omega) (by omega), plc_mod ht hk, i32_sub (Nat.le_of_lt hp), glt (a := N - plc N t k) (b := plc N t k) (by omega) (by omega)]
  split <;> rfl
theorem wetB_lt : ∀ (m k b : Nat), k + m = N → b < N → wetB c M m k b < N
  | 0, _, _ => fun _ h => h
  | m + 1, k, b => fun hk hb => by
    unfold wetB
    split
    · exact wetB_lt m (k + 1) b (by omega) hb
    · exact wetB_lt m (k + 1) k (by omega) (by omega)
theorem lowB_lt : ∀ (m k b : Nat), k + m = N → b < N → lowB c M m k b < N
  | 0, _, _ => fun _ h => h
  | m + 1, k, b => fun hk hb => by
    unfold lowB
    split
    · exact lowB_lt m (k + 1) b (by omega) hb
    · exact lowB_lt m (k + 1) k (by omega) (by omega)
/-- the acts of WETTEST and LOWEST -/
def aWet (N t M : Nat) (c : CN) : Nat := if mWet N M c = t then mLickW t M c else mTo N t (mWet N M c)
def aLow (N t M : Nat) (c : CN) : Nat := if mLowest N M c = t then mLick t M c else mTo N t (mLowest N M c)
theorem okR_wettestAct (H : Hd c N t M) : fX6_wettestAct (put φR c u, w) = some (i32 (aWet N t M c), (put φR c u, w)) := by
  have hn := H.n8
  have hm := H.m3
  have ht := H.t8
  have hb : mWet N M c < N := wetB_lt (N - 1) 1 0 (by have := H.n3; omega) (by have := H.n3; omega)
  unfold fX6_wettestAct fX6_wettestAct_0 fX6_wettestAct_36 aWet mLickW
  rw [okR_wettest H]
  simp only [Option.bind_some, eR1 H, if_pos (gix ht (by decide)), gnat (a := t) (by omega), rR (fR_rim ht), okR_turnTo H hb]
  by_cases z : mWet N M c = t
  · rw [if_pos z, if_pos (by rw [z])]
    split
    · exact okR_wa50 H M 0 FU 0 _ (by omega) (by unfold FU; omega)
    · exact okR_wa50 H M 0 FU 4 _ (by omega) (by unfold FU; omega)
  · rw [if_neg z, if_neg (i32_eq (by unfold B31; omega) (by unfold B31; omega) z)]
theorem okR_lowest4 (H : Hd c N t M) (h : G20 c) : ∀ (m k f b : Nat), k + m = N → m < f → b < N → fX6_lowestAct_4 f (i32 b) (i32 k) (put φR c u, w) = some (i32 (if lowB c M m k b = t then mLick t M c else mTo N t (lowB c M m k b)), (put φR c u, w))
  | m, k, 0, b => fun _ h => absurd h (Nat.not_lt_zero _)
  | 0, k, f + 1, b => fun hk _ hb => by
    have := H.n8
    have ht := H.tN
    unfold fX6_lowestAct_4
    simp only [eR0 H, eR1 H, if_pos ((gle (a := N) (b := k) (by omega) (by omega)).mpr (by omega)), okR_round H h, okR_turnTo H hb, Option.bind_some]
    show _ = some (i32 (if b = t then _ else mTo N t b), _)
    by_cases z : b = t
    · rw [if_pos z, if_pos (by rw [z])]
      unfold mRound
      have h4 := mLick_le (c := c) (t := t) H.m3
      by_cases y : mLick t M c = 0
      · rw [y]; rfl
      · rw [if_neg y, if_neg (ne_l (n := 5) (by unfold B31; omega) (by decide) (by omega))]
    · rw [if_neg z, if_neg (i32_eq (by unfold B31; omega) (by unfold B31; omega) z)]
  | m + 1, k, f + 1, b => fun hk hf hb => by
    have := H.n8
    have hk8 : k < 8 := by omega
    have hb8 : b < 8 := by omega
    unfold fX6_lowestAct_4
    simp only [eR0 H, if_neg (fun z => absurd ((gle (a := N) (b := k) (by omega) (by omega)).mp z) (by omega)), okR_more H hk8 hb8, Option.bind_some, i32_succ]
    unfold lowB
    split
    · exact okR_lowest4 H h m (k + 1) f b (by omega) (by omega) hb
    · exact okR_lowest4 H h m (k + 1) f k (by omega) (by omega) (by omega)
theorem okR_lowestAct (H : Hd c N t M) (h : G20 c) : fX6_lowestAct (put φR c u, w) = some (i32 (aLow N t M c), (put φR c u, w)) :=
  okR_lowest4 H h (N - 1) 1 FU 0 (by have := H.n3; omega) (by have := H.n8; unfold FU; omega) (by have := H.n3; omega)
end READ
