/-! PURE MATHEMATICS, 18: within; acts that can be. -/
theorem cmp_lt {x y : Int64} : lg_cmp x y < 0 ↔ x < y := by
  unfold lg_cmp
  by_cases h : x > y
  · rw [if_pos h]
    refine ⟨fun z => absurd z (by decide), fun z => ?_⟩
    rw [gt_iff_lt, Int64.lt_iff_toInt_lt] at h
    rw [Int64.lt_iff_toInt_lt] at z
    omega
  · rw [if_neg h]
    by_cases e : x = y
    · rw [if_pos e, e]
      refine ⟨fun z => absurd z (by decide), fun z => ?_⟩
      rw [Int64.lt_iff_toInt_lt] at z
      omega
    · rw [if_neg e]
      refine ⟨fun _ => ?_, fun _ => by decide⟩
      rw [Int64.lt_iff_toInt_lt]
      rw [gt_iff_lt, Int64.lt_iff_toInt_lt] at h
      have : x.toInt ≠ y.toInt := fun z => e (Int64.toInt_inj.mp z)
      omega
theorem cmp_gt {x y : Int64} : 0 < lg_cmp x y ↔ y < x := by
  unfold lg_cmp
  by_cases h : x > y
  · rw [if_pos h]
    exact ⟨fun _ => h, fun _ => by decide⟩
  · rw [if_neg h]
    refine ⟨fun z => ?_, fun z => absurd z h⟩
    split at z
    · exact absurd z (by decide)
    · exact absurd z (by decide)
theorem cmp_eq {x y : Int64} : lg_cmp x y = 0 ↔ x = y := by
  unfold lg_cmp
  by_cases h : x > y
  · rw [if_pos h]
    refine ⟨fun z => absurd z (by decide), fun z => ?_⟩
    rw [gt_iff_lt, Int64.lt_iff_toInt_lt, z] at h
    omega
  · rw [if_neg h]
    by_cases e : x = y
    · rw [if_pos e]; exact ⟨fun _ => e, fun _ => rfl⟩
    · rw [if_neg e]; exact ⟨fun z => absurd z (by decide), fun z => absurd z e⟩
theorem okR_in {x y z : Int64} {s : SS} : fX6_in x y z s = some (if y ≤ x ∧ x ≤ z then 1 else 0, s) := by
  have e1 : (lg_cmp x y < 0) ↔ ¬ y ≤ x := by rw [cmp_lt, Int64.not_le]
  have e2 : (0 < lg_cmp x z) ↔ ¬ x ≤ z := by rw [cmp_gt, Int64.not_le]
  unfold fX6_in fX6_in_0
  by_cases h1 : y ≤ x
  · rw [if_neg (fun q => e1.mp q h1)]
    by_cases h2 : x ≤ z
    · rw [if_neg (fun q => e2.mp q h2), if_pos ⟨h1, h2⟩]
    · rw [if_pos (e2.mpr h2), if_neg (fun q => h2 q.2)]
  · rw [if_pos (e1.mpr h1), if_neg (fun q => h1 q.1)]
theorem t64_le {x y : Int32} : x.toInt64 ≤ y.toInt64 ↔ x ≤ y := by
  rw [Int64.le_iff_toInt_le, Int32.toInt_toInt64, Int32.toInt_toInt64, Int32.le_iff_toInt_le]
/-- the reference's within, of ints -/
theorem okR_in32 {x y z : Int32} {a b : Int64} {s : SS} (ha : a = y.toInt64) (hb : b = z.toInt64) : fX6_in x.toInt64 a b s = some (if y ≤ x ∧ x ≤ z then 1 else 0, s) := by
  subst ha; subst hb
  rw [okR_in]
  by_cases h : y ≤ x ∧ x ≤ z
  · rw [if_pos h, if_pos ⟨t64_le.mpr h.1, t64_le.mpr h.2⟩]
  · rw [if_neg h, if_neg (fun q => h ⟨t64_le.mp q.1, t64_le.mp q.2⟩)]
theorem okC_within {x y z : Int32} {s : SS} : fX5_isWithin x y z s = some (if y ≤ x ∧ x ≤ z then 1 else 0, s) := by
  unfold fX5_isWithin fX5_isWithin_0
  by_cases h1 : y ≤ x
  · rw [if_neg (Int32.not_lt.mpr h1)]
    by_cases h2 : x ≤ z
    · rw [if_neg (Int32.not_lt.mpr h2), if_pos ⟨h1, h2⟩]
    · rw [if_pos (Int32.not_le.mp h2), if_neg (fun q => h2 q.2)]
  · rw [if_pos (Int32.not_le.mp h1), if_neg (fun q => h1 q.1)]
theorem nbZ_b {p : Prop} {h : Decidable p} : nbZ (if p then 1 else 0) = if p then 1 else 0 := by
  by_cases q : p
  · rw [if_pos q]; decide +kernel
  · rw [if_neg q]; decide +kernel
section ACTS
variable {c u : CN} {w : Nat → Nat → Int64} {N t M a : Nat} {x : Int64}
theorem okR_canAct (H : Hd c N t M) {s : SS} (hs : s.1 0 10 = i32 M) (ha : a ≤ 6) : fX6_canAct (i32 a).toInt64 s = some (if canB M a then 1 else 0, s) := by
  have hM := H.m3
  have e0 : (0 : Int64) = (i32 0).toInt64 := by decide
  have e1 : (1 : Int64) = (i32 1).toInt64 := by decide
  have e3 : (3 : Int64) = (i32 3).toInt64 := by decide
  have e6 : (6 : Int64) = (i32 6).toInt64 := by decide
  have l1 : (i32 a).toInt64 < (i32 1).toInt64 ↔ a < 1 := by rw [← Int64.not_le, t64_le, gle (by omega) (by omega)]; omega
  have l3 : (i32 3).toInt64 < (i32 a).toInt64 ↔ 3 < a := by rw [← Int64.not_le, t64_le, gle (by omega) (by omega)]; omega
  have lM : (i32 M).toInt64 < (i32 a).toInt64 ↔ M < a := by rw [← Int64.not_le, t64_le, gle (by omega) (by omega)]; omega
  unfold fX6_canAct fX6_canAct_0
  rw [okR_in32 (y := i32 0) (z := i32 6) e0 e6, if_pos ⟨(gle (by omega) (by omega)).mpr (Nat.zero_le _), (gle (by omega) (by omega)).mpr ha⟩, obind]
  simp only [hs]
  rw [if_neg (by decide), e1, e3]
  by_cases h1 : a < 1
  · rw [if_pos (cmp_lt.mpr (l1.mpr h1)), if_pos (Or.inl (by omega))]
  · rw [if_neg (fun z => h1 (l1.mp (cmp_lt.mp z)))]
    by_cases h3 : 3 < a
    · rw [if_pos (cmp_gt.mpr (l3.mpr h3)), if_pos (Or.inr (by omega))]
    · rw [if_neg (fun z => h3 (l3.mp (cmp_gt.mp z)))]
      by_cases hm : M < a
      · rw [if_pos (cmp_gt.mpr (lM.mpr hm)), if_neg (by unfold canB; omega)]
      · rw [if_neg (fun z => hm (lM.mp (cmp_gt.mp z))), if_pos (Or.inl (by omega))]
/-- a told number that is no act at all -/
theorem okR_canAct_out {s : SS} (hx : ¬ (0 ≤ x ∧ x ≤ 6)) : fX6_canAct x s = some (0, s) := by
  unfold fX6_canAct fX6_canAct_0
  rw [okR_in, if_neg hx, obind]
  rfl
theorem act_of (hx : 0 ≤ x ∧ x ≤ 6) : ∃ a : Nat, a ≤ 6 ∧ x = (i32 a).toInt64 ∧ x.toInt32 = i32 a := by
  have h0 := Int64.le_iff_toInt_le.mp hx.1
  have h6 := Int64.le_iff_toInt_le.mp hx.2
  have e0 : (0 : Int64).toInt = 0 := rfl
  have e6 : (6 : Int64).toInt = 6 := rfl
  rw [e0] at h0
  rw [e6] at h6
  have e : x = (i32 x.toInt.toNat).toInt64 := by
    refine Int64.toInt_inj.mp ?_
    rw [Int32.toInt_toInt64, i32_toInt (by unfold B31; omega)]
    omega
  refine ⟨x.toInt.toNat, by omega, e, ?_⟩
  refine (congrArg Int64.toInt32 e).trans ?_
  exact Int32.toInt32_toInt64 _
end ACTS
