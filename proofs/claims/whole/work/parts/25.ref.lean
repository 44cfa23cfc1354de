/-! PURE MATHEMATICS, 5: the reference's second comes to the same model. -/
def mTruth (N t M a : Nat) (c : CN) : CN := if mPass N t M a c 0 8 ≤ c 0 8 then mPass N t M a c else if 20 ≤ mPass N t M a c 5 5 then mPass N t M a c else upd2 (upd2 (mPass N t M a c) 8 (mPass N t M a c 5 5).toNatClampNeg (mPass N t M a c 0 7)) 5 5 (mPass N t M a c 5 5 + 1)
theorem i32_div {a b : Nat} (ha : B31 a) (hb : B31 b) (h0 : 0 < b) : i32 a / i32 b = i32 (a / b) := by
  refine Int32.toInt_inj.mp ?_
  have hle : a / b ≤ a := Nat.div_le_self a b
  have e1 : i32 b ≠ -1 := by
    intro z
    have := congrArg Int32.toInt z
    rw [i32_toInt hb] at this
    have e : (-1 : Int32).toInt = -1 := rfl
    rw [e] at this
    omega
  rw [Int32.toInt_div_of_ne_right _ _ e1, i32_toInt ha, i32_toInt hb, i32_toInt (Nat.lt_of_le_of_lt hle ha)]
  rfl
theorem i32_rem {a b : Nat} (ha : B31 a) (hb : B31 b) (h0 : 0 < b) : i32 a - i32 a / i32 b * i32 b = i32 (a % b) := by
  rw [i32_div ha hb h0, i32_mul, i32_sub (Nat.div_mul_le_self a b)]
  refine congrArg i32 ?_
  have := Nat.div_add_mod a b
  rw [Nat.mul_comm] at this
  omega
theorem plc_mod {N t k : Nat} (ht : t < N) (hk : k < N) : (k + N - t) % N = plc N t k := by
  unfold plc
  by_cases z : t ≤ k
  · rw [if_pos z, show k + N - t = (k - t) + N by omega, Nat.add_mod_right, Nat.mod_eq_of_lt (by omega)]
  · rw [if_neg z, Nat.mod_eq_of_lt (by omega)]
theorem sub_sub_self' (w h : Int32) : w - (w - h) = h := by grind
theorem upd2_comm {S : CN} {a i b j : Nat} {x y : Int32} (h : ¬ (a = b ∧ i = j)) : upd2 (upd2 S a i x) b j y = upd2 (upd2 S b j y) a i x := by
  funext q z
  unfold upd2
  by_cases q1 : q = a <;> by_cases q2 : q = b <;> by_cases z1 : z = i <;> by_cases z2 : z = j <;> simp_all
section REF
variable {c u : CN} {w : Nat → Nat → Int64} {N t M i k a : Nat} {x : Int32}
theorem rR {k j a b : Nat} (h : φR k j = some (a, b)) : put φR c u k j = c a b := put_at h
theorem wR {k j a b : Nat} (h : φR k j = some (a, b)) : wrI (put φR c u, w) k j x = (put φR (upd2 c a b x) u, w) := wrI_put φR_ok h
theorem fR_wet (hi : i < 3) (hk : k < 8) : φR (20 + i) k = some (3, 8 * i + k) := by
  unfold φR φR1
  rw [if_neg (by omega), if_neg (by omega), if_neg (by omega), if_pos (by omega), if_pos hk]
  exact congrArg some (Prod.ext rfl (by show (_ : Nat) = _; omega))
theorem fR_sort (hi : i < 3) : φR 17 i = some (1, i) := if_pos hi
theorem fR_amt (hi : i < 3) : φR 18 i = some (2, i) := if_pos hi
theorem fR_rim (hk : k < 8) : φR 23 k = some (4, k) := if_pos hk
theorem fR_kind (hk : k < 4) : φR 25 k = some (6, k) := if_pos hk
theorem fR_by (hk : k < 4) : φR 26 k = some (7, k) := if_pos hk
theorem fR_drop (hk : k < 20) : φR 27 k = some (8, k) := if_pos hk
theorem okR_isSunny (H : Hd c N t M) (hk : k < N) : fX6_isSunny (i32 k) (put φR c u, w) = some (if shy c (plc N t k) then 0 else 1, (put φR c u, w)) := by
  obtain ⟨h0, h1, h2, h3, h4, h5, h6⟩ := H
  have e0 : put φR c u 0 9 = i32 N := (rR rfl).trans h0
  have e1 : put φR c u 0 15 = i32 t := (rR rfl).trans h1
  have e2 : put φR c u 0 16 = c 0 2 := rR rfl
  have e3 : i32 k + i32 N - i32 t = i32 (k + N - t) := by rw [i32_add, i32_sub (by omega)]
  unfold fX6_isSunny fX6_isSunny_0
  simp only [e0, e1, e2, e3, if_pos (show ¬ i32 N = 0 from ne_l (n := 0) (by unfold B31; omega) (by decide) (by omega)), i32_rem (a := k + N - t) (b := N) (by unfold B31; omega) (by unfold B31; omega) (by omega), plc_mod h5 hk]
  split <;> rfl
theorem okR_melt56 {r2 : Int32 → Int32 → SS → Option (Unit × SS)} {y : Int32} (hi : i < 3) (hk : k < 8) : fX6_melts_56 r2 (i32 i) (i32 k) y (put φR c u, w) = r2 (i32 i) (i32 (k + 1)) (put φR (upd2 (upd2 c 2 i (c 2 i - y)) 3 (8 * i + k) (c 3 (8 * i + k) + y)) u, w) := by
  unfold fX6_melts_56
  simp only [if_pos (i32_ixB hi (by decide)), if_pos (i32_ixB hk (by decide)), i32_nat (n := i) (by unfold B31; omega), i32_nat (n := k) (by unfold B31; omega), i32_succ, rR (fR_amt hi), wR (fR_amt hi), rR (fR_wet hi hk), wR (fR_wet hi hk), upd2_ne (show (3 : Nat) ≠ 2 by decide)]
theorem okR_melt35 {r2 : Int32 → Int32 → SS → Option (Unit × SS)} {y : Int32} (hi : i < 3) (hk : k < 8) : fX6_melts_35 r2 (i32 i) (i32 k) y (put φR c u, w) = r2 (i32 i) (i32 (k + 1)) (put φR (upd2 (upd2 c 2 i (c 2 i - mn (c 2 i) y)) 3 (8 * i + k) (c 3 (8 * i + k) + mn (c 2 i) y)) u, w) := by
  unfold fX6_melts_35 mn
  simp only [if_pos (i32_ixB hi (by decide)), i32_nat (n := i) (by unfold B31; omega), rR (fR_amt hi), okR_melt56 hi hk]
  rw [← mnle]
  split <;> rfl
theorem okR_melts2 (hi : i < 3) : ∀ (m k f : Nat) (c : CN), k + m = N → m < f → Hd c N t M → fX6_melts_2 f (i32 i) (i32 k) (put φR c u, w) = some ((), (put φR (up (fun k c => melS N t i k c) m k c) u, w))
  | m, k, 0, c => fun _ h => absurd h (Nat.not_lt_zero _)
  | 0, k, f + 1, c => fun hk _ H => by
    have e0 : put φR c u 0 9 = i32 N := (rR rfl).trans H.1
    have hN := H.2.2.2.2.1
    unfold fX6_melts_2
    simp only [e0, if_pos ((i32_le (a := N) (b := k) (by unfold B31; omega) (by unfold B31; omega)).mpr (by omega))]
    rfl
  | m + 1, k, f + 1, c => fun hk hf H => by
    have e0 : put φR c u 0 9 = i32 N := (rR rfl).trans H.1
    have hN := H.2.2.2.2.1
    have hk8 : k < 8 := by omega
    have h1 : ¬ i32 N ≤ i32 k := by rw [i32_le (by unfold B31; omega) (by unfold B31; omega)]; omega
    have ih := okR_melts2 hi m (k + 1) f (melS N t i k c) (by omega) (by omega) (H.of melS_0)
    unfold fX6_melts_2
    simp only [e0, if_neg h1]
    rw [okR_isSunny H (by omega)]
    simp only [Option.bind_some, if_pos (i32_ixB hi (by decide)), i32_nat (n := i) (by unfold B31; omega), rR (fR_sort hi), okR_melt35 hi hk8]
    show _ = some ((), (put φR (up (fun k c => melS N t i k c) m (k + 1) (melS N t i k c)) u, w))
    rw [← ih]
    unfold melS melZ melY
    by_cases y : shy c (plc N t k)
    · simp only [if_pos y]; rfl
    · simp only [if_neg y]; rfl
theorem okR_melts (hi : i < 3) (H : Hd c N t M) : fX6_melts (i32 i) (put φR c u, w) = some ((), (put φR (up (fun k c => melS N t i k c) N 0 c) u, w)) := by
  have hN := H.2.2.2.2.1
  exact okR_melts2 hi N 0 FU c (by omega) (by unfold FU; omega) H
theorem okR_runs2 (hi : i < 3) : ∀ (m k f : Nat) (c : CN), k + m = N → m < f → Hd c N t M → fX6_runsDown_2 f (i32 i) (i32 k) (put φR c u, w) = some ((), (put φR (up (fun k c => runS i k c) m k c) u, w))
  | m, k, 0, c => fun _ h => absurd h (Nat.not_lt_zero _)
  | 0, k, f + 1, c => fun hk _ H => by
    have e0 : put φR c u 0 9 = i32 N := (rR rfl).trans H.1
    have hN := H.2.2.2.2.1
    unfold fX6_runsDown_2
    simp only [e0, if_pos ((i32_le (a := N) (b := k) (by unfold B31; omega) (by unfold B31; omega)).mpr (by omega))]
    rfl
  | m + 1, k, f + 1, c => fun hk hf H => by
    have e0 : put φR c u 0 9 = i32 N := (rR rfl).trans H.1
    have hN := H.2.2.2.2.1
    have hk8 : k < 8 := by omega
    have h1 : ¬ i32 N ≤ i32 k := by rw [i32_le (by unfold B31; omega) (by unfold B31; omega)]; omega
    have ih := okR_runs2 hi m (k + 1) f (runS i k c) (by omega) (by omega) (H.of runS_0)
    have e3 : φR 24 0 = some (0, 3) := rfl
    unfold fX6_runsDown_2
    simp only [e0, if_neg h1, if_pos (i32_ixB hi (by decide)), if_pos (i32_ixB hk8 (by decide)), i32_nat (n := i) (by unfold B31; omega), i32_nat (n := k) (by unfold B31; omega), rR (fR_wet hi hk8), rR e3, i32_succ, sub_sub_self']
    show _ = some ((), (put φR (up (fun k c => runS i k c) m (k + 1) (runS i k c)) u, w))
    rw [← ih]
    unfold runS
    by_cases z : 0 < c 3 (8 * i + k) - c 0 3
    · simp only [if_pos z, if_neg (Int32.not_le.mpr z)]
      by_cases y : i = 0
      · subst y
        simp only [if_pos (show i32 0 = 0 from rfl), wR (fR_wet hi hk8), wR (fR_rim hk8), rR (fR_rim hk8)]
        rfl
      · have y0 : ¬ i32 i = 0 := ne_l (n := 0) (by unfold B31; omega) (by decide) y
        have e8 : i32 i - (1 : Int32) = i32 (i - 1) := i32_sub (b := 1) (by omega)
        have hi' : i - 1 < 3 := by omega
        simp only [if_neg y0, if_neg y, e8, if_pos (i32_ixB hi' (by decide)), i32_nat (n := i - 1) (by unfold B31; omega), wR (fR_wet hi hk8), wR (fR_wet hi' hk8), rR (fR_wet hi' hk8), upd2_same, if_neg (show ¬ 8 * (i - 1) + k = 8 * i + k by omega)]
    · simp only [if_neg z, if_pos (Int32.not_lt.mp z)]
theorem okR_runs (hi : i < 3) (H : Hd c N t M) : fX6_runsDown (i32 i) (put φR c u, w) = some ((), (put φR (up (fun k c => runS i k c) N 0 c) u, w)) := by
  have hN := H.2.2.2.2.1
  exact okR_runs2 hi N 0 FU c (by omega) (by unfold FU; omega) H
/-- behind a second: in truth, the drops -/
def dropS (y : Int32) (was : Int32) (c : CN) : CN := if y = 0 then c else if c 0 8 ≤ was then c else if 20 ≤ c 5 5 then c else upd2 (upd2 c 8 (c 5 5).toNatClampNeg (c 0 7)) 5 5 (c 5 5 + 1)
theorem fall_55 : fall2 k (fall1 k c) 5 5 = c 5 5 := by
  unfold fall2 fall1
  repeat' split
  all_goals rfl
/-- the rim and BRIM are no less than 0 -/
def Rn (c : CN) : Prop := (∀ k : Nat, k < 8 → 0 ≤ (c 4 k).toInt ∧ (c 4 k).toInt ≤ 110) ∧ 0 ≤ (c 0 4).toInt ∧ (c 0 4).toInt ≤ 20
theorem Rn.fall (hk : k < 8) (h : Rn c) : Rn (fall2 k (fall1 k c)) := by
  refine ⟨fun k' hk' => ?_, by rw [fallS_0 (by decide) (by decide)]; exact h.2⟩
  have h1 := h.1 k' hk'
  have e : fall2 k (fall1 k c) 4 = fall1 k c 4 := by unfold fall2; split <;> rfl
  rw [e]
  unfold fall1
  split
  · exact h1
  · rw [upd2_same]
    split
    · have := h.2; omega
    · exact h1
theorem Rn.sub (hk : k < 8) (h : Rn c) : (c 4 k - c 0 4 ≤ 0) ↔ c 4 k ≤ c 0 4 := by
  have h1 := h.1 k hk
  have h2 := h.2
  rw [Int32.le_iff_toInt_le, Int32.le_iff_toInt_le, toInt_sub' (by omega) (by omega)]
  show _ ≤ (0 : Int) ↔ _
  omega
theorem okR_goes187 {y was : Int32} : ∀ (m k f : Nat) (c : CN), k + m = N → m < f → Hd c N t M → (∃ D : Nat, D ≤ 20 ∧ c 5 5 = i32 D) → Rn c → fX6_goes_187 f y was (i32 k) (put φR c u, w) = some ((), (put φR (dropS y was (upd2 (up (fun k c => fall2 k (fall1 k c)) m k c) 0 7 (up (fun k c => fall2 k (fall1 k c)) m k c 0 7 + 1))) u, w))
  | m, k, 0, c => fun _ h => absurd h (Nat.not_lt_zero _)
  | 0, k, f + 1, c => fun hk _ H hD _ => by
    have e0 : put φR c u 0 9 = i32 N := (rR rfl).trans H.1
    have hN := H.2.2.2.2.1
    obtain ⟨D, hD, eD⟩ := hD
    have e18 : φR 0 18 = some (0, 7) := rfl
    have e19 : φR 0 19 = some (0, 8) := rfl
    have e25 : φR 0 25 = some (5, 5) := rfl
    show _ = some ((), (put φR (dropS y was (upd2 c 0 7 (c 0 7 + 1))) u, w))
    unfold fX6_goes_187
    simp only [e0, if_pos ((i32_le (a := N) (b := k) (by unfold B31; omega) (by unfold B31; omega)).mpr (by omega)), rR e18, rR e19, rR e25, wR e18, wR e25]
    unfold dropS
    have q8 : upd2 c 0 7 (c 0 7 + 1) 0 8 = c 0 8 := rfl
    have q5 : upd2 c 0 7 (c 0 7 + 1) 5 5 = c 5 5 := rfl
    have q7 : upd2 c 0 7 (c 0 7 + 1) 0 7 = c 0 7 + 1 := rfl
    simp only [q8, q5, q7]
    by_cases y0 : y = 0
    · simp only [if_pos y0]
    · simp only [if_neg y0]
      by_cases z : c 0 8 ≤ was
      · simp only [if_pos z]
      · simp only [if_neg z, eD]
        by_cases v : (20 : Int32) ≤ i32 D
        · simp only [if_pos v]
        · simp only [if_neg v]
          have hD' : D < 20 := Nat.not_le.mp (fun q => v ((l_le (n := 20) (by unfold B31; omega) (by decide)).mpr q))
          simp only [if_pos (i32_ixB hD' (by decide)), i32_nat (n := D) (by unfold B31; omega), wR (fR_drop hD')]
          rw [upd2_comm (a := 5) (b := 8) (fun z => absurd z.1 (by decide))]
  | m + 1, k, f + 1, c => fun hk hf H hD hR => by
    have e0 : put φR c u 0 9 = i32 N := (rR rfl).trans H.1
    have hN := H.2.2.2.2.1
    have hk8 : k < 8 := by omega
    have h1 : ¬ i32 N ≤ i32 k := by rw [i32_le (by unfold B31; omega) (by unfold B31; omega)]; omega
    have ih := okR_goes187 (y := y) (was := was) m (k + 1) f (fall2 k (fall1 k c)) (by omega) (by omega) ((H.of3 fall1_0).of3 fall2_0) (by rw [fall_55]; exact hD) (hR.fall hk8)
    have e21 : φR 0 21 = some (0, 10) := rfl
    have e19 : φR 0 19 = some (0, 8) := rfl
    have e241 : φR 24 1 = some (0, 4) := rfl
    have key : ∀ d : CN, fX6_goes_240 (fX6_goes_187 f) y was (i32 k) (put φR d u, w) = fX6_goes_187 f y was (i32 (k + 1)) (put φR (fall2 k d) u, w) := by
      intro d
      unfold fX6_goes_240 fall2
      simp only [if_pos (i32_ixB hk8 (by decide)), i32_nat (n := k) (by unfold B31; omega), rR (fR_rim hk8), rR e21, wR e21, i32_succ, Int32.add_zero, upd2_id]
      split <;> rfl
    unfold fX6_goes_187
    simp only [e0, if_neg h1, if_pos (i32_ixB hk8 (by decide)), i32_nat (n := k) (by unfold B31; omega), rR (fR_rim hk8), rR e241, rR e19, wR e19, wR (fR_rim hk8), key, sub_sub_self']
    show _ = some ((), (put φR (dropS y was (upd2 (up (fun k c => fall2 k (fall1 k c)) m (k + 1) (fall2 k (fall1 k c))) 0 7 (up (fun k c => fall2 k (fall1 k c)) m (k + 1) (fall2 k (fall1 k c)) 0 7 + 1))) u, w))
    rw [← ih]
    unfold fall1
    by_cases z : c 4 k ≤ c 0 4
    · simp only [if_pos z, if_pos ((hR.sub hk8).mpr z)]
    · simp only [if_neg z, if_neg (fun q => z ((hR.sub hk8).mp q))]
      rw [upd2_comm (a := 4) (b := 0) (fun z => absurd z.1 (by decide))]
theorem mMelt_5 : mMelt N t M c 5 = c 5 := by
  unfold mMelt
  exact up_inv (P := fun d => d 5 = c 5) (fun i d p => up_inv (P := fun d => d 5 = c 5) (fun k d p => (by unfold melS; rw [upd2_ne (by decide), upd2_ne (by decide)]; exact p)) N 0 d p) M 0 c rfl
theorem runS_5 : runS i k c 5 = c 5 := by
  unfold runS
  repeat' split
  · rw [upd2_ne (by decide), upd2_ne (by decide)]
  · rw [upd2_ne (by decide), upd2_ne (by decide)]
  · rfl
theorem mRun_5 : mRun N M c 5 = c 5 := by
  unfold mRun
  exact dn_invR (n := M) (P := fun d => d 5 = c 5) (fun i d _ p => up_inv (P := fun d => d 5 = c 5) (fun k d p => runS_5.trans p) N 0 d p) M c (Nat.le_refl _) rfl
theorem okR_goes164 {y : Int32} : ∀ (m f : Nat) (c : CN), m ≤ 3 → m < f → Hd c N t M → (∃ D : Nat, D ≤ 20 ∧ c 5 5 = i32 D) → Rn (dn (fun i c => up (fun k c => runS i k c) N 0 c) m c) → fX6_goes_164 f y (i32 m - 1) (put φR c u, w) = some ((), (put φR (dropS y (c 0 8) (upd2 (mFall N (dn (fun i c => up (fun k c => runS i k c) N 0 c) m c)) 0 7 (mFall N (dn (fun i c => up (fun k c => runS i k c) N 0 c) m c) 0 7 + 1))) u, w))
  | m, 0, c => fun _ h => absurd h (Nat.not_lt_zero _)
  | 0, f + 1, c => fun _ _ H hD hR => by
    have hN := H.2.2.2.2.1
    have e19 : put φR c u 0 19 = c 0 8 := rR rfl
    unfold fX6_goes_164
    rw [if_pos (by decide)]
    simp only [e19]
    exact okR_goes187 N 0 FU c (by omega) (by unfold FU; omega) H hD hR
  | m + 1, f + 1, c => fun hm hf H hD hR => by
    have hN := H.2.2.2.2.1
    unfold fX6_goes_164
    rw [i32_pred, if_neg (Int32.not_lt.mpr (i32_nn (by unfold B31; omega))), okR_runs (by omega) H]
    simp only [Option.bind_some, i32_neg1]
    have k0 : up (fun k c => runS m k c) N 0 c 0 = c 0 := up_inv (P := fun d => d 0 = c 0) (fun k d p => runS_0.trans p) N 0 c rfl
    have k5 : up (fun k c => runS m k c) N 0 c 5 = c 5 := up_inv (P := fun d => d 5 = c 5) (fun k d p => runS_5.trans p) N 0 c rfl
    have := okR_goes164 (y := y) m f (up (fun k c => runS m k c) N 0 c) (by omega) (by omega) (H.of k0) (by rw [k5]; exact hD) hR
    rw [k0] at this
    exact this
theorem okR_goes138 {y : Int32} : ∀ (m i f : Nat) (c : CN), i + m = M → m < f → Hd c N t M → (∃ D : Nat, D ≤ 20 ∧ c 5 5 = i32 D) → Rn (mRun N M (up (fun i c => up (fun k c => melS N t i k c) N 0 c) m i c)) → fX6_goes_138 f y (i32 i) (put φR c u, w) = some ((), (put φR (dropS y (c 0 8) (upd2 (mFall N (mRun N M (up (fun i c => up (fun k c => melS N t i k c) N 0 c) m i c))) 0 7 (mFall N (mRun N M (up (fun i c => up (fun k c => melS N t i k c) N 0 c) m i c)) 0 7 + 1))) u, w))
  | m, i, 0, c => fun _ h => absurd h (Nat.not_lt_zero _)
  | 0, i, f + 1, c => fun hk _ H hD hR => by
    have e0 : put φR c u 0 10 = i32 M := (rR rfl).trans H.2.2.1
    have hM := H.2.2.2.2.2.2
    unfold fX6_goes_138
    simp only [e0, if_pos ((i32_le (a := M) (b := i) (by unfold B31; omega) (by unfold B31; omega)).mpr (by omega))]
    exact okR_goes164 M FU c (by omega) (by unfold FU; omega) H hD hR
  | m + 1, i, f + 1, c => fun hk hf H hD hR => by
    have e0 : put φR c u 0 10 = i32 M := (rR rfl).trans H.2.2.1
    have hM := H.2.2.2.2.2.2
    have h1 : ¬ i32 M ≤ i32 i := by rw [i32_le (by unfold B31; omega) (by unfold B31; omega)]; omega
    have k0 : up (fun k c => melS N t i k c) N 0 c 0 = c 0 := up_inv (P := fun d => d 0 = c 0) (fun k d p => melS_0.trans p) N 0 c rfl
    have k5 : up (fun k c => melS N t i k c) N 0 c 5 = c 5 := up_inv (P := fun d => d 5 = c 5) (fun k d p => (by unfold melS; rw [upd2_ne (by decide), upd2_ne (by decide)]; exact p)) N 0 c rfl
    unfold fX6_goes_138
    simp only [e0, if_neg h1]
    rw [okR_melts (by omega) H]
    simp only [Option.bind_some, i32_succ]
    have := okR_goes138 (y := y) m (i + 1) f (up (fun k c => melS N t i k c) N 0 c) (by omega) (by omega) (H.of k0) (by rw [k5]; exact hD) hR
    rw [k0] at this
    exact this
theorem Rn_of {d : CN} (h : GB d (fun _ _ => 20) (fun _ => 110)) : Rn d := ⟨h.2.2.2.1, h.2.2.2.2.2.1⟩
theorem okR_tail {y : Int32} (H : Hd c N t M) (h : G20 c) (hD : ∃ D : Nat, D ≤ 20 ∧ c 5 5 = i32 D) : fX6_goes_138 FU y (0 : Int32) (put φR c u, w) = some ((), (put φR (dropS y (c 0 8) (upd2 (mTick N t M c) 0 7 (mTick N t M c 0 7 + 1))) u, w)) := by
  have hN := H.2.2.2.2.1
  have hM := H.2.2.2.2.2.2
  exact okR_goes138 M 0 FU c (by omega) (by unfold FU; omega) H hD (Rn_of (mRun_GB hN hM (mMelt_GB hN hM h)))
theorem newT_5 (h : t < N) : (t + 1) % N = newT N t 5 := by
  unfold newT
  rw [if_pos rfl]
  split
  · exact Nat.mod_eq_of_lt (by omega)
  · rw [show t + 1 = N by omega, Nat.mod_self]
theorem newT_6 (h : t < N) : (t + (N - 1)) % N = newT N t 6 := by
  unfold newT
  rw [if_neg (by decide), if_pos rfl]
  split
  · rw [show t + (N - 1) = (t - 1) + N by omega, Nat.add_mod_right, Nat.mod_eq_of_lt (by omega)]
  · rw [show t = 0 by omega, Nat.zero_add, Nat.mod_eq_of_lt (by omega)]
theorem okR_licked {v : Int32} (h : put φR c u 24 2 = c 0 5) : fX6_lickedOf v (put φR c u, w) = some (mn v (c 0 5), (put φR c u, w)) := by
  unfold fX6_lickedOf fX6_lickedOf_0 mn
  simp only [h]
  rw [← mnle2]
  split <;> rfl
theorem mAct_5 {N t a : Nat} : mAct N t a c 5 = c 5 ∧ mAct N t a c 0 8 = c 0 8 := by
  unfold mAct eatS eatR
  repeat' split
  all_goals exact ⟨rfl, rfl⟩
theorem okR_goes {y : Int32} (H : Hd c N t M) (ha : canA M a) (h : G20 c) (hD : ∃ D : Nat, D ≤ 20 ∧ c 5 5 = i32 D) : fX6_goes (i32 a) y (put φR c u, w) = some ((), (put φR (dropS y (c 0 8) (mPass N t M a c)) u, w)) := by
  have hN := H.2.2.2.2.1
  have hM := H.2.2.2.2.2.2
  have ht := H.2.2.2.2.2.1
  have ht8 : t < 8 := by omega
  have ha6 := ha.1
  have e0 : put φR c u 0 9 = i32 N := (rR rfl).trans H.1
  have e1 : put φR c u 0 15 = i32 t := (rR rfl).trans H.2.1
  have e15 : φR 0 15 = some (0, 1) := rfl
  have e20 : φR 0 20 = some (0, 9) := rfl
  have e24 : put φR c u 24 2 = c 0 5 := rR rfl
  have n0 : ¬ i32 N = 0 := ne_l (n := 0) (by unfold B31; omega) (by decide) (by omega)
  have G1 : G20 (mAct N t a c) := by
    -- the bound of numbers is of no matter here
    have := H
    exact mAct_G20' ha hM ht8 h
  have fin := okR_tail (u := u) (w := w) (y := y) (mAct_Hd (a := a) H) G1 (by rw [mAct_5.1]; exact hD)
  rw [mAct_5.2] at fin
  unfold fX6_goes fX6_goes_0 mPass
  rw [← fin]
  by_cases h4 : a = 4
  · subst h4
    simp only [if_pos (show i32 4 = 4 from rfl), e1, if_pos (i32_ixB ht8 (by decide)), i32_nat (n := t) (by unfold B31; omega), rR (fR_rim ht8), okR_licked e24, Option.bind_some, wR (fR_rim ht8), rR e20, wR e20]
    rfl
  · rw [if_neg (ne_l (n := 4) (by unfold B31; omega) (by decide) h4)]
    by_cases h0 : a = 0
    · subst h0
      rw [if_pos (by decide)]
      unfold fX6_goes_102
      rw [if_pos (by decide)]
      rfl
    · rw [if_neg (fun z => h0 (by have := (le_l (n := 0) (by unfold B31; omega) (by decide)).mp z; omega))]
      by_cases h5 : 4 ≤ a
      · rw [if_pos ((l_le (n := 4) (by unfold B31; omega) (by decide)).mpr h5)]
        unfold fX6_goes_102 fX6_goes_127
        rw [if_neg (fun z => absurd ((le_l (n := 4) (by unfold B31; omega) (by decide)).mp z) (by omega))]
        have em : mAct N t a c = upd2 c 0 1 (i32 (newT N t a)) := by
          unfold mAct
          rw [if_neg h0, if_neg (by omega), if_neg h4]
        rw [em]
        by_cases h6 : a = 5
        · subst h6
          have e3 : i32 t + (1 : Int32) = i32 (t + 1) := i32_succ t
          simp only [if_pos (show i32 5 = 5 from rfl), e0, e1, if_pos n0, e3, i32_rem (a := t + 1) (b := N) (by unfold B31; omega) (by unfold B31; omega) (by omega), newT_5 ht, wR e15]
        · have h66 : a = 6 := by omega
          subst h66
          have e3 : i32 N - (1 : Int32) = i32 (N - 1) := i32_sub (b := 1) (by omega)
          simp only [if_neg (show ¬ i32 6 = 5 by decide), e0, e1, if_pos n0, e3, i32_add, i32_rem (a := t + (N - 1)) (b := N) (by unfold B31; omega) (by unfold B31; omega) (by omega), newT_6 ht, wR e15]
      · rw [if_neg (fun z => h5 ((l_le (n := 4) (by unfold B31; omega) (by decide)).mp z))]
        have hi : a - 1 < 3 := by omega
        have e3 : i32 a - (1 : Int32) = i32 (a - 1) := i32_sub (b := 1) (by omega)
        have em : mAct N t a c = eatS (a - 1) t c := by
          unfold mAct
          rw [if_neg h0, if_pos (by omega)]
        rw [em]
        simp only [e3, e1, if_pos (i32_ixB hi (by decide)), if_pos (i32_ixB ht8 (by decide)), i32_nat (n := a - 1) (by unfold B31; omega), i32_nat (n := t) (by unfold B31; omega), rR (fR_wet hi ht8), okR_licked e24, Option.bind_some, wR (fR_wet hi ht8), rR e20, wR e20]
        rfl
end REF
