/-! PURE MATHEMATICS, 2: the cone's model; the class's cone comes to it. -/
def Hd (c : CN) (N t M : Nat) : Prop := c 0 0 = i32 N ∧ c 0 1 = i32 t ∧ c 0 11 = i32 M ∧ 3 ≤ N ∧ N ≤ 8 ∧ t < N ∧ M ≤ 3
/-- bounds of a cone's cells -/
def Bd (c : CN) : Prop := (∀ i : Nat, i < 3 → 0 ≤ (c 1 i).toInt ∧ (c 1 i).toInt ≤ 9) ∧ (∀ i : Nat, i < 3 → 0 ≤ (c 2 i).toInt ∧ (c 2 i).toInt ≤ 99) ∧ (∀ j : Nat, j < 24 → 0 ≤ (c 3 j).toInt ∧ (c 3 j).toInt ≤ 20) ∧ (∀ j : Nat, j < 8 → 0 ≤ (c 4 j).toInt ∧ (c 4 j).toInt ≤ 20) ∧
  (0 ≤ (c 0 3).toInt ∧ (c 0 3).toInt ≤ 20) ∧ (0 ≤ (c 0 4).toInt ∧ (c 0 4).toInt ≤ 20) ∧ (1 ≤ (c 0 5).toInt ∧ (c 0 5).toInt ≤ 20) ∧ (1 ≤ (c 0 6).toInt ∧ (c 0 6).toInt ≤ 999)
def plc (N t k : Nat) : Nat := if t ≤ k then k - t else k + N - t
abbrev shy (c : CN) (p : Nat) : Prop := ((c 0 2 >>> (i32 p &&& 31)) &&& (1 : Int32)) = 0
def melY (c : CN) (N t i k : Nat) : Int32 := if shy c (plc N t k) then c 1 i / 2 else c 1 i
def melZ (c : CN) (N t i k : Nat) : Int32 := mn (c 2 i) (melY c N t i k)
def melS (N t i k : Nat) (c : CN) : CN := upd2 (upd2 c 2 i (c 2 i - melZ c N t i k)) 3 (8 * i + k) (c 3 (8 * i + k) + melZ c N t i k)
def mMelt (N t M : Nat) (c : CN) : CN := up (fun i c => up (fun k c => melS N t i k c) N 0 c) M 0 c
/-- from the highest down -/
def dn (f : Nat → CN → CN) : Nat → CN → CN
  | 0, c => c
  | m + 1, c => dn f m (f m c)
def runS (i k : Nat) (c : CN) : CN := if 0 < c 3 (8 * i + k) - c 0 3 then (if i = 0 then upd2 (upd2 c 3 (8 * i + k) (c 0 3)) 4 k (c 4 k + (c 3 (8 * i + k) - c 0 3)) else upd2 (upd2 c 3 (8 * i + k) (c 0 3)) 3 (8 * (i - 1) + k) (c 3 (8 * (i - 1) + k) + (c 3 (8 * i + k) - c 0 3))) else c
def mRun (N M : Nat) (c : CN) : CN := dn (fun i c => up (fun k c => runS i k c) N 0 c) M c
def fall1 (k : Nat) (c : CN) : CN := if c 4 k ≤ c 0 4 then c else upd2 (upd2 c 0 8 (c 0 8 + (c 4 k - c 0 4))) 4 k (c 0 4)
def fall2 (k : Nat) (c : CN) : CN := if c 4 k ≤ 0 then c else upd2 c 0 10 (c 0 10 + 1)
def mFall (N : Nat) (c : CN) : CN := up (fun k c => fall2 k (fall1 k c)) N 0 c
def eatR (t : Nat) (c : CN) : CN := upd2 (upd2 c 4 t (c 4 t - mn (c 4 t) (c 0 5))) 0 9 (c 0 9 + mn (c 4 t) (c 0 5))
def eatS (i t : Nat) (c : CN) : CN := upd2 (upd2 c 3 (8 * i + t) (c 3 (8 * i + t) - mn (c 3 (8 * i + t)) (c 0 5))) 0 9 (c 0 9 + mn (c 3 (8 * i + t)) (c 0 5))
def newT (N t a : Nat) : Nat := if a = 5 then (if t + 1 < N then t + 1 else 0) else if a = 6 then (if 0 < t then t - 1 else N - 1) else t
def mAct (N t a : Nat) (c : CN) : CN := if a = 0 then c else if a < 4 then eatS (a - 1) t c else if a = 4 then eatR t c else upd2 c 0 1 (i32 (newT N t a))
def mTick (N t M : Nat) (c : CN) : CN := mFall N (mRun N M (mMelt N t M c))
def mPass (N t M a : Nat) (c : CN) : CN := upd2 (mTick N (newT N t a) M (mAct N t a c)) 0 7 (mTick N (newT N t a) M (mAct N t a c) 0 7 + 1)
def canA (M a : Nat) : Prop := a ≤ 6 ∧ (1 ≤ a → a < 4 → a ≤ M)
theorem newT_lt {N t a : Nat} (h : t < N) : newT N t a < N := by unfold newT; grind
theorem i32_nn {n : Nat} (h : B31 n) : (0 : Int32) ≤ i32 n := (i32_le (a := 0) (by decide) h).mpr (Nat.zero_le n)
section CONE
variable {c u : CN} {w : Nat → Nat → Int64} {N t M i k : Nat} {x : Int32}
theorem rC {k j : Nat} (h : j < szC k) : put φC c u k j = c k j := put_at (by unfold φC; rw [if_pos h])
theorem wC {k j : Nat} (h : j < szC k) : wrI (put φC c u, w) k j x = (put φC (upd2 c k j x) u, w) := wrI_put φC_ok (by unfold φC; rw [if_pos h])
theorem ix8 {i k : Nat} : i32 i * (8 : Int32) + i32 k = i32 (8 * i + k) := by
  rw [show (8 : Int32) = i32 8 from rfl, i32_mul, i32_add, Nat.mul_comm]
theorem okC_wetAt (hi : i < 3) (hk : k < 8) : fX0_wetAt (i32 i) (i32 k) (put φC c u, w) = some (c 3 (8 * i + k), (put φC c u, w)) := by
  have h24 : 8 * i + k < 24 := by omega
  unfold fX0_wetAt fX0_wetAt_0
  rw [ix8, if_pos (i32_ixB h24 (by decide)), i32_nat (by unfold B31; omega)]
  exact congrArg some (Prod.ext (rC h24) rfl)
theorem okC_isSunny (H : Hd c N t M) (hk : k < N) : fX0_isSunny (i32 k) (put φC c u, w) = some (if shy c (plc N t k) then 0 else 1, (put φC c u, w)) := by
  obtain ⟨h0, h1, h2, h3, h4, h5, h6⟩ := H
  have e0 : put φC c u 0 0 = i32 N := (rC (by decide)).trans h0
  have e1 : put φC c u 0 1 = i32 t := (rC (by decide)).trans h1
  have e2 : put φC c u 0 2 = c 0 2 := rC (by decide)
  have key : ∀ p : Nat, fX0_isSunny_18 (i32 p) (put φC c u, w) = some (if shy c p then 0 else 1, (put φC c u, w)) := by
    intro p
    unfold fX0_isSunny_18 shy
    simp only [e2]
    split <;> rfl
  unfold fX0_isSunny fX0_isSunny_0
  simp only [e0, e1]
  unfold plc
  by_cases z : t ≤ k
  · simp only [i32_sub z, if_pos z, if_pos (i32_nn (n := k - t) (by unfold B31; omega))]
    exact key _
  · rw [if_neg z, if_neg ?_]
    · have e : i32 k - i32 t + i32 N = i32 (k + N - t) := by
        rw [← i32_sub (a := k + N) (b := t) (by omega), ← i32_add, Int32.sub_eq_add_neg, Int32.sub_eq_add_neg, Int32.add_assoc, Int32.add_assoc, Int32.add_comm (-i32 t)]
      rw [e]
      exact key _
    · rw [Int32.le_iff_toInt_le, toInt_sub' (by rw [i32_toInt (by unfold B31; omega), i32_toInt (by unfold B31; omega)]; omega) (by rw [i32_toInt (by unfold B31; omega), i32_toInt (by unfold B31; omega)]; omega), i32_toInt (by unfold B31; omega), i32_toInt (by unfold B31; omega)]
      show ¬ ((0 : Int) ≤ _)
      omega
theorem half_nn {x : Int32} (h : 0 ≤ x) : 0 ≤ x / 2 ∧ x / 2 ≤ x := by
  have e : (x / 2).toInt = x.toInt.tdiv 2 := Int32.toInt_div_of_ne_right x 2 (by decide)
  rw [Int32.le_iff_toInt_le, Int32.le_iff_toInt_le, e]
  rw [Int32.le_iff_toInt_le] at h
  have z : (0 : Int32).toInt = 0 := rfl
  rw [z] at h ⊢
  rw [Int.tdiv_eq_ediv_of_nonneg h]
  omega
theorem Hd.of {c d : CN} {N t M : Nat} (H : Hd c N t M) (e : d 0 = c 0) : Hd d N t M := by
  unfold Hd at H ⊢
  rw [e]; exact H
theorem melS_0 {t : Nat} : melS N t i k c 0 = c 0 := by unfold melS; rw [upd2_ne (by decide), upd2_ne (by decide)]
theorem melS_1 {t : Nat} : melS N t i k c 1 = c 1 := by unfold melS; rw [upd2_ne (by decide), upd2_ne (by decide)]
theorem melS_2 {t : Nat} : melS N t i k c 2 = fun j => if j = i then c 2 i - melZ c N t i k else c 2 j := by
  funext j; unfold melS; rw [upd2_ne (by decide), upd2_same]
theorem melY_nn {t : Nat} (h : 0 ≤ c 1 i) : 0 ≤ melY c N t i k ∧ melY c N t i k ≤ c 1 i := by
  unfold melY
  split
  · exact half_nn h
  · exact ⟨h, Int32.le_refl _⟩
theorem mn_nn {a y : Int32} (ha : 0 ≤ a) (hy : 0 ≤ y) : 0 ≤ mn a y ∧ mn a y ≤ a ∧ mn a y ≤ y := by
  unfold mn
  split <;> grind
theorem melS_nn {t : Nat} (hs : 0 ≤ c 1 i) (ha : 0 ≤ c 2 i) : 0 ≤ melS N t i k c 2 i := by
  rw [melS_2]
  dsimp only
  rw [if_pos rfl]
  have := mn_nn ha (melY_nn (N := N) (t := t) (k := k) hs).1
  unfold melZ
  grind
theorem melS_id {t : Nat} (hs : 0 ≤ c 1 i) (ha : c 2 i = 0) : melS N t i k c = c := by
  have h0 : melZ c N t i k = 0 := by
    have := mn_nn (a := c 2 i) (by rw [ha]; decide) (melY_nn (N := N) (t := t) (k := k) hs).1
    unfold melZ
    rw [ha] at this ⊢
    exact Int32.le_antisymm this.2.1 this.1
  unfold melS
  rw [h0, Int32.sub_zero, Int32.add_zero, upd2_id, upd2_id]
theorem up_id {f : Nat → CN → CN} (h : ∀ k : Nat, f k c = c) : ∀ m k : Nat, up f m k c = c
  | 0, _ => rfl
  | m + 1, k => by
    show up f m (k + 1) (f k c) = c
    rw [h k, up_id h m (k + 1)]
theorem okC_melt56 {r2 : Int32 → SS → Option (Unit × SS)} {r21 : Int32 → Int32 → Int32 → SS → Option (Unit × SS)} {x2 y : Int32} (hi : i < 3) (hk : k < 8) : fX0_melt_56 r2 r21 (i32 i) x2 (i32 k) y (put φC c u, w) = r21 (i32 i) x2 (i32 (k + 1)) (put φC (upd2 (upd2 c 2 i (c 2 i - mn (c 2 i) y)) 3 (8 * i + k) (c 3 (8 * i + k) + mn (c 2 i) y)) u, w) := by
  have h24 : 8 * i + k < 24 := by omega
  unfold fX0_melt_56 mn
  simp only [ix8, if_pos (i32_ixB hi (by decide)), if_pos (i32_ixB h24 (by decide)), i32_nat (n := i) (by unfold B31; omega), i32_nat (n := 8 * i + k) (by unfold B31; omega), i32_succ, rC (k := 2) (j := i) hi, rC (k := 3) h24, wC (k := 2) (j := i) hi, wC (k := 3) h24]
theorem okC_melt21 {r2 : Int32 → SS → Option (Unit × SS)} {t : Nat} (hi : i < 3) : ∀ (m k f : Nat) (c : CN), k + m = N → m < f → Hd c N t M → 0 ≤ c 1 i → 0 ≤ c 2 i → fX0_melt_21 r2 f (i32 i) (c 1 i / 2) (i32 k) (put φC c u, w) = r2 (i32 (i + 1)) (put φC (up (fun k c => melS N t i k c) m k c) u, w)
  | m, k, 0, c => fun _ h => absurd h (Nat.not_lt_zero _)
  | 0, k, f + 1, c => fun hk _ H hs ha => by
    have e0 : put φC c u 0 0 = i32 N := (rC (by decide)).trans H.1
    have hN := H.2.2.2.2.1
    have h1 : i32 N ≤ i32 k := (i32_le (by unfold B31; omega) (by unfold B31; omega)).mpr (by omega)
    unfold fX0_melt_21
    simp only [e0, if_pos h1, i32_succ]
    rfl
  | m + 1, k, f + 1, c => fun hk hf H hs ha => by
    have e0 : put φC c u 0 0 = i32 N := (rC (by decide)).trans H.1
    have hN := H.2.2.2.2.1
    have hk8 : k < 8 := by omega
    have h1 : ¬ i32 N ≤ i32 k := by rw [i32_le (by unfold B31; omega) (by unfold B31; omega)]; omega
    have ih := okC_melt21 (r2 := r2) (t := t) hi m (k + 1) f (melS N t i k c) (by omega) (by omega) (H.of melS_0) (by rw [melS_1]; exact hs) (melS_nn hs ha)
    rw [melS_1] at ih
    unfold fX0_melt_21
    simp only [e0, if_neg h1, if_pos (i32_ixB hi (by decide)), i32_nat (n := i) (by unfold B31; omega), rC (k := 2) (j := i) hi]
    by_cases z : c 2 i ≤ 0
    · rw [if_pos z, i32_succ]
      have : c 2 i = 0 := Int32.le_antisymm z ha
      rw [up_id (fun k => melS_id hs this)]
    · rw [if_neg z, okC_isSunny H (by omega)]
      simp only [Option.bind_some]
      show _ = r2 (i32 (i + 1)) (put φC (up (fun k c => melS N t i k c) m (k + 1) (melS N t i k c)) u, w)
      rw [← ih]
      by_cases y : shy c (plc N t k)
      · simp only [if_pos y, okC_melt56 hi hk8]
        unfold melS melZ melY
        rw [if_pos y]
        rfl
      · simp only [if_neg y, okC_melt56 hi hk8, rC (k := 1) (j := i) hi]
        unfold melS melZ melY
        rw [if_neg y]
        rfl
end CONE
