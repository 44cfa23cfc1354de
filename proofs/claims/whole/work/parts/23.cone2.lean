/-! PURE MATHEMATICS, 3: the class's second. -/
theorem up_inv {P : CN → Prop} {f : Nat → CN → CN} (h : ∀ (k : Nat) (c : CN), P c → P (f k c)) : ∀ (m k : Nat) (c : CN), P c → P (up f m k c)
  | 0, _, _, p => p
  | m + 1, k, c, p => up_inv h m (k + 1) (f k c) (h k c p)
theorem up_invR {P : CN → Prop} {f : Nat → CN → CN} {n : Nat} (h : ∀ (k : Nat) (c : CN), k < n → P c → P (f k c)) : ∀ (m k : Nat) (c : CN), k + m ≤ n → P c → P (up f m k c)
  | 0, _, _, _, p => p
  | m + 1, k, c, e, p => up_invR h m (k + 1) (f k c) (by omega) (h k c (by omega) p)
theorem dn_invR {P : CN → Prop} {f : Nat → CN → CN} {n : Nat} (h : ∀ (k : Nat) (c : CN), k < n → P c → P (f k c)) : ∀ (m : Nat) (c : CN), m ≤ n → P c → P (dn f m c)
  | 0, _, _, p => p
  | m + 1, c, e, p => dn_invR h m (f m c) (by omega) (h m c (by omega) p)
theorem i32_neg1 {m : Nat} : i32 m + (-1 : Int32) = i32 m - 1 := (Int32.sub_eq_add_neg _ _).symm
theorem i32_pred {m : Nat} : i32 (m + 1) - (1 : Int32) = i32 m := by
  rw [show (1 : Int32) = i32 1 from rfl, i32_sub (by omega)]; rfl
theorem i32_eq {a b : Nat} (ha : B31 a) (hb : B31 b) (h : a ≠ b) : ¬ i32 a = i32 b := fun e => h ((i32_inj ha hb).mp e)
/-- the scoops' sorts and amounts are no less than 0 -/
def Nn (c : CN) : Prop := (∀ i : Nat, i < 3 → 0 ≤ c 1 i) ∧ ∀ i : Nat, i < 3 → 0 ≤ c 2 i
theorem melS_Nn {c : CN} {N t i k : Nat} (hi : i < 3) (h : Nn c) : Nn (melS N t i k c) := by
  refine ⟨fun j hj => by rw [melS_1]; exact h.1 j hj, fun j hj => ?_⟩
  by_cases z : j = i
  · rw [z]; exact melS_nn (h.1 i hi) (h.2 i hi)
  · rw [melS_2]; dsimp only; rw [if_neg z]; exact h.2 j hj
theorem Bd.Nn {c : CN} (h : Bd c) : Nn c := ⟨fun i hi => Int32.le_iff_toInt_le.mpr (h.1 i hi).1, fun i hi => Int32.le_iff_toInt_le.mpr (h.2.1 i hi).1⟩
section CONE
variable {c u : CN} {w : Nat → Nat → Int64} {N t M i k : Nat} {x : Int32}
theorem okC_melt2 : ∀ (m i f : Nat) (c : CN), i + m = M → m < f → Hd c N t M → Nn c → fX0_melt_2 f (i32 i) (put φC c u, w) = some ((), (put φC (up (fun i c => up (fun k c => melS N t i k c) N 0 c) m i c) u, w))
  | m, i, 0, c => fun _ h => absurd h (Nat.not_lt_zero _)
  | 0, i, f + 1, c => fun hk _ H hs => by
    have e0 : put φC c u 0 11 = i32 M := (rC (by decide)).trans H.2.2.1
    have hM := H.2.2.2.2.2.2
    unfold fX0_melt_2
    simp only [e0, if_pos ((i32_le (a := M) (b := i) (by unfold B31; omega) (by unfold B31; omega)).mpr (by omega))]
    rfl
  | m + 1, i, f + 1, c => fun hk hf H hs => by
    have e0 : put φC c u 0 11 = i32 M := (rC (by decide)).trans H.2.2.1
    have hM := H.2.2.2.2.2.2
    have hN := H.2.2.2.2.1
    have hi : i < 3 := by omega
    have h1 : ¬ i32 M ≤ i32 i := by rw [i32_le (by unfold B31; omega) (by unfold B31; omega)]; omega
    have hp : Nn (up (fun k c => melS N t i k c) N 0 c) ∧ up (fun k c => melS N t i k c) N 0 c 0 = c 0 := up_inv (P := fun d => Nn d ∧ d 0 = c 0) (fun k d p => ⟨melS_Nn hi p.1, melS_0.trans p.2⟩) N 0 c ⟨hs, rfl⟩
    unfold fX0_melt_2
    simp only [e0, if_neg h1, if_pos (i32_ixB hi (by decide)), i32_nat (n := i) (by unfold B31; omega), rC (k := 1) (j := i) hi]
    refine (okC_melt21 (M := M) (t := t) (N := N) hi N 0 FU c (by omega) (by unfold FU; omega) H (hs.1 i hi) (hs.2 i hi)).trans ?_
    exact okC_melt2 m (i + 1) f _ (by omega) (by omega) (H.of hp.2) hp.1
theorem okC_melt (H : Hd c N t M) (hs : Nn c) : fX0_melt (put φC c u, w) = some ((), (put φC (mMelt N t M c) u, w)) := by
  have hM := H.2.2.2.2.2.2
  exact okC_melt2 M 0 FU c (by omega) (by unfold FU; omega) H hs
theorem runS_0 : runS i k c 0 = c 0 := by
  unfold runS
  repeat' split
  · rw [upd2_ne (by decide), upd2_ne (by decide)]
  · rw [upd2_ne (by decide), upd2_ne (by decide)]
  · rfl
theorem okC_run13 {r7 : Int32 → SS → Option (Unit × SS)} (hi : i < 3) : ∀ (m k f : Nat) (c : CN), k + m = N → m < f → Hd c N t M → fX0_runDown_13 r7 f (i32 i) (i32 k) (put φC c u, w) = r7 (i32 i - 1) (put φC (up (fun k c => runS i k c) m k c) u, w)
  | m, k, 0, c => fun _ h => absurd h (Nat.not_lt_zero _)
  | 0, k, f + 1, c => fun hk _ H => by
    have e0 : put φC c u 0 0 = i32 N := (rC (by decide)).trans H.1
    have hN := H.2.2.2.2.1
    unfold fX0_runDown_13
    simp only [e0, if_pos ((i32_le (a := N) (b := k) (by unfold B31; omega) (by unfold B31; omega)).mpr (by omega)), i32_neg1]
    rfl
  | m + 1, k, f + 1, c => fun hk hf H => by
    have e0 : put φC c u 0 0 = i32 N := (rC (by decide)).trans H.1
    have hN := H.2.2.2.2.1
    have hk8 : k < 8 := by omega
    have h24 : 8 * i + k < 24 := by omega
    have h1 : ¬ i32 N ≤ i32 k := by rw [i32_le (by unfold B31; omega) (by unfold B31; omega)]; omega
    have ih := okC_run13 (r7 := r7) hi m (k + 1) f (runS i k c) (by omega) (by omega) (H.of runS_0)
    unfold fX0_runDown_13
    simp only [e0, if_neg h1, ix8, if_pos (i32_ixB h24 (by decide)), i32_nat (n := 8 * i + k) (by unfold B31; omega), rC (k := 3) h24, rC (k := 0) (j := 3) (show 3 < szC 0 by decide), i32_succ]
    show _ = r7 (i32 i - 1) (put φC (up (fun k c => runS i k c) m (k + 1) (runS i k c)) u, w)
    rw [← ih]
    unfold runS
    by_cases z : 0 < c 3 (8 * i + k) - c 0 3
    · simp only [if_pos z]
      by_cases y : i = 0
      · subst y
        simp only [if_pos (show i32 0 = 0 from rfl), if_pos (i32_ixB hk8 (by decide)), i32_nat (n := k) (by unfold B31; omega), rC (k := 4) (j := k) hk8, wC (k := 3) h24, wC (k := 4) (j := k) hk8]
        rfl
      · have y0 : ¬ i32 i = 0 := i32_eq (b := 0) (by unfold B31; omega) (by decide) y
        have e8 : i32 (8 * i + k) - (8 : Int32) = i32 (8 * (i - 1) + k) := by
          rw [show (8 : Int32) = i32 8 from rfl, i32_sub (by omega)]
          exact congrArg i32 (by omega)
        have h24' : 8 * (i - 1) + k < 24 := by omega
        simp only [if_neg y0, if_neg y, e8, if_pos (i32_ixB h24' (by decide)), i32_nat (n := 8 * (i - 1) + k) (by unfold B31; omega), wC (k := 3) h24, wC (k := 3) h24', rC (k := 3) h24', upd2_same, if_neg (show ¬ 8 * (i - 1) + k = 8 * i + k by omega)]
    · simp only [if_neg z]
theorem okC_run7 : ∀ (m f : Nat) (c : CN), m ≤ 3 → m < f → Hd c N t M → fX0_runDown_7 f (i32 m - 1) (put φC c u, w) = some ((), (put φC (dn (fun i c => up (fun k c => runS i k c) N 0 c) m c) u, w))
  | m, 0, c => fun _ h => absurd h (Nat.not_lt_zero _)
  | 0, f + 1, c => fun _ _ H => by
    unfold fX0_runDown_7
    rw [if_pos (by decide)]
    rfl
  | m + 1, f + 1, c => fun hm hf H => by
    have hN := H.2.2.2.2.1
    unfold fX0_runDown_7
    rw [i32_pred, if_neg (Int32.not_lt.mpr (i32_nn (by unfold B31; omega)))]
    refine (okC_run13 (M := M) (t := t) (N := N) (i := m) (by omega) N 0 FU c (by omega) (by unfold FU; omega) H).trans ?_
    exact okC_run7 m f _ (by omega) (by omega) (H.of (up_inv (P := fun d => d 0 = c 0) (fun k d p => runS_0.trans p) N 0 c rfl))
theorem okC_run (H : Hd c N t M) : fX0_runDown (put φC c u, w) = some ((), (put φC (mRun N M c) u, w)) := by
  have hM := H.2.2.2.2.2.2
  have e0 : put φC c u 0 11 = i32 M := (rC (by decide)).trans H.2.2.1
  unfold fX0_runDown fX0_runDown_0
  simp only [e0]
  exact okC_run7 M FU c (by omega) (by unfold FU; omega) H
theorem fall1_0 : fall1 k c 0 0 = c 0 0 ∧ fall1 k c 0 1 = c 0 1 ∧ fall1 k c 0 11 = c 0 11 := by
  unfold fall1
  split
  · exact ⟨rfl, rfl, rfl⟩
  · rw [upd2_ne (by decide)]; exact ⟨rfl, rfl, rfl⟩
theorem fall2_0 : fall2 k c 0 0 = c 0 0 ∧ fall2 k c 0 1 = c 0 1 ∧ fall2 k c 0 11 = c 0 11 := by
  unfold fall2
  split <;> exact ⟨rfl, rfl, rfl⟩
theorem Hd.of3 {c d : CN} {N t M : Nat} (H : Hd c N t M) (e : d 0 0 = c 0 0 ∧ d 0 1 = c 0 1 ∧ d 0 11 = c 0 11) : Hd d N t M := by
  unfold Hd at H ⊢
  rw [e.1, e.2.1, e.2.2]; exact H
theorem okC_fall2 : ∀ (m k f : Nat) (c : CN), k + m = N → m < f → Hd c N t M → fX0_fallOff_2 f (i32 k) (put φC c u, w) = some ((), (put φC (up (fun k c => fall2 k (fall1 k c)) m k c) u, w))
  | m, k, 0, c => fun _ h => absurd h (Nat.not_lt_zero _)
  | 0, k, f + 1, c => fun hk _ H => by
    have e0 : put φC c u 0 0 = i32 N := (rC (by decide)).trans H.1
    have hN := H.2.2.2.2.1
    unfold fX0_fallOff_2
    simp only [e0, if_pos ((i32_le (a := N) (b := k) (by unfold B31; omega) (by unfold B31; omega)).mpr (by omega))]
    rfl
  | m + 1, k, f + 1, c => fun hk hf H => by
    have e0 : put φC c u 0 0 = i32 N := (rC (by decide)).trans H.1
    have hN := H.2.2.2.2.1
    have hk8 : k < 8 := by omega
    have h1 : ¬ i32 N ≤ i32 k := by rw [i32_le (by unfold B31; omega) (by unfold B31; omega)]; omega
    have ih := okC_fall2 m (k + 1) f (fall2 k (fall1 k c)) (by omega) (by omega) ((H.of3 fall1_0).of3 fall2_0)
    have key : ∀ d : CN, fX0_fallOff_53 (fX0_fallOff_2 f) (i32 k) (put φC d u, w) = fX0_fallOff_2 f (i32 (k + 1)) (put φC (fall2 k d) u, w) := by
      intro d
      unfold fX0_fallOff_53 fall2
      simp only [if_pos (i32_ixB hk8 (by decide)), i32_nat (n := k) (by unfold B31; omega), rC (k := 4) (j := k) hk8, rC (k := 0) (j := 10) (show 10 < szC 0 by decide), wC (k := 0) (j := 10) (show 10 < szC 0 by decide), i32_succ]
      split <;> rfl
    unfold fX0_fallOff_2
    simp only [e0, if_neg h1, if_pos (i32_ixB hk8 (by decide)), i32_nat (n := k) (by unfold B31; omega), rC (k := 4) (j := k) hk8, rC (k := 0) (j := 4) (show 4 < szC 0 by decide), rC (k := 0) (j := 8) (show 8 < szC 0 by decide), wC (k := 0) (j := 8) (show 8 < szC 0 by decide), wC (k := 4) (j := k) hk8, key]
    show _ = some ((), (put φC (up (fun k c => fall2 k (fall1 k c)) m (k + 1) (fall2 k (fall1 k c))) u, w))
    rw [← ih]
    unfold fall1
    split <;> rfl
theorem okC_fall (H : Hd c N t M) : fX0_fallOff (put φC c u, w) = some ((), (put φC (mFall N c) u, w)) := by
  have hN := H.2.2.2.2.1
  exact okC_fall2 N 0 FU c (by omega) (by unfold FU; omega) H
end CONE
