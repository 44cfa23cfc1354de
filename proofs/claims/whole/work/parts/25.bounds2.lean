/-! PURE MATHEMATICS, 6: the rim; a second keeps the bounds. -/
section STEPS
variable {c : CN} {N t M i k a : Nat} {Bw : Nat → Nat → Int} {Br : Nat → Int} {L : Int}
/-- what is above BRIM -/
def ob (c : CN) (k : Nat) : Int := if (c 0 4).toInt < (c 4 k).toInt then (c 4 k).toInt - (c 0 4).toInt else 0
theorem fall1_if : (c 4 k ≤ c 0 4) ↔ (c 4 k).toInt ≤ (c 0 4).toInt := Int32.le_iff_toInt_le
theorem fallS_123 : (fall2 k (fall1 k c) 1 = c 1) ∧ (fall2 k (fall1 k c) 2 = c 2) ∧ (fall2 k (fall1 k c) 3 = c 3) := by
  unfold fall2 fall1
  repeat' split
  all_goals exact ⟨rfl, rfl, rfl⟩
theorem fallS_0 {j : Nat} (h8 : j ≠ 8) (h10 : j ≠ 10) : fall2 k (fall1 k c) 0 j = c 0 j := by
  unfold fall2 fall1
  repeat' split
  all_goals simp [upd2_same, upd2_ne, h8, h10]
theorem fallS_rim (hk : k < 8) (h : GB c Bw Br) (k' : Nat) : (fall2 k (fall1 k c) 4 k').toInt = if k' = k then (c 4 k).toInt - ob c k else (c 4 k').toInt := by
  have e : fall2 k (fall1 k c) 4 = fall1 k c 4 := by unfold fall2; split <;> rfl
  rw [e]
  unfold fall1 ob
  by_cases z : c 4 k ≤ c 0 4
  · have z' := fall1_if.mp z
    rw [if_pos z, if_neg (show ¬ (c 0 4).toInt < (c 4 k).toInt by omega)]
    split
    · rename_i v; rw [v]; omega
    · rfl
  · have z' : (c 0 4).toInt < (c 4 k).toInt := Int.not_le.mp (fun q => z (fall1_if.mpr q))
    rw [if_neg z, if_pos z', upd2_same]
    split
    · omega
    · rfl
theorem fallS_lost (hk : k < 8) (h : GB c Bw Br) (hBr : Br k ≤ 1000) (hl : LB c L) (hL : L ≤ 2000000000) : (fall2 k (fall1 k c) 0 8).toInt = (c 0 8).toInt + ob c k := by
  have h4 := h.2.2.2.1 k hk
  have h5 := h.2.2.2.2.2.1
  have h8 := hl 8 (by decide) (by decide)
  have e : fall2 k (fall1 k c) 0 8 = fall1 k c 0 8 := by unfold fall2; split <;> rfl
  rw [e]
  unfold fall1 ob
  by_cases z : c 4 k ≤ c 0 4
  · have z' := fall1_if.mp z
    rw [if_pos z, if_neg (by omega)]
    omega
  · have z' : (c 0 4).toInt < (c 4 k).toInt := Int.not_le.mp (fun q => z (fall1_if.mpr q))
    rw [if_neg z, if_pos z']
    show (c 0 8 + (c 4 k - c 0 4)).toInt = _
    rw [toInt_add', toInt_sub' (by omega) (by omega)]
    · rw [toInt_sub' (by omega) (by omega)]; omega
    · rw [toInt_sub' (by omega) (by omega)]; omega
theorem fallS_soak (hl : LB c L) (hL : L ≤ 2000000000) : (c 0 10).toInt ≤ (fall2 k (fall1 k c) 0 10).toInt ∧ (fall2 k (fall1 k c) 0 10).toInt ≤ (c 0 10).toInt + 1 := by
  have h8 := hl 10 (by decide) (by decide)
  have e : fall1 k c 0 10 = c 0 10 := by unfold fall1; split <;> rfl
  unfold fall2
  split
  · rw [e]; omega
  · show _ ≤ (fall1 k c 0 10 + 1).toInt ∧ (fall1 k c 0 10 + 1).toInt ≤ _
    have e1 : (1 : Int32).toInt = 1 := rfl
    rw [e, toInt_add' (by rw [e1]; omega) (by rw [e1]; omega), e1]
    omega
theorem mFall_GB (hN : N ≤ 8) (h : GB c (fun _ _ => 20) (fun _ => 110)) (hl : LB c L) (hL : L ≤ 1999990000) : GB (mFall N c) (fun _ _ => 20) (fun k => if k < N then 20 else 110) ∧ LB (mFall N c) (L + 880) := by
  unfold mFall
  have := up_idx (n := N) (P := fun k d => GB d (fun _ _ => 20) (fun k' => if k' < k then 20 else 110) ∧ LB d (L + 110 * (k : Int))) (f := fun k c => fall2 k (fall1 k c)) (fun k d hk p => ?_) N 0 c (by omega) ?_
  · exact ⟨this.1, fun j h7 h10 => ⟨(this.2 j h7 h10).1, by have := (this.2 j h7 h10).2; omega⟩⟩
  · obtain ⟨p, q⟩ := p
    have hk8 : k < 8 := by omega
    have hb : ob d k ≥ 0 ∧ ob d k ≤ 110 ∧ (d 4 k).toInt - ob d k ≤ 20 ∧ 0 ≤ (d 4 k).toInt - ob d k := by
      have h4 := p.2.2.2.1 k hk8
      have h5 := p.2.2.2.2.2.1
      dsimp only at h4
      rw [if_neg (Nat.lt_irrefl k)] at h4
      unfold ob
      split <;> omega
    refine ⟨⟨by rw [fallS_123.1]; exact p.1, by rw [fallS_123.2.1]; exact p.2.1, fun i' k' hi' hk' => by unfold wt; rw [fallS_123.2.2]; exact p.2.2.1 i' k' hi' hk', fun k' hk' => ?_, ?_⟩, fun j h7 h10 => ?_⟩
    · have h4 := p.2.2.2.1 k' hk'
      rw [fallS_rim hk8 p k']
      dsimp only at h4 ⊢
      by_cases v : k' = k
      · rw [if_pos v, if_pos (by omega)]; omega
      · rw [if_neg v]
        by_cases y : k' < k
        · rw [if_pos y] at h4; rw [if_pos (by omega)]; exact h4
        · rw [if_neg y] at h4; rw [if_neg (by omega)]; exact h4
    · rw [fallS_0 (j := 3) (by decide) (by decide), fallS_0 (j := 4) (by decide) (by decide), fallS_0 (j := 5) (by decide) (by decide), fallS_0 (j := 6) (by decide) (by decide)]
      exact p.2.2.2.2
    · have hj := q j h7 h10
      by_cases j8 : j = 8
      · rw [j8, fallS_lost hk8 p (by split <;> omega) q (by omega)]
        rw [j8] at hj
        omega
      · by_cases j10 : j = 10
        · have := fallS_soak (k := k) q (by omega)
          rw [j10] at hj ⊢
          omega
        · rw [fallS_0 j8 j10]
          omega
  · refine ⟨h.mono (fun _ _ _ _ => Int.le_refl _) (fun k' _ => by rw [if_neg (Nat.not_lt_zero _)]; exact Int.le_refl _), fun j h7 h10 => ?_⟩
    have := hl j h7 h10
    omega
theorem LB.of {c d : CN} {L L' : Int} (h : LB c L) (e : d 0 = c 0) (hL : L ≤ L') : LB d L' := fun j h7 h10 => by
  rw [e]
  have := h j h7 h10
  omega
theorem LB.mono {c : CN} {L L' : Int} (h : LB c L) (hL : L ≤ L') : LB c L' := h.of rfl hL
/-- a side that isn't there any more is dry, and stays so -/
theorem mMelt_4 : mMelt N t M c 4 = c 4 := by
  unfold mMelt
  exact up_inv (P := fun d => d 4 = c 4) (fun i d p => up_inv (P := fun d => d 4 = c 4) (fun k d p => melS_4.trans p) N 0 d p) M 0 c rfl
theorem runS_4 {k' : Nat} (h : k' ≠ k) : runS i k c 4 k' = c 4 k' := by
  unfold runS
  repeat' split
  · rw [upd2_same, if_neg h, upd2_ne (by decide)]
  · rw [upd2_ne (by decide), upd2_ne (by decide)]
  · rfl
theorem mRun_4 {k' : Nat} (h : N ≤ k') : mRun N M c 4 k' = c 4 k' := by
  unfold mRun
  refine dn_invR (n := M) (P := fun d => d 4 k' = c 4 k') (fun i d _ p => ?_) M c (Nat.le_refl _) rfl
  exact up_invR (n := N) (P := fun d => d 4 k' = c 4 k') (fun k d hk p => (runS_4 (by omega)).trans p) N 0 d (by omega) p
theorem mFall_4 {k' : Nat} (h : N ≤ k') : mFall N c 4 k' = c 4 k' := by
  unfold mFall
  refine up_invR (n := N) (P := fun d => d 4 k' = c 4 k') (fun k d hk p => ?_) N 0 c (by omega) rfl
  have e : fall2 k (fall1 k d) 4 = fall1 k d 4 := by unfold fall2; split <;> rfl
  rw [e, ← p]
  unfold fall1
  split
  · rfl
  · rw [upd2_same, if_neg (by omega), upd2_ne (by decide)]
theorem mTick_G20 (hN : N ≤ 8) (hM : M ≤ 3) (h : G20 c) (hl : LB c L) (hL : L ≤ 1999990000) : G20 (mTick N t M c) ∧ LB (mTick N t M c) (L + 880) := by
  have h1 := mRun_GB hN hM (mMelt_GB (t := t) hN hM h)
  have h2 := mFall_GB hN h1 (hl.of (d := mRun N M (mMelt N t M c)) (mRun_keep.trans mMelt_keep) (Int.le_refl _)) hL
  refine ⟨⟨h2.1.1, h2.1.2.1, h2.1.2.2.1, fun k hk => ?_, h2.1.2.2.2.2⟩, h2.2⟩
  have h3 := h2.1.2.2.2.1 k hk
  dsimp only at h3
  by_cases z : k < N
  · rw [if_pos z] at h3; exact h3
  · have e : mTick N t M c 4 k = c 4 k := by
      unfold mTick
      rw [mFall_4 (by omega), mRun_4 (by omega), mMelt_4]
    rw [e]
    exact h.2.2.2.1 k hk
theorem eat_toInt {v l : Int32} (hv : 0 ≤ v.toInt) (hv2 : v.toInt ≤ 20) (hl : 1 ≤ l.toInt) : 0 ≤ (mn v l).toInt ∧ (mn v l).toInt ≤ v.toInt ∧ (v - mn v l).toInt = v.toInt - (mn v l).toInt := by
  have e : (mn v l).toInt = if v.toInt < l.toInt then v.toInt else l.toInt := mn_toInt
  have h1 : 0 ≤ (mn v l).toInt ∧ (mn v l).toInt ≤ v.toInt := by rw [e]; split <;> omega
  exact ⟨h1.1, h1.2, toInt_sub' (by omega) (by omega)⟩
theorem mAct_G20 (hc : canA M a) (hM : M ≤ 3) (ht : t < 8) (h : G20 c) (hl : LB c L) (hL : L ≤ 1999990000) : G20 (mAct N t a c) ∧ LB (mAct N t a c) (L + 20) := by
  have h5 := h.2.2.2.2.2.2.1
  unfold mAct
  split
  · exact ⟨h, hl.mono (by omega)⟩
  · split
    · have hi : a - 1 < 3 := by omega
      have h3 : 0 ≤ (c 3 (8 * (a - 1) + t)).toInt ∧ (c 3 (8 * (a - 1) + t)).toInt ≤ 20 := h.2.2.1 (a - 1) t hi ht
      have h9 := hl 9 (by decide) (by decide)
      have he := eat_toInt h3.1 h3.2 h5.1
      unfold eatS
      refine ⟨⟨h.1, h.2.1, fun i' k' hi' hk' => ?_, h.2.2.2.1, h.2.2.2.2⟩, fun j h7 h10 => ?_⟩
      · have := h.2.2.1 i' k' hi' hk'
        unfold wt at this ⊢
        rw [upd2_ne (by decide), upd2_same]
        split
        · rw [he.2.2]; dsimp only at *; omega
        · exact this
      · have := hl j h7 h10
        rw [upd2_same]
        split
        · rw [toInt_add' (by omega) (by omega)]; omega
        · rw [upd2_ne (by decide)]; omega
    · split
      · have h3 : 0 ≤ (c 4 t).toInt ∧ (c 4 t).toInt ≤ 20 := h.2.2.2.1 t ht
        have h9 := hl 9 (by decide) (by decide)
        have he := eat_toInt h3.1 h3.2 h5.1
        unfold eatR
        refine ⟨⟨h.1, h.2.1, h.2.2.1, fun k' hk' => ?_, h.2.2.2.2⟩, fun j h7 h10 => ?_⟩
        · have := h.2.2.2.1 k' hk'
          rw [upd2_ne (by decide), upd2_same]
          split
          · rw [he.2.2]; dsimp only at *; omega
          · exact this
        · have := hl j h7 h10
          rw [upd2_same]
          split
          · rw [toInt_add' (by omega) (by omega)]; omega
          · rw [upd2_ne (by decide)]; omega
      · refine ⟨⟨h.1, h.2.1, h.2.2.1, h.2.2.2.1, h.2.2.2.2⟩, fun j h7 h10 => ?_⟩
        rw [upd2_same, if_neg (by omega)]
        have := hl j h7 h10
        omega
theorem mAct_G20' (hc : canA M a) (hM : M ≤ 3) (ht : t < 8) (h : G20 c) : G20 (mAct N t a c) := by
  have h5 := h.2.2.2.2.2.2.1
  unfold mAct
  split
  · exact h
  · split
    · have hi : a - 1 < 3 := by omega
      have h3 : 0 ≤ (c 3 (8 * (a - 1) + t)).toInt ∧ (c 3 (8 * (a - 1) + t)).toInt ≤ 20 := h.2.2.1 (a - 1) t hi ht
      have he := eat_toInt h3.1 h3.2 h5.1
      unfold eatS
      refine ⟨h.1, h.2.1, fun i' k' hi' hk' => ?_, h.2.2.2.1, h.2.2.2.2⟩
      have := h.2.2.1 i' k' hi' hk'
      unfold wt at this ⊢
      rw [upd2_ne (by decide), upd2_same]
      split
      · rw [he.2.2]; dsimp only at *; omega
      · exact this
    · split
      · have h3 : 0 ≤ (c 4 t).toInt ∧ (c 4 t).toInt ≤ 20 := h.2.2.2.1 t ht
        have he := eat_toInt h3.1 h3.2 h5.1
        unfold eatR
        refine ⟨h.1, h.2.1, h.2.2.1, fun k' hk' => ?_, h.2.2.2.2⟩
        have := h.2.2.2.1 k' hk'
        rw [upd2_ne (by decide), upd2_same]
        split
        · rw [he.2.2]; dsimp only at *; omega
        · exact this
      · exact ⟨h.1, h.2.1, h.2.2.1, h.2.2.2.1, h.2.2.2.2⟩
theorem mPass_G20 (H : Hd c N t M) (hc : canA M a) (h : G20 c) (hl : LB c L) (hL : L ≤ 1999980000) : G20 (mPass N t M a c) ∧ LB (mPass N t M a c) (L + 1000) ∧ Hd (mPass N t M a c) N (newT N t a) M := by
  have hN := H.2.2.2.2.1
  have ht := H.2.2.2.2.2.1
  have hM := H.2.2.2.2.2.2
  have h1 := mAct_G20 (N := N) (t := t) hc hM (by omega) h hl (by omega)
  have h2 := mTick_G20 (t := newT N t a) hN hM h1.1 h1.2 (by omega)
  have HA := mAct_Hd (a := a) H
  have HT : Hd (mTick N (newT N t a) M (mAct N t a c)) N (newT N t a) M := by
    refine HA.of3 ?_
    unfold mTick mFall
    have hk : ∀ d : CN, d 0 0 = mAct N t a c 0 0 ∧ d 0 1 = mAct N t a c 0 1 ∧ d 0 11 = mAct N t a c 0 11 → (up (fun k c => fall2 k (fall1 k c)) N 0 d) 0 0 = mAct N t a c 0 0 ∧ (up (fun k c => fall2 k (fall1 k c)) N 0 d) 0 1 = mAct N t a c 0 1 ∧ (up (fun k c => fall2 k (fall1 k c)) N 0 d) 0 11 = mAct N t a c 0 11 := fun d => up_inv (P := fun d => d 0 0 = mAct N t a c 0 0 ∧ d 0 1 = mAct N t a c 0 1 ∧ d 0 11 = mAct N t a c 0 11) (fun k d p => ⟨(fallS_0 (by decide) (by decide)).trans p.1, (fallS_0 (by decide) (by decide)).trans p.2.1, (fallS_0 (by decide) (by decide)).trans p.2.2⟩) N 0 d
    exact hk _ (by rw [mRun_keep, mMelt_keep]; exact ⟨rfl, rfl, rfl⟩)
  unfold mPass
  refine ⟨⟨h2.1.1, h2.1.2.1, h2.1.2.2.1, h2.1.2.2.2.1, h2.1.2.2.2.2⟩, fun j h7 h10 => ?_, HT.of3 ⟨rfl, rfl, rfl⟩⟩
  have hj := h2.2 j h7 h10
  rw [upd2_same]
  split
  · have hs := h2.2 7 (by decide) (by decide)
    have e1 : (1 : Int32).toInt = 1 := rfl
    rw [toInt_add' (by rw [e1]; omega) (by rw [e1]; omega), e1]
    omega
  · omega
end STEPS
