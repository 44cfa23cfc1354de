/-! PURE MATHEMATICS, 5: the model's steps in whole numbers; its bounds. -/
def wt (c : CN) (i k : Nat) : Int := (c 3 (8 * i + k)).toInt
/-- bounds of a cone's cells: Bw of what is wet, Br of the rim -/
def GB (c : CN) (Bw : Nat → Nat → Int) (Br : Nat → Int) : Prop :=
  (∀ i : Nat, i < 3 → 0 ≤ (c 1 i).toInt ∧ (c 1 i).toInt ≤ 9) ∧ (∀ i : Nat, i < 3 → 0 ≤ (c 2 i).toInt ∧ (c 2 i).toInt ≤ 99) ∧
  (∀ i k : Nat, i < 3 → k < 8 → 0 ≤ wt c i k ∧ wt c i k ≤ Bw i k) ∧ (∀ k : Nat, k < 8 → 0 ≤ (c 4 k).toInt ∧ (c 4 k).toInt ≤ Br k) ∧
  (0 ≤ (c 0 3).toInt ∧ (c 0 3).toInt ≤ 20) ∧ (0 ≤ (c 0 4).toInt ∧ (c 0 4).toInt ≤ 20) ∧ (1 ≤ (c 0 5).toInt ∧ (c 0 5).toInt ≤ 20) ∧ (1 ≤ (c 0 6).toInt ∧ (c 0 6).toInt ≤ 999)
def G20 (c : CN) : Prop := GB c (fun _ _ => 20) (fun _ => 20)
/-- seconds, lost, eaten, soak -/
def LB (c : CN) (L : Int) : Prop := ∀ j : Nat, 7 ≤ j → j ≤ 10 → 0 ≤ (c 0 j).toInt ∧ (c 0 j).toInt ≤ L
theorem GB.mono {c : CN} {Bw Bw' : Nat → Nat → Int} {Br Br' : Nat → Int} (h : GB c Bw Br) (h1 : ∀ i k : Nat, i < 3 → k < 8 → Bw i k ≤ Bw' i k) (h2 : ∀ k : Nat, k < 8 → Br k ≤ Br' k) : GB c Bw' Br' := by
  obtain ⟨a1, a2, a3, a4, a5⟩ := h
  exact ⟨a1, a2, fun i k hi hk => ⟨(a3 i k hi hk).1, Int.le_trans (a3 i k hi hk).2 (h1 i k hi hk)⟩, fun k hk => ⟨(a4 k hk).1, Int.le_trans (a4 k hk).2 (h2 k hk)⟩, a5⟩
theorem GB.Nn {c : CN} {Bw : Nat → Nat → Int} {Br : Nat → Int} (h : GB c Bw Br) : Nn c := ⟨fun i hi => Int32.le_iff_toInt_le.mpr (h.1 i hi).1, fun i hi => Int32.le_iff_toInt_le.mpr (h.2.1 i hi).1⟩
theorem mn_toInt {a b : Int32} : (mn a b).toInt = if a.toInt < b.toInt then a.toInt else b.toInt := by
  unfold mn
  by_cases h : a < b
  · rw [if_pos h, if_pos (Int32.lt_iff_toInt_lt.mp h)]
  · rw [if_neg h, if_neg (fun z => h (Int32.lt_iff_toInt_lt.mpr z))]
theorem half_toInt {x : Int32} (h : 0 ≤ x.toInt) : (x / 2).toInt = x.toInt / 2 := by
  have e : (x / 2).toInt = x.toInt.tdiv 2 := Int32.toInt_div_of_ne_right x 2 (by decide)
  rw [e, Int.tdiv_eq_ediv_of_nonneg h]
theorem up_idx {P : Nat → CN → Prop} {f : Nat → CN → CN} {n : Nat} (h : ∀ (k : Nat) (c : CN), k < n → P k c → P (k + 1) (f k c)) : ∀ (m k : Nat) (c : CN), k + m = n → P k c → P n (up f m k c)
  | 0, k, c, e, p => by
    have : k = n := by omega
    subst this
    exact p
  | m + 1, k, c, e, p => up_idx h m (k + 1) (f k c) (by omega) (h k c (by omega) p)
theorem dn_idx {P : Nat → CN → Prop} {f : Nat → CN → CN} : ∀ (m : Nat) (c : CN), (∀ (k : Nat) (c : CN), k < m → P (k + 1) c → P k (f k c)) → P m c → P 0 (dn f m c)
  | 0, _, _, p => p
  | m + 1, c, h, p => dn_idx m (f m c) (fun k c hk => h k c (by omega)) (h m c (Nat.lt_succ_self m) p)
section STEPS
variable {c : CN} {N t M i k a : Nat} {Bw : Nat → Nat → Int} {Br : Nat → Int}
theorem melY_toInt (hs : 0 ≤ (c 1 i).toInt) : 0 ≤ (melY c N t i k).toInt ∧ (melY c N t i k).toInt ≤ (c 1 i).toInt := by
  unfold melY
  split
  · rw [half_toInt hs]; omega
  · omega
theorem melS_am (hi : i < 3) (h : GB c Bw Br) (j : Nat) : (melS N t i k c 2 j).toInt = if j = i then (c 2 i).toInt - (if (c 2 i).toInt < (melY c N t i k).toInt then (c 2 i).toInt else (melY c N t i k).toInt) else (c 2 j).toInt := by
  rw [melS_2]
  dsimp only
  by_cases z : j = i
  · rw [if_pos z, if_pos z]
    have h1 := (h.1 i hi)
    have h2 := (h.2.1 i hi)
    have h3 := melY_toInt (N := N) (t := t) (k := k) h1.1
    unfold melZ
    rw [toInt_sub', mn_toInt]
    · rw [mn_toInt]; split <;> omega
    · rw [mn_toInt]; split <;> omega
  · rw [if_neg z, if_neg z]
theorem melS_wt (hi : i < 3) (hk : k < 8) (h : GB c Bw Br) (hB : Bw i k ≤ 1000) (i' k' : Nat) (hk' : k' < 8) : wt (melS N t i k c) i' k' = if i' = i ∧ k' = k then wt c i k + (if (c 2 i).toInt < (melY c N t i k).toInt then (c 2 i).toInt else (melY c N t i k).toInt) else wt c i' k' := by
  unfold wt melS
  rw [upd2_same]
  by_cases z : i' = i ∧ k' = k
  · rw [if_pos z, if_pos (by rw [z.1, z.2])]
    have h1 := (h.1 i hi)
    have h2 := (h.2.1 i hi)
    have h3 := melY_toInt (N := N) (t := t) (k := k) h1.1
    have h4 := h.2.2.1 i k hi hk
    unfold wt at h4
    unfold melZ
    rw [toInt_add', mn_toInt]
    · rw [mn_toInt]; split <;> omega
    · rw [mn_toInt]; split <;> omega
  · rw [if_neg z, if_neg (by omega), upd2_ne (by decide)]
theorem melS_4 : melS N t i k c 4 = c 4 := by unfold melS; rw [upd2_ne (by decide), upd2_ne (by decide)]
theorem melS_GB (hi : i < 3) (hk : k < 8) (h : GB c Bw Br) (hB : Bw i k ≤ 1000) : GB (melS N t i k c) (fun i' k' => if i' = i ∧ k' = k then Bw i k + 9 else Bw i' k') Br := by
  have h1 := (h.1 i hi)
  have h2 := (h.2.1 i hi)
  have h3 := melY_toInt (N := N) (t := t) (k := k) h1.1
  have h4 := h.2.2.1 i k hi hk
  refine ⟨fun j hj => by rw [melS_1]; exact h.1 j hj, fun j hj => ?_, fun i' k' hi' hk' => ?_, fun j hj => by rw [melS_4]; exact h.2.2.2.1 j hj, by rw [melS_0]; exact h.2.2.2.2⟩
  · rw [melS_am hi h j]
    have := h.2.1 j hj
    split
    · split <;> omega
    · omega
  · rw [melS_wt hi hk h hB i' k' hk']
    dsimp only
    have := h.2.2.1 i' k' hi' hk'
    split
    · split <;> omega
    · omega
theorem mMelt_GB (hN : N ≤ 8) (hM : M ≤ 3) (h : G20 c) : GB (mMelt N t M c) (fun i k => if i < M ∧ k < N then 29 else 20) (fun _ => 20) := by
  have inner : ∀ (i : Nat) (c : CN), i < M → GB c (fun i' k' => if k' < N ∧ i' < i then 29 else 20) (fun _ => 20) → GB (up (fun k c => melS N t i k c) N 0 c) (fun i' k' => if k' < N ∧ i' < i + 1 then 29 else 20) (fun _ => 20) := by
    intro i c hi hc
    have := up_idx (n := N) (P := fun k d => GB d (fun i' k' => if k' < N ∧ (i' < i ∨ (i' = i ∧ k' < k)) then 29 else 20) (fun _ => 20)) (f := fun k c => melS N t i k c) (fun k d hk p => ?_) N 0 c (by omega) ?_
    · refine this.mono (fun i' k' _ _ => ?_) (fun _ _ => Int.le_refl _)
      split <;> split <;> omega
    · refine (melS_GB (i := i) (k := k) (N := N) (t := t) (by omega) (by omega) p (by split <;> omega)).mono (fun i' k' _ _ => ?_) (fun _ _ => Int.le_refl _)
      repeat' split
      all_goals omega
    · refine hc.mono (fun i' k' _ _ => ?_) (fun _ _ => Int.le_refl _)
      split <;> split <;> omega
  have := up_idx (n := M) (P := fun i d => GB d (fun i' k' => if k' < N ∧ i' < i then 29 else 20) (fun _ => 20)) (f := fun i c => up (fun k c => melS N t i k c) N 0 c) (fun i d hi p => inner i d hi p) M 0 c (by omega) (h.mono (fun _ _ _ _ => by split <;> omega) (fun _ _ => Int.le_refl _))
  exact this.mono (fun i' k' _ _ => by split <;> split <;> omega) (fun _ _ => Int.le_refl _)
/-- what is above HOLD -/
def ov (c : CN) (i k : Nat) : Int := if (c 0 3).toInt < wt c i k then wt c i k - (c 0 3).toInt else 0
theorem runS_1 : runS i k c 1 = c 1 ∧ runS i k c 2 = c 2 := by
  unfold runS
  repeat' split
  · exact ⟨by rw [upd2_ne (by decide), upd2_ne (by decide)], by rw [upd2_ne (by decide), upd2_ne (by decide)]⟩
  · exact ⟨by rw [upd2_ne (by decide), upd2_ne (by decide)], by rw [upd2_ne (by decide), upd2_ne (by decide)]⟩
  · exact ⟨rfl, rfl⟩
theorem runS_if (hi : i < 3) (hk : k < 8) (h : GB c Bw Br) (hB : Bw i k ≤ 1000) : (0 < c 3 (8 * i + k) - c 0 3 ↔ (c 0 3).toInt < wt c i k) ∧ (c 3 (8 * i + k) - c 0 3).toInt = wt c i k - (c 0 3).toInt := by
  have h4 := h.2.2.1 i k hi hk
  have h5 := h.2.2.2.2.1
  have e : (c 3 (8 * i + k) - c 0 3).toInt = wt c i k - (c 0 3).toInt := by
    unfold wt at h4 ⊢
    exact toInt_sub' (by omega) (by omega)
  refine ⟨?_, e⟩
  rw [Int32.lt_iff_toInt_lt, e]
  show 0 < _ ↔ _
  omega
theorem runS_wt (hi : i < 3) (hk : k < 8) (h : GB c Bw Br) (hB : Bw i k ≤ 1000) (hB' : 0 < i → Bw (i - 1) k ≤ 1000) (i' k' : Nat) (hk' : k' < 8) : wt (runS i k c) i' k' = if i' = i ∧ k' = k then wt c i k - ov c i k else if i' + 1 = i ∧ k' = k then wt c i' k' + ov c i k else wt c i' k' := by
  have hr := runS_if hi hk h hB
  have h4 := h.2.2.1 i k hi hk
  have h5 := h.2.2.2.2.1
  unfold runS ov
  by_cases z : 0 < c 3 (8 * i + k) - c 0 3
  · have z' := hr.1.mp z
    rw [if_pos z, if_pos z']
    by_cases y : i = 0
    · rw [if_pos y]
      unfold wt
      rw [upd2_ne (by decide), upd2_same]
      by_cases v : i' = i ∧ k' = k
      · rw [if_pos v, if_pos (by rw [v.1, v.2])]; omega
      · rw [if_neg v, if_neg (by omega), if_neg (by omega)]
    · rw [if_neg y]
      have h6 := h.2.2.1 (i - 1) k (by omega) hk
      have h7 := hB' (by omega)
      unfold wt at h4 h6 z' ⊢
      rw [upd2_same, upd2_same]
      by_cases v : i' = i ∧ k' = k
      · rw [if_pos v, if_neg (by omega), if_pos (by rw [v.1, v.2])]; omega
      · rw [if_neg v]
        by_cases q : i' + 1 = i ∧ k' = k
        · have e1 : i' = i - 1 := by omega
          rw [if_pos q, if_pos (by omega), toInt_add', hr.2, e1, q.2]
          · unfold wt; rfl
          · rw [hr.2]; unfold wt; omega
          · rw [hr.2]; unfold wt; omega
        · rw [if_neg q, if_neg (by omega), if_neg (by omega)]
  · have z' : ¬ (c 0 3).toInt < wt c i k := fun y => z (hr.1.mpr y)
    rw [if_neg z, if_neg z']
    by_cases v : i' = i ∧ k' = k
    · rw [if_pos v, v.1, v.2]; omega
    · rw [if_neg v]
      split <;> omega
theorem runS_rim (hi : i < 3) (hk : k < 8) (h : GB c Bw Br) (hB : Bw i k ≤ 1000) (hBr : Br k ≤ 1000) (k' : Nat) : (runS i k c 4 k').toInt = if i = 0 ∧ k' = k then (c 4 k).toInt + ov c i k else (c 4 k').toInt := by
  have hr := runS_if hi hk h hB
  have h4 := h.2.2.1 i k hi hk
  have h5 := h.2.2.2.2.1
  have h6 := h.2.2.2.1 k hk
  unfold runS ov
  by_cases z : 0 < c 3 (8 * i + k) - c 0 3
  · have z' := hr.1.mp z
    rw [if_pos z, if_pos z']
    by_cases y : i = 0
    · rw [if_pos y, upd2_same]
      by_cases v : k' = k
      · rw [if_pos v, if_pos ⟨y, v⟩, toInt_add', hr.2]
        · rw [hr.2]; omega
        · rw [hr.2]; omega
      · rw [if_neg v, if_neg (fun q => v q.2), upd2_ne (by decide)]
    · rw [if_neg y, if_neg (fun q => y q.1), upd2_ne (by decide), upd2_ne (by decide)]
  · have z' : ¬ (c 0 3).toInt < wt c i k := fun y => z (hr.1.mpr y)
    rw [if_neg z, if_neg z']
    split
    · rename_i v; rw [v.2]; omega
    · rfl
theorem runS_GB (hi : i < 3) (hk : k < 8) (h : GB c Bw Br) (hB : Bw i k ≤ 500) (hB' : 0 < i → Bw (i - 1) k ≤ 500) (hBr : Br k ≤ 500) : GB (runS i k c) (fun i' k' => if i' = i ∧ k' = k then 20 else if i' + 1 = i ∧ k' = k then Bw i' k' + Bw i k else Bw i' k') (fun k' => if i = 0 ∧ k' = k then Br k + Bw i k else Br k') := by
  have h4 := h.2.2.1 i k hi hk
  have h5 := h.2.2.2.2.1
  have hov : 0 ≤ ov c i k ∧ ov c i k ≤ Bw i k ∧ wt c i k - ov c i k ≤ 20 ∧ 0 ≤ wt c i k - ov c i k := by
    unfold ov
    split <;> omega
  refine ⟨fun j hj => by rw [runS_1.1]; exact h.1 j hj, fun j hj => by rw [runS_1.2]; exact h.2.1 j hj, fun i' k' hi' hk' => ?_, fun j hj => ?_, by rw [runS_0]; exact h.2.2.2.2⟩
  · have h6 := h.2.2.1 i' k' hi' hk'
    rw [runS_wt hi hk h (by omega) (fun q => by have := hB' q; omega) i' k' hk']
    dsimp only
    split
    · omega
    · split <;> omega
  · have h6 := h.2.2.2.1 j hj
    rw [runS_rim hi hk h (by omega) (by omega) j]
    dsimp only
    split
    · rename_i v; rw [v.2] at h6; omega
    · exact h6
/-- what is wet behind the running down from the scoops above i -/
def bRun (N M i i' k' : Nat) : Int := if N ≤ k' ∨ M ≤ i' then 20 else if i ≤ i' then 20 else if i' + 1 = i then 29 * (4 - (i : Int)) else 29
theorem mRun_GB (hN : N ≤ 8) (hM : M ≤ 3) (h : GB c (fun i k => if i < M ∧ k < N then 29 else 20) (fun _ => 20)) : GB (mRun N M c) (fun _ _ => 20) (fun _ => 110) := by
  have inner : ∀ (i : Nat) (c : CN), i < M → GB c (bRun N M (i + 1)) (fun _ => 20) → GB (up (fun k c => runS i k c) N 0 c) (bRun N M i) (fun k => if i = 0 ∧ k < N then 110 else 20) := by
    intro i c hi hc
    have := up_idx (n := N) (P := fun k d => GB d (fun i' k' => if k' < k then bRun N M i i' k' else bRun N M (i + 1) i' k') (fun k' => if i = 0 ∧ k' < k then 110 else 20)) (f := fun k c => runS i k c) (fun k d hk p => ?_) N 0 c (by omega) ?_
    · refine this.mono (fun i' k' _ _ => ?_) (fun _ _ => Int.le_refl _)
      unfold bRun
      repeat' split
      all_goals omega
    · have b1 : bRun N M (i + 1) i k ≤ 87 := by unfold bRun; repeat' split <;> omega
      refine (runS_GB (i := i) (k := k) (by omega) (by omega) p (by rw [if_neg (Nat.lt_irrefl k)]; omega) (fun _ => by rw [if_neg (Nat.lt_irrefl k)]; unfold bRun; (repeat' split) <;> omega) (by rw [if_neg (by omega)]; omega)).mono (fun i' k' _ _ => ?_) (fun k' _ => ?_)
      · unfold bRun
        repeat' split
        all_goals omega
      · rw [if_neg (show ¬ (i = 0 ∧ k < k) by omega), if_neg (Nat.lt_irrefl k)]
        repeat' split
        all_goals omega
    · refine hc.mono (fun i' k' _ _ => ?_) (fun _ _ => ?_)
      · rw [if_neg (by omega)]; exact Int.le_refl _
      · rw [if_neg (by omega)]; exact Int.le_refl _
  have := dn_idx (P := fun i d => GB d (bRun N M i) (fun k => if i = 0 ∧ k < N then 110 else 20)) (f := fun i c => up (fun k c => runS i k c) N 0 c) M c (fun i d hi p => inner i d hi (p.mono (fun _ _ _ _ => Int.le_refl _) (fun _ _ => by rw [if_neg (by omega)]; exact Int.le_refl _))) (h.mono (fun i' k' _ _ => by unfold bRun; repeat' split <;> omega) (fun k' _ => by split <;> omega))
  exact this.mono (fun i' k' _ _ => by unfold bRun; repeat' split <;> omega) (fun _ _ => by split <;> omega)
end STEPS
