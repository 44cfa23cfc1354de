/-! PURE MATHEMATICS, 37: more on the cone never loses less. -/
def LeC (c d : CN) : Prop := (∀ i : Nat, i < 3 → c 1 i = d 1 i) ∧ (∀ i : Nat, i < 3 → (c 2 i).toInt ≤ (d 2 i).toInt) ∧ (∀ i k : Nat, i < 3 → k < 8 → wt c i k ≤ wt d i k) ∧ (∀ k : Nat, k < 8 → (c 4 k).toInt ≤ (d 4 k).toInt) ∧ (c 0 8).toInt ≤ (d 0 8).toInt ∧ ∀ j : Nat, j ≤ 6 → c 0 j = d 0 j
theorem up_pair {P : Nat → CN → CN → Prop} {f : Nat → CN → CN} {n : Nat} (h : ∀ (k : Nat) (c d : CN), k < n → P k c d → P (k + 1) (f k c) (f k d)) : ∀ (m k : Nat) (c d : CN), k + m = n → P k c d → P n (up f m k c) (up f m k d)
  | 0, k, c, d, e, p => by
    have : k = n := by omega
    subst this
    exact p
  | m + 1, k, c, d, e, p => up_pair h m (k + 1) (f k c) (f k d) (by omega) (h k c d (by omega) p)
theorem dn_pair {P : Nat → CN → CN → Prop} {f : Nat → CN → CN} : ∀ (m : Nat) (c d : CN), (∀ (k : Nat) (c d : CN), k < m → P (k + 1) c d → P k (f k c) (f k d)) → P m c d → P 0 (dn f m c) (dn f m d)
  | 0, _, _, _, p => p
  | m + 1, c, d, h, p => dn_pair m (f m c) (f m d) (fun k c d hk => h k c d (by omega)) (h m c d (Nat.lt_succ_self m) p)
section MONO
variable {c d : CN} {N t M i k a : Nat} {Bw : Nat → Nat → Int} {Br : Nat → Int} {L : Int}
theorem melS_Le (hi : i < 3) (hk : k < 8) (hc : GB c Bw Br) (hd : GB d Bw Br) (hB : Bw i k ≤ 1000) (h : LeC c d) : LeC (melS N t i k c) (melS N t i k d) := by
  have h1c := hc.1 i hi
  have h1d := hd.1 i hi
  have h2c := hc.2.1 i hi
  have h2d := hd.2.1 i hi
  have ey : melY c N t i k = melY d N t i k := by
    unfold melY shy
    rw [h.1 i hi, h.2.2.2.2.2 2 (by decide)]
  have hy := melY_toInt (N := N) (t := t) (k := k) h1d.1
  have hle := h.2.1 i hi
  refine ⟨fun j hj => by rw [melS_1, melS_1]; exact h.1 j hj, fun j hj => ?_, fun i' k' hi' hk' => ?_, fun j hj => by rw [melS_4, melS_4]; exact h.2.2.2.1 j hj, by rw [melS_0, melS_0]; exact h.2.2.2.2.1, fun j hj => by rw [melS_0, melS_0]; exact h.2.2.2.2.2 j hj⟩
  · rw [melS_am hi hc j, melS_am hi hd j, ey]
    have := h.2.1 j hj
    split
    · split <;> split <;> omega
    · exact this
  · rw [melS_wt hi hk hc hB i' k' hk', melS_wt hi hk hd hB i' k' hk', ey]
    have := h.2.2.1 i' k' hi' hk'
    have := h.2.2.1 i k hi hk
    split
    · split <;> split <;> omega
    · omega
theorem ov_Le (hi : i < 3) (hk : k < 8) (h : LeC c d) : ov c i k ≤ ov d i k ∧ wt c i k - ov c i k ≤ wt d i k - ov d i k := by
  have e := h.2.2.2.2.2 3 (by decide)
  have := h.2.2.1 i k hi hk
  unfold ov
  rw [e]
  split <;> split <;> omega
theorem runS_Le (hi : i < 3) (hk : k < 8) (hc : GB c Bw Br) (hd : GB d Bw Br) (hB : Bw i k ≤ 500) (hB' : 0 < i → Bw (i - 1) k ≤ 500) (hBr : Br k ≤ 500) (h : LeC c d) : LeC (runS i k c) (runS i k d) := by
  have ho := ov_Le hi hk h
  refine ⟨fun j hj => by rw [runS_1.1, runS_1.1]; exact h.1 j hj, fun j hj => by rw [runS_1.2, runS_1.2]; exact h.2.1 j hj, fun i' k' hi' hk' => ?_, fun j hj => ?_, by rw [runS_0, runS_0]; exact h.2.2.2.2.1, fun j hj => by rw [runS_0, runS_0]; exact h.2.2.2.2.2 j hj⟩
  · rw [runS_wt hi hk hc (by omega) (fun q => by have := hB' q; omega) i' k' hk', runS_wt hi hk hd (by omega) (fun q => by have := hB' q; omega) i' k' hk']
    have := h.2.2.1 i' k' hi' hk'
    split
    · exact ho.2
    · split <;> omega
  · rw [runS_rim hi hk hc (by omega) (by omega) j, runS_rim hi hk hd (by omega) (by omega) j]
    have := h.2.2.2.1 j hj
    have := h.2.2.2.1 k hk
    split <;> omega
theorem fallS_Le (hk : k < 8) (hc : GB c Bw Br) (hd : GB d Bw Br) (hBr : Br k ≤ 1000) (lc : LB c L) (ld : LB d L) (hL : L ≤ 2000000000) (h : LeC c d) : LeC (fall2 k (fall1 k c)) (fall2 k (fall1 k d)) := by
  have e4 := h.2.2.2.2.2 4 (by decide)
  have hr := h.2.2.2.1 k hk
  have ho : ob c k ≤ ob d k ∧ (c 4 k).toInt - ob c k ≤ (d 4 k).toInt - ob d k := by
    unfold ob
    rw [e4]
    split <;> split <;> omega
  refine ⟨fun j hj => by rw [fallS_123.1, fallS_123.1]; exact h.1 j hj, fun j hj => by rw [fallS_123.2.1, fallS_123.2.1]; exact h.2.1 j hj, fun i' k' hi' hk' => ?_, fun j hj => ?_, ?_, fun j hj => by rw [fallS_0 (by omega) (by omega), fallS_0 (by omega) (by omega)]; exact h.2.2.2.2.2 j hj⟩
  · unfold wt
    rw [fallS_123.2.2, fallS_123.2.2]
    exact h.2.2.1 i' k' hi' hk'
  · rw [fallS_rim hk hc j, fallS_rim hk hd j]
    have := h.2.2.2.1 j hj
    split <;> omega
  · rw [fallS_lost hk hc hBr lc hL, fallS_lost hk hd hBr ld hL]
    have := h.2.2.2.2.1
    omega
theorem mMelt_Le (hN : N ≤ 8) (hM : M ≤ 3) (hc : G20 c) (hd : G20 d) (h : LeC c d) : LeC (mMelt N t M c) (mMelt N t M d) := by
  have step : ∀ (i k : Nat) (c : CN), i < M → k < N → GB c (fun i' k' => if k' < N ∧ (i' < i ∨ (i' = i ∧ k' < k)) then 29 else 20) (fun _ => 20) → GB (melS N t i k c) (fun i' k' => if k' < N ∧ (i' < i ∨ (i' = i ∧ k' < k + 1)) then 29 else 20) (fun _ => 20) := by
    intro i k c hi hk p
    refine (melS_GB (i := i) (k := k) (N := N) (t := t) (by omega) (by omega) p (by split <;> omega)).mono (fun i' k' _ _ => ?_) (fun _ _ => Int.le_refl _)
    repeat' split
    all_goals omega
  have inner : ∀ (i : Nat) (c d : CN), i < M → (GB c (fun i' k' => if k' < N ∧ i' < i then 29 else 20) (fun _ => 20) ∧ GB d (fun i' k' => if k' < N ∧ i' < i then 29 else 20) (fun _ => 20) ∧ LeC c d) → (GB (up (fun k c => melS N t i k c) N 0 c) (fun i' k' => if k' < N ∧ i' < i + 1 then 29 else 20) (fun _ => 20) ∧ GB (up (fun k c => melS N t i k c) N 0 d) (fun i' k' => if k' < N ∧ i' < i + 1 then 29 else 20) (fun _ => 20) ∧ LeC (up (fun k c => melS N t i k c) N 0 c) (up (fun k c => melS N t i k c) N 0 d)) := by
    intro i c d hi ⟨hc, hd, hl⟩
    have ini : ∀ c : CN, GB c (fun i' k' => if k' < N ∧ i' < i then 29 else 20) (fun _ => 20) → GB c (fun i' k' => if k' < N ∧ (i' < i ∨ (i' = i ∧ k' < 0)) then 29 else 20) (fun _ => 20) := fun c hc => hc.mono (fun i' k' _ _ => by split <;> split <;> omega) (fun _ _ => Int.le_refl _)
    have fin : ∀ c : CN, GB c (fun i' k' => if k' < N ∧ (i' < i ∨ (i' = i ∧ k' < N)) then 29 else 20) (fun _ => 20) → GB c (fun i' k' => if k' < N ∧ i' < i + 1 then 29 else 20) (fun _ => 20) := fun c hc => hc.mono (fun i' k' _ _ => by split <;> split <;> omega) (fun _ _ => Int.le_refl _)
    have := up_pair (n := N) (P := fun k c d => GB c (fun i' k' => if k' < N ∧ (i' < i ∨ (i' = i ∧ k' < k)) then 29 else 20) (fun _ => 20) ∧ GB d (fun i' k' => if k' < N ∧ (i' < i ∨ (i' = i ∧ k' < k)) then 29 else 20) (fun _ => 20) ∧ LeC c d) (f := fun k c => melS N t i k c) (fun k c d hk p => ⟨step i k c hi hk p.1, step i k d hi hk p.2.1, melS_Le (by omega) (by omega) p.1 p.2.1 (by split <;> omega) p.2.2⟩) N 0 c d (by omega) ⟨ini c hc, ini d hd, hl⟩
    exact ⟨fin _ this.1, fin _ this.2.1, this.2.2⟩
  have ini : ∀ c : CN, G20 c → GB c (fun i' k' => if k' < N ∧ i' < 0 then 29 else 20) (fun _ => 20) := fun c hc => hc.mono (fun _ _ _ _ => by split <;> omega) (fun _ _ => Int.le_refl _)
  exact (up_pair (n := M) (P := fun i c d => GB c (fun i' k' => if k' < N ∧ i' < i then 29 else 20) (fun _ => 20) ∧ GB d (fun i' k' => if k' < N ∧ i' < i then 29 else 20) (fun _ => 20) ∧ LeC c d) (f := fun i c => up (fun k c => melS N t i k c) N 0 c) (fun i c d hi p => inner i c d hi p) M 0 c d (by omega) ⟨ini c hc, ini d hd, h⟩).2.2
theorem mRun_Le (hN : N ≤ 8) (hM : M ≤ 3) (hc : GB c (fun i k => if i < M ∧ k < N then 29 else 20) (fun _ => 20)) (hd : GB d (fun i k => if i < M ∧ k < N then 29 else 20) (fun _ => 20)) (h : LeC c d) : LeC (mRun N M c) (mRun N M d) := by
  have step : ∀ (i k : Nat) (c : CN), i < M → k < N → GB c (fun i' k' => if k' < k then bRun N M i i' k' else bRun N M (i + 1) i' k') (fun k' => if i = 0 ∧ k' < k then 110 else 20) → GB (runS i k c) (fun i' k' => if k' < k + 1 then bRun N M i i' k' else bRun N M (i + 1) i' k') (fun k' => if i = 0 ∧ k' < k + 1 then 110 else 20) := by
    intro i k c hi hk p
    have b1 : bRun N M (i + 1) i k ≤ 87 := by unfold bRun; repeat' split <;> omega
    refine (runS_GB (i := i) (k := k) (by omega) (by omega) p (by rw [if_neg (Nat.lt_irrefl k)]; omega) (fun _ => by rw [if_neg (Nat.lt_irrefl k)]; unfold bRun; (repeat' split) <;> omega) (by rw [if_neg (by omega)]; omega)).mono (fun i' k' _ _ => ?_) (fun k' _ => ?_)
    · unfold bRun
      repeat' split
      all_goals omega
    · rw [if_neg (show ¬ (i = 0 ∧ k < k) by omega), if_neg (Nat.lt_irrefl k)]
      repeat' split
      all_goals omega
  have inner : ∀ (i : Nat) (c d : CN), i < M → (GB c (bRun N M (i + 1)) (fun _ => 20) ∧ GB d (bRun N M (i + 1)) (fun _ => 20) ∧ LeC c d) → (GB (up (fun k c => runS i k c) N 0 c) (bRun N M i) (fun k => if i = 0 ∧ k < N then 110 else 20) ∧ GB (up (fun k c => runS i k c) N 0 d) (bRun N M i) (fun k => if i = 0 ∧ k < N then 110 else 20) ∧ LeC (up (fun k c => runS i k c) N 0 c) (up (fun k c => runS i k c) N 0 d)) := by
    intro i c d hi ⟨hc, hd, hl⟩
    have ini : ∀ c : CN, GB c (bRun N M (i + 1)) (fun _ => 20) → GB c (fun i' k' => if k' < 0 then bRun N M i i' k' else bRun N M (i + 1) i' k') (fun k' => if i = 0 ∧ k' < 0 then 110 else 20) := fun c hc => hc.mono (fun i' k' _ _ => by rw [if_neg (by omega)]; exact Int.le_refl _) (fun _ _ => by rw [if_neg (by omega)]; exact Int.le_refl _)
    have fin : ∀ c : CN, GB c (fun i' k' => if k' < N then bRun N M i i' k' else bRun N M (i + 1) i' k') (fun k' => if i = 0 ∧ k' < N then 110 else 20) → GB c (bRun N M i) (fun k => if i = 0 ∧ k < N then 110 else 20) := fun c hc => hc.mono (fun i' k' _ _ => by unfold bRun; repeat' split <;> omega) (fun _ _ => Int.le_refl _)
    have := up_pair (n := N) (P := fun k c d => GB c (fun i' k' => if k' < k then bRun N M i i' k' else bRun N M (i + 1) i' k') (fun k' => if i = 0 ∧ k' < k then 110 else 20) ∧ GB d (fun i' k' => if k' < k then bRun N M i i' k' else bRun N M (i + 1) i' k') (fun k' => if i = 0 ∧ k' < k then 110 else 20) ∧ LeC c d) (f := fun k c => runS i k c) (fun k c d hk p => ⟨step i k c hi hk p.1, step i k d hi hk p.2.1, ?_⟩) N 0 c d (by omega) ⟨ini c hc, ini d hd, hl⟩
    · exact ⟨fin _ this.1, fin _ this.2.1, this.2.2⟩
    · have b1 : bRun N M (i + 1) i k ≤ 87 := by unfold bRun; repeat' split <;> omega
      exact runS_Le (by omega) (by omega) p.1 p.2.1 (by rw [if_neg (Nat.lt_irrefl k)]; omega) (fun _ => by rw [if_neg (Nat.lt_irrefl k)]; unfold bRun; (repeat' split) <;> omega) (by rw [if_neg (by omega)]; omega) p.2.2
  have ini : ∀ c : CN, GB c (fun i k => if i < M ∧ k < N then 29 else 20) (fun _ => 20) → GB c (bRun N M M) (fun k => if M = 0 ∧ k < N then 110 else 20) := fun c hc => hc.mono (fun i' k' _ _ => by unfold bRun; repeat' split <;> omega) (fun k' _ => by split <;> omega)
  exact (dn_pair (P := fun i c d => GB c (bRun N M i) (fun k => if i = 0 ∧ k < N then 110 else 20) ∧ GB d (bRun N M i) (fun k => if i = 0 ∧ k < N then 110 else 20) ∧ LeC c d) (f := fun i c => up (fun k c => runS i k c) N 0 c) M c d (fun i c d hi p => inner i c d hi ⟨p.1.mono (fun _ _ _ _ => Int.le_refl _) (fun _ _ => by rw [if_neg (by omega)]; exact Int.le_refl _), p.2.1.mono (fun _ _ _ _ => Int.le_refl _) (fun _ _ => by rw [if_neg (by omega)]; exact Int.le_refl _), p.2.2⟩) ⟨ini c hc, ini d hd, h⟩).2.2
theorem fall_step (hk : k < 8) (p : GB d (fun _ _ => 20) (fun _ => 110)) (q : LB d L) (hL : L ≤ 1999999000) : GB (fall2 k (fall1 k d)) (fun _ _ => 20) (fun _ => 110) ∧ LB (fall2 k (fall1 k d)) (L + 110) := by
  have h4 : 0 ≤ (d 4 k).toInt ∧ (d 4 k).toInt ≤ 110 := p.2.2.2.1 k hk
  have hb : ob d k ≥ 0 ∧ ob d k ≤ 110 ∧ 0 ≤ (d 4 k).toInt - ob d k := by
    have h5 := p.2.2.2.2.2.1
    unfold ob
    split <;> omega
  refine ⟨⟨by rw [fallS_123.1]; exact p.1, by rw [fallS_123.2.1]; exact p.2.1, fun i' k' hi' hk' => by unfold wt; rw [fallS_123.2.2]; exact p.2.2.1 i' k' hi' hk', fun k' hk' => ?_, ?_⟩, fun j h7 h10 => ?_⟩
  · have h4' : 0 ≤ (d 4 k').toInt ∧ (d 4 k').toInt ≤ 110 := p.2.2.2.1 k' hk'
    rw [fallS_rim hk p k']
    dsimp only
    split <;> omega
  · rw [fallS_0 (j := 3) (by decide) (by decide), fallS_0 (j := 4) (by decide) (by decide), fallS_0 (j := 5) (by decide) (by decide), fallS_0 (j := 6) (by decide) (by decide)]
    exact p.2.2.2.2
  · have hj := q j h7 h10
    by_cases j8 : j = 8
    · rw [j8, fallS_lost hk p (by omega) q (by omega)]
      rw [j8] at hj
      omega
    · by_cases j10 : j = 10
      · have := fallS_soak (k := k) q (by omega)
        rw [j10] at hj ⊢
        omega
      · rw [fallS_0 j8 j10]
        omega
theorem mFall_Le (hN : N ≤ 8) (hc : GB c (fun _ _ => 20) (fun _ => 110)) (hd : GB d (fun _ _ => 20) (fun _ => 110)) (lc : LB c L) (ld : LB d L) (hL : L ≤ 1999990000) (h : LeC c d) : LeC (mFall N c) (mFall N d) := by
  unfold mFall
  have z : ∀ c : CN, LB c L → LB c (L + 110 * ((0 : Nat) : Int)) := fun c h => h.mono (by omega)
  exact (up_pair (n := N) (P := fun k c d => (GB c (fun _ _ => 20) (fun _ => 110) ∧ LB c (L + 110 * (k : Int))) ∧ (GB d (fun _ _ => 20) (fun _ => 110) ∧ LB d (L + 110 * (k : Int))) ∧ LeC c d) (f := fun k c => fall2 k (fall1 k c)) (fun k c d hk p => by
    have s1 := fall_step (k := k) (by omega) p.1.1 p.1.2 (by omega)
    have s2 := fall_step (k := k) (by omega) p.2.1.1 p.2.1.2 (by omega)
    exact ⟨⟨s1.1, s1.2.mono (by omega)⟩, ⟨s2.1, s2.2.mono (by omega)⟩, fallS_Le (by omega) p.1.1 p.2.1.1 (by omega) p.1.2 p.2.1.2 (by omega) p.2.2⟩) N 0 c d (by omega) ⟨⟨hc, z c lc⟩, ⟨hd, z d ld⟩, h⟩).2.2
theorem mPass_Le {L1 : Int} (hc : OK c N t M L1) (hd : OK d N t M L1) (hL : L1 ≤ 1999900000) (h : LeC c d) : LeC (mPass N t M 0 c) (mPass N t M 0 d) := by
  have hN := hc.1.n8
  have hM := hc.1.m3
  have e : ∀ c : CN, mPass N t M 0 c = upd2 (mTick N t M c) 0 7 (mTick N t M c 0 7 + 1) := fun c => by
    unfold mPass
    rw [newT_0]
    rfl
  have h1 := mMelt_Le (t := t) hN hM hc.2.1 hd.2.1 h
  have g1 := mMelt_GB (t := t) hN hM hc.2.1
  have g2 := mMelt_GB (t := t) hN hM hd.2.1
  have h2 := mRun_Le hN hM g1 g2 h1
  have h3 := mFall_Le hN (mRun_GB hN hM g1) (mRun_GB hN hM g2) (hc.2.2.1.of (d := mRun N M (mMelt N t M c)) (mRun_keep.trans mMelt_keep) (Int.le_refl _)) (hd.2.2.1.of (d := mRun N M (mMelt N t M d)) (mRun_keep.trans mMelt_keep) (Int.le_refl _)) (by omega) h2
  rw [e, e]
  refine ⟨h3.1, h3.2.1, h3.2.2.1, h3.2.2.2.1, ?_, fun j hj => ?_⟩
  · rw [upd2_same, upd2_same, if_neg (by decide), if_neg (by decide)]
    exact h3.2.2.2.2.1
  · rw [upd2_same, upd2_same, if_neg (by omega), if_neg (by omega)]
    exact h3.2.2.2.2.2 j hj
theorem idle_Le : ∀ (m : Nat) (c d : CN) (L1 : Int), OK c N t M L1 → OK d N t M L1 → L1 + 1000 * m ≤ 1999000000 → LeC c d → LeC (idle N t M m c) (idle N t M m d)
  | 0, _, _, _ => fun _ _ _ h => h
  | m + 1, c, d, L1 => fun hc hd hL h => by
    have h1 := hc.pass (a := 0) (by omega) canA_0
    have h2 := hd.pass (a := 0) (by omega) canA_0
    rw [newT_0] at h1 h2
    exact idle_Le m _ _ (L1 + 1000) h1 h2 (by omega) (mPass_Le hc hd (by omega) h)
/-- a greater scoop on top -/
theorem mTop_Le {s a b : Nat} (hM : M < 3) (hab : a ≤ b) (hb : b ≤ 99) : LeC (mTop M (i32 s) (i32 a) c) (mTop M (i32 s) (i32 b) c) := by
  have hp : ∀ (x : Nat) (p : Nat), p ≠ 0 → p ≠ 3 → mTop M (i32 s) (i32 x) c p = upd2 (upd2 c 1 M (i32 s)) 2 M (i32 x) p := fun x p h0 h3 => by
    unfold mTop
    rw [upd2_ne h0, zeroW_p h3]
  have h00 : ∀ (x j : Nat), j ≠ 11 → mTop M (i32 s) (i32 x) c 0 j = c 0 j := fun x j hj => by
    unfold mTop
    rw [upd2_same, if_neg hj, zeroW_p (by decide)]
    rfl
  have h3 : ∀ (m k : Nat) (u v : CN), u 3 = v 3 → up (fun k d => upd2 d 3 (8 * M + k) 0) m k u 3 = up (fun k d => upd2 d 3 (8 * M + k) 0) m k v 3 := by
    intro m
    induction m with
    | zero => intro k u v e; exact e
    | succ m ih =>
      intro k u v e
      refine ih (k + 1) _ _ ?_
      funext j
      dsimp only
      rw [upd2_same, upd2_same, e]
  refine ⟨fun i hi => ?_, fun i hi => ?_, fun i k hi hk => ?_, fun k hk => ?_, ?_, fun j hj => ?_⟩
  · rw [hp a 1 (by decide) (by decide), hp b 1 (by decide) (by decide)]; rfl
  · rw [hp a 2 (by decide) (by decide), hp b 2 (by decide) (by decide), upd2_same, upd2_same]
    split
    · rw [i32_toInt (by unfold B31; omega), i32_toInt (by unfold B31; omega)]; omega
    · exact Int.le_refl _
  · unfold wt mTop
    rw [upd2_ne (by decide), upd2_ne (by decide)]
    unfold zeroW
    rw [h3 8 0 _ (upd2 (upd2 c 1 M (i32 s)) 2 M (i32 b)) rfl]
    exact Int.le_refl _
  · rw [hp a 4 (by decide) (by decide), hp b 4 (by decide) (by decide), upd2_ne (by decide), upd2_ne (by decide)]
    exact Int.le_refl _
  · rw [h00 a 8 (by decide), h00 b 8 (by decide)]
    exact Int.le_refl _
  · rw [h00 a j (by omega), h00 b j (by omega)]
end MONO
