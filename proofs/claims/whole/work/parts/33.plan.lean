/-! PURE MATHEMATICS, 15: the best plan, told once for both. -/
abbrev PV : Type := Int32 × Int32 × List Nat
/-- less lost; of as much, more eaten -/
abbrev btr (x y : PV) : Prop := x.1.toInt < y.1.toInt ∨ (x.1.toInt = y.1.toInt ∧ y.2.1.toInt < x.2.1.toInt)
theorem btr_iff {x y : PV} : btr x y ↔ (x.1 < y.1 ∨ (x.1 = y.1 ∧ y.2.1 < x.2.1)) := by
  unfold btr
  rw [Int32.lt_iff_toInt_lt, Int32.lt_iff_toInt_lt, Int32.toInt_inj]
def imp (y x : PV) : PV := if btr x y then x else y
abbrev canB (M a : Nat) : Prop := a ≤ M ∨ 4 ≤ a
def plF (cand : Nat → PV) (M : Nat) : Nat → Nat → PV → PV
  | 0, _, y => y
  | m + 1, a, y => plF cand M m (a + 1) (if canB M a then imp y (cand a) else y)
def PL (N M : Nat) : Nat → Nat → CN → PV
  | 0, _, c => (c 0 8, c 0 9, [])
  | k + 1, t, c => plF (fun a => ((PL N M k (newT N t a) (mPass N t M a c)).1, (PL N M k (newT N t a) (mPass N t M a c)).2.1, a :: (PL N M k (newT N t a) (mPass N t M a c)).2.2)) M 6 1 ((PL N M k (newT N t 0) (mPass N t M 0 c)).1, (PL N M k (newT N t 0) (mPass N t M 0 c)).2.1, 0 :: (PL N M k (newT N t 0) (mPass N t M 0 c)).2.2)
def cnd (N M k t : Nat) (c : CN) (a : Nat) : PV := ((PL N M k (newT N t a) (mPass N t M a c)).1, (PL N M k (newT N t a) (mPass N t M a c)).2.1, a :: (PL N M k (newT N t a) (mPass N t M a c)).2.2)
theorem PL_s {N M k t : Nat} {c : CN} : PL N M (k + 1) t c = plF (cnd N M k t c) M 6 1 (cnd N M k t c 0) := rfl
section PLAN
variable {c : CN} {N t M a : Nat} {L : Int}
theorem imp_t {x y : PV} (h : btr x y) : imp y x = x := by unfold imp; rw [if_pos h]
theorem imp_f {x y : PV} (h : ¬ btr x y) : imp y x = y := by unfold imp; rw [if_neg h]
theorem ob_nn {k : Nat} : 0 ≤ ob c k := by unfold ob; split <;> omega
theorem mFall_lost (hN : N ≤ 8) (h : GB c (fun _ _ => 20) (fun _ => 110)) (hl : LB c L) (hL : L ≤ 1999990000) : (c 0 8).toInt ≤ (mFall N c 0 8).toInt := by
  unfold mFall
  have := up_idx (n := N) (P := fun k d => (GB d (fun _ _ => 20) (fun k' => 110) ∧ LB d (L + 110 * (k : Int))) ∧ (c 0 8).toInt ≤ (d 0 8).toInt) (f := fun k c => fall2 k (fall1 k c)) (fun k d hk p => ?_) N 0 c (by omega) ⟨⟨h, fun j h7 h10 => by have := hl j h7 h10; omega⟩, Int.le_refl _⟩
  · exact this.2
  · obtain ⟨⟨p, q⟩, r⟩ := p
    have hk8 : k < 8 := by omega
    have hb : ob d k ≥ 0 ∧ ob d k ≤ 110 ∧ 0 ≤ (d 4 k).toInt - ob d k := by
      have h4 : 0 ≤ (d 4 k).toInt ∧ (d 4 k).toInt ≤ 110 := p.2.2.2.1 k hk8
      have h5 := p.2.2.2.2.2.1
      unfold ob
      split <;> omega
    have e8 := fallS_lost hk8 p (by omega) q (by omega)
    refine ⟨⟨⟨by rw [fallS_123.1]; exact p.1, by rw [fallS_123.2.1]; exact p.2.1, fun i' k' hi' hk' => by unfold wt; rw [fallS_123.2.2]; exact p.2.2.1 i' k' hi' hk', fun k' hk' => ?_, ?_⟩, fun j h7 h10 => ?_⟩, by rw [e8]; omega⟩
    · have h4 : 0 ≤ (d 4 k').toInt ∧ (d 4 k').toInt ≤ 110 := p.2.2.2.1 k' hk'
      have h4' : 0 ≤ (d 4 k).toInt ∧ (d 4 k).toInt ≤ 110 := p.2.2.2.1 k hk8
      rw [fallS_rim hk8 p k']
      dsimp only
      split <;> omega
    · rw [fallS_0 (j := 3) (by decide) (by decide), fallS_0 (j := 4) (by decide) (by decide), fallS_0 (j := 5) (by decide) (by decide), fallS_0 (j := 6) (by decide) (by decide)]
      exact p.2.2.2.2
    · have hj := q j h7 h10
      by_cases j8 : j = 8
      · rw [j8, e8]
        rw [j8] at hj
        omega
      · by_cases j10 : j = 10
        · have := fallS_soak (k := k) q (by omega)
          rw [j10] at hj ⊢
          omega
        · rw [fallS_0 j8 j10]
          omega
theorem mPass_lost (H : Hd c N t M) (hc : canA M a) (h : G20 c) (hl : LB c L) (hL : L ≤ 1999980000) : (c 0 8).toInt ≤ (mPass N t M a c 0 8).toInt := by
  have hN := H.n8
  have hM := H.m3
  have h1 := mAct_G20 (N := N) (t := t) hc hM H.t8 h hl (by omega)
  have h2 := mRun_GB hN hM (mMelt_GB (t := newT N t a) hN hM h1.1)
  have h3 := mFall_lost hN h2 (h1.2.of (d := mRun N M (mMelt N (newT N t a) M (mAct N t a c))) (mRun_keep.trans mMelt_keep) (Int.le_refl _)) (by omega)
  have e1 : mRun N M (mMelt N (newT N t a) M (mAct N t a c)) 0 8 = c 0 8 := by rw [mRun_keep, mMelt_keep, mAct_5.2]
  rw [e1] at h3
  have e2 : mPass N t M a c 0 8 = mFall N (mRun N M (mMelt N (newT N t a) M (mAct N t a c))) 0 8 := by
    unfold mPass
    rw [upd2_same, if_neg (by decide)]
    rfl
  rw [e2]
  exact h3
/-- all that a thought wants to know of a cone -/
def OK (c : CN) (N t M : Nat) (L : Int) : Prop := Hd c N t M ∧ G20 c ∧ LB c L ∧ L ≤ 1999000000
theorem OK.pass (h : OK c N t M L) (hL : L + 1000 ≤ 1999000000) (hc : canA M a) : OK (mPass N t M a c) N (newT N t a) M (L + 1000) := by
  have := mPass_G20 h.1 hc h.2.1 h.2.2.1 (by have := h.2.2.2; omega)
  exact ⟨this.2.2, this.1, this.2.1, hL⟩
theorem OK.lost (h : OK c N t M L) (hc : canA M a) : (c 0 8).toInt ≤ (mPass N t M a c 0 8).toInt := mPass_lost h.1 hc h.2.1 h.2.2.1 (by have := h.2.2.2; omega)
theorem OK.eat (h : OK c N t M L) : 0 ≤ c 0 5 := Int32.le_iff_toInt_le.mpr (Int.le_trans (by decide) h.2.1.2.2.2.2.2.2.1.1)
theorem canA_0 : canA M 0 := ⟨by decide, fun h => by omega⟩
theorem canA_of (ha : a ≤ 6) (h : canB M a) : canA M a := ⟨ha, fun h1 h4 => by rcases h with h | h <;> omega⟩
theorem plF_inv {cand : Nat → PV} {P : PV → Prop} (h : ∀ a : Nat, a ≤ 6 → canB M a → P (cand a)) : ∀ (m a : Nat) (y : PV), a + m ≤ 7 → P y → P (plF cand M m a y)
  | 0, _, _, _, p => p
  | m + 1, a, y, hm, p => by
    refine plF_inv h m (a + 1) _ (by omega) ?_
    by_cases z : canB M a
    · rw [if_pos z]
      by_cases q : btr (cand a) y
      · rw [imp_t q]; exact h a (by omega) z
      · rw [imp_f q]; exact p
    · rw [if_neg z]; exact p
theorem PL_B : ∀ (k t : Nat) (c : CN) (L : Int), OK c N t M L → L + 1000 * k ≤ 1999000000 → (c 0 8).toInt ≤ (PL N M k t c).1.toInt ∧ (PL N M k t c).1.toInt ≤ L + 1000 * k ∧ 0 ≤ (PL N M k t c).2.1.toInt
  | 0, t, c, L => fun h hL => by
    have h8 := h.2.2.1 8 (by decide) (by decide)
    have h9 := h.2.2.1 9 (by decide) (by decide)
    exact ⟨Int.le_refl _, by show (c 0 8).toInt ≤ _; omega, h9.1⟩
  | k + 1, t, c, L => fun h hL => by
    have key : ∀ a : Nat, a ≤ 6 → canB M a → (c 0 8).toInt ≤ (cnd N M k t c a).1.toInt ∧ (cnd N M k t c a).1.toInt ≤ L + 1000 * (k + 1 : Nat) ∧ 0 ≤ (cnd N M k t c a).2.1.toInt := by
      intro a ha hb
      have hc := canA_of ha hb
      have h1 := PL_B k (newT N t a) (mPass N t M a c) (L + 1000) (h.pass (by omega) hc) (by omega)
      have h2 := h.lost hc
      unfold cnd
      dsimp only
      omega
    rw [PL_s]
    exact plF_inv (P := fun y => (c 0 8).toInt ≤ y.1.toInt ∧ y.1.toInt ≤ L + 1000 * (k + 1 : Nat) ∧ 0 ≤ y.2.1.toInt) key 6 1 _ (by decide) (key 0 (by decide) (Or.inl (Nat.zero_le _)))
/-- an idle lick comes to act 0 -/
theorem mPass_idle (h : idl c M t a) (ha : canA M a) (hl : 0 ≤ c 0 5) : mPass N t M a c = mPass N t M 0 c ∧ newT N t a = t := by
  have e1 : a < 5 := by
    rcases h with h | h | h <;> omega
  have e2 : newT N t a = t := by unfold newT; rw [if_neg (by omega), if_neg (by omega)]
  have e3 : newT N t 0 = t := by unfold newT; rw [if_neg (by omega), if_neg (by omega)]
  refine ⟨?_, e2⟩
  unfold mPass
  rw [e2, e3, mAct_idle h ha hl]
  rfl
end PLAN
