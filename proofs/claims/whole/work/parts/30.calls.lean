/-! PURE MATHEMATICS, 12: calls over lenses; the class's world. -/
def atL (A : Nat) (φ : Nat → Nat → Option (Nat × Nat)) (k j : Nat) : Option (Nat × Nat) := if A ≤ k then φ (k - A) j else none
theorem atL_ok {A : Nat} {φ : Nat → Nat → Option (Nat × Nat)} (H : LensOK φ) : LensOK (atL A φ) := by
  intro k j k' j' q h h'
  unfold atL at h h'
  split at h
  · split at h'
    · have := H _ _ _ _ _ h h'
      exact ⟨by omega, this.2⟩
    · cases h'
  · cases h
theorem φC_5 (k j : Nat) (h : 5 ≤ k) : φC k j = none := by
  unfold φC szC
  rw [if_neg (show ¬ k = 0 by omega), if_neg (show ¬ k = 1 by omega), if_neg (show ¬ k = 2 by omega), if_neg (show ¬ k = 3 by omega), if_neg (show ¬ k = 4 by omega), if_neg (Nat.not_lt_zero _)]
theorem φW_9 (k j : Nat) (h : 9 ≤ k) : φW k j = none := by
  unfold φW
  rw [if_neg (show ¬ k = 0 by omega), if_neg (show ¬ k ≤ 5 by omega), if_neg (show ¬ k = 6 by omega), if_neg (show ¬ k = 7 by omega), if_neg (show ¬ k = 8 by omega)]
section CALLS
variable {φ : Nat → Nat → Option (Nat × Nat)} {A B n : Nat} {c d u v : CN} {w : Nat → Nat → Int64}
theorem atL_at (k j : Nat) : atL A φ (A + k) j = φ k j := by
  unfold atL
  rw [if_pos (Nat.le_add_right A k), Nat.add_sub_cancel_left]
theorem atL_off (h : ∀ k j : Nat, n ≤ k → φ k j = none) (k j : Nat) (hk : k < A ∨ A + n ≤ k) : atL A φ k j = none := by
  unfold atL
  split
  · exact h _ _ (by omega)
  · rfl
theorem injA : injN (fun k => A + k) n := fun i j _ _ e => by dsimp only at e; omega
theorem injAB (h : A + n ≤ B ∨ B + n ≤ A) : injN (fun k => if k < n then A + k else B + (k - n)) (n + n) := fun i j hi hj e => by
  dsimp only at e
  split at e <;> split at e <;> omega
theorem mrg_atL (h : ∀ k j : Nat, n ≤ k → φ k j = none) : mrgS (fun k => A + k) n (v, w) (put φ c (fun k => v (A + k)), fun k => w (A + k)) = (put (atL A φ) c v, w) := by
  unfold mrgS
  refine Prod.ext ?_ (mrg_id injA)
  funext x
  rcases mrg_cases (pl := fun k => A + k) n x with ⟨k, hk, rfl⟩ | hx
  · dsimp only
    refine (mrg_at (pl := fun k => A + k) injA hk).trans ?_
    funext j
    unfold put
    rw [atL_at]
  · dsimp only
    refine (mrg_off hx).trans ?_
    funext j
    refine (put_off (atL_off h x j ?_)).symm
    by_cases z : x < A
    · exact Or.inl z
    · refine Or.inr (Nat.not_lt.mp (fun y => hx (x - A) (by omega) (by show x = A + (x - A); omega)))
theorem mrg_atL2 (h : ∀ k j : Nat, n ≤ k → φ k j = none) (hd : A + n ≤ B ∨ B + n ≤ A) : mrgS (fun k => if k < n then A + k else B + (k - n)) (n + n) (v, w) (put φ c (fun k => v (if k < n then A + k else B + (k - n))), fun k => w (if k < n then A + k else B + (k - n))) = (put (atL A φ) c v, w) := by
  unfold mrgS
  refine Prod.ext ?_ (mrg_id (injAB hd))
  funext x
  rcases mrg_cases (pl := fun k => if k < n then A + k else B + (k - n)) (n + n) x with ⟨k, hk, e⟩ | hx
  · dsimp only at e ⊢
    subst e
    refine (mrg_at (pl := fun k => if k < n then A + k else B + (k - n)) (injAB hd) hk).trans ?_
    funext j
    by_cases z : k < n
    · unfold put
      rw [if_pos z, atL_at]
      dsimp only
      rw [if_pos z]
    · rw [if_neg z, put_off (h k j (by omega)), put_off (atL_off h _ j (by omega)), if_neg z]
  · dsimp only
    refine (mrg_off hx).trans ?_
    funext j
    refine (put_off (atL_off h x j ?_)).symm
    by_cases z : x < A
    · exact Or.inl z
    · refine Or.inr (Nat.not_lt.mp (fun y => hx (x - A) (by omega) (by show x = if x - A < n then A + (x - A) else _; rw [if_pos (by omega)]; omega)))
theorem Hold.at (h : Hold (atL A φ) c v) : Hold φ c (fun k => v (A + k)) := fun k j a b e => h (A + k) j a b (by rw [atL_at]; exact e)
theorem Hold.of_at (h : Hold φ c (fun k => v (A + k))) : Hold (atL A φ) c v := fun k j a b e => by
  unfold atL at e
  split at e
  · have := h (k - A) j a b e
    dsimp only at this
    rw [show A + (k - A) = k by omega] at this
    exact this
  · cases e
theorem sel_at (h : Hold (atL A φ) c v) : selS (fun k => A + k) (v, w) = (put φ c (fun k => v (A + k)), fun k => w (A + k)) := by
  unfold selS
  exact Prod.ext h.at.eq.symm rfl
/-- where the second of two is held -/
theorem Hold.at2 (h : Hold (atL B φ) c v) : Hold φ c (fun k => (fun k => v (if k < n then A + k else B + (k - n))) (n + k)) := fun k j a b e => by
  dsimp only
  rw [if_neg (by omega), show B + (n + k - n) = B + k by omega]
  exact h (B + k) j a b (by rw [atL_at]; exact e)
theorem Hold.put_ne {φ' : Nat → Nat → Option (Nat × Nat)} (h : Hold φ c v) (hd : ∀ k j : Nat, φ k j ≠ none → φ' k j = none) : Hold φ c (put φ' d v) := fun k j a b e => by
  rw [put_off (hd k j (by rw [e]; exact Option.some_ne_none _))]
  exact h k j a b e
/-- thought.takeFrom(truth) and its like -/
theorem okM_take (hd : A + 5 ≤ B ∨ B + 5 ≤ A) (h : Hold (atL B φC) c v) : fX0_takeFrom (selS (fun k => if k < 5 then A + k else B + (k - 5)) (v, w)) = some ((), (put φC c (fun k => v (if k < 5 then A + k else B + (k - 5))), fun k => w (if k < 5 then A + k else B + (k - 5)))) :=
  okC_takeFrom (v := fun k => v (if k < 5 then A + k else B + (k - 5))) (h.at2 (n := 5))
theorem mrg_take (hd : A + 5 ≤ B ∨ B + 5 ≤ A) : mrgS (fun k => if k < 5 then A + k else B + (k - 5)) 10 (v, w) (put φC c (fun k => v (if k < 5 then A + k else B + (k - 5))), fun k => w (if k < 5 then A + k else B + (k - 5))) = (put (atL A φC) c v, w) := mrg_atL2 (n := 5) φC_5 hd
theorem mrg_C : mrgS (fun k => A + k) 5 (v, w) (put φC c (fun k => v (A + k)), fun k => w (A + k)) = (put (atL A φC) c v, w) := mrg_atL φC_5
theorem mrg_W : mrgS (fun k => A + k) 9 (v, w) (put φW c (fun k => v (A + k)), fun k => w (A + k)) = (put (atL A φW) c v, w) := mrg_atL φW_9
end CALLS
section PLACES
variable {c : CN} {N t M i k a p : Nat}
theorem melS_p (h2 : p ≠ 2) (h3 : p ≠ 3) : melS N t i k c p = c p := by unfold melS; rw [upd2_ne h3, upd2_ne h2]
theorem runS_p (h3 : p ≠ 3) (h4 : p ≠ 4) : runS i k c p = c p := by
  unfold runS
  repeat' split
  · rw [upd2_ne h4, upd2_ne h3]
  · rw [upd2_ne h3, upd2_ne h3]
  · rfl
theorem fallS_p (h0 : p ≠ 0) (h4 : p ≠ 4) : fall2 k (fall1 k c) p = c p := by
  have e1 : fall1 k c p = c p := by unfold fall1; split; rfl; rw [upd2_ne h4, upd2_ne h0]
  unfold fall2
  split
  · exact e1
  · rw [upd2_ne h0]; exact e1
theorem mAct_p (h : 5 ≤ p) : mAct N t a c p = c p := by
  unfold mAct eatS eatR
  repeat' split
  · rfl
  · rw [upd2_ne (by omega), upd2_ne (by omega)]
  · rw [upd2_ne (by omega), upd2_ne (by omega)]
  · rw [upd2_ne (by omega)]
theorem mTick_p (h : 5 ≤ p) : mTick N t M c p = c p := by
  have e1 : mMelt N t M c p = c p := by
    unfold mMelt
    exact up_inv (P := fun d => d p = c p) (fun i d q => up_inv (P := fun d => d p = c p) (fun k d q => (melS_p (by omega) (by omega)).trans q) N 0 d q) M 0 c rfl
  have e2 : mRun N M (mMelt N t M c) p = c p := by
    unfold mRun
    exact dn_invR (n := M) (P := fun d => d p = c p) (fun i d _ q => up_inv (P := fun d => d p = c p) (fun k d q => (runS_p (by omega) (by omega)).trans q) N 0 d q) M _ (Nat.le_refl _) e1
  unfold mTick mFall
  exact up_inv (P := fun d => d p = c p) (fun k d q => (fallS_p (by omega) (by omega)).trans q) N 0 _ e2
theorem mPass_p (h : 5 ≤ p) : mPass N t M a c p = c p := by
  unfold mPass
  rw [upd2_ne (by omega), mTick_p h, mAct_p h]
end PLACES
section WORLD
variable {c u v : CN} {w : Nat → Nat → Int64} {N t M a : Nat} {x y : Int32}
theorem fW_cone {k j : Nat} (h : k < 5) : φW (1 + k) j = φC k j := by
  unfold φW φC
  rw [if_neg (by omega), if_pos (by omega), show 1 + k - 1 = k by omega]
theorem hold_WC : Hold (atL 1 φC) c (put φW c u) := by
  refine Hold.of_at (fun k j a b e => ?_)
  have hk : k < 5 := Nat.not_le.mp (fun z => by rw [φC_5 k j z] at e; cases e)
  exact put_at (by rw [fW_cone hk]; exact e)
theorem put_WC {d : CN} (h : ∀ p : Nat, 5 ≤ p → d p = c p) : put (atL 1 φC) d (put φW c u) = put φW d u := by
  funext k j
  by_cases hk : 1 ≤ k ∧ k < 6
  · have e : atL 1 φC k j = φW k j := by
      have := fW_cone (k := k - 1) (j := j) (by omega)
      rw [show 1 + (k - 1) = k by omega] at this
      rw [this]
      unfold atL
      rw [if_pos hk.1]
    cases q : φW k j with
    | none => rw [put_off (e.trans q), put_off q, put_off q]
    | some z => rw [put_at (a := z.1) (b := z.2) (e.trans q), put_at (a := z.1) (b := z.2) q]
  · have e : atL 1 φC k j = none := atL_off φC_5 k j (by omega)
    rw [put_off e]
    cases q : φW k j with
    | none => rw [put_off q, put_off q]
    | some z =>
      rw [put_at (a := z.1) (b := z.2) q, put_at (a := z.1) (b := z.2) q, h z.1 ?_]
      have := ψW_of k j z q
      unfold ψW at this
      split at this
      · have e1 := congrArg Prod.fst this
        dsimp only at e1
        omega
      · omega
theorem rW {k j a b : Nat} (h : φW k j = some (a, b)) : put φW c u k j = c a b := put_at h
theorem wW {k j a b : Nat} (h : φW k j = some (a, b)) : wrI (put φW c u, w) k j x = (put φW (upd2 c a b x) u, w) := wrI_put φW_ok h
/-- the world's part of a second in truth -/
theorem okW_act (H : Hd c N t M) (hs : Nn c) (hl : 0 ≤ c 0 5) (ha : canA M a) (hD : ∃ D : Nat, D ≤ 20 ∧ c 5 5 = i32 D) : fX4_actInTruth (i32 a) (put φW c u, w) = some ((), (put φW (mTruth N t M a c) u, w)) := by
  obtain ⟨D, hD, eD⟩ := hD
  have f8 : ∀ d : CN, put φW d u 1 8 = d 0 8 := fun d => rW rfl
  have f7 : ∀ d : CN, put φW d u 1 7 = d 0 7 := fun d => rW rfl
  have f5 : ∀ d : CN, put φW d u 0 5 = d 5 5 := fun d => rW rfl
  have e5 : mPass N t M a c 5 = c 5 := mPass_p (Nat.le_refl 5)
  have e05 : φW 0 5 = some (5, 5) := rfl
  unfold fX4_actInTruth fX4_actInTruth_0
  rw [sel_at hold_WC, okC_pass H hs hl ha]
  simp only [obind, mrg_C, put_WC (c := c) (u := u) (fun p hp => mPass_p (N := N) (t := t) (M := M) (a := a) (c := c) hp), f8, f7, f5, e5, eD]
  unfold mTruth
  by_cases z : mPass N t M a c 0 8 ≤ c 0 8
  · rw [if_pos z, if_pos z]
  · rw [if_neg z, if_neg z, e5, eD]
    by_cases y : (20 : Int32) ≤ i32 D
    · rw [if_pos y, if_pos y]
    · have hD' : D < 20 := Nat.not_le.mp (fun q => y ((l_le (n := 20) (by unfold B31; omega) (by decide)).mpr q))
      have e8 : φW 8 D = some (8, D) := by
        unfold φW
        rw [if_neg (by decide), if_neg (by decide), if_neg (by decide), if_neg (by decide), if_pos rfl, if_pos hD']
      rw [if_neg y, if_neg y, if_pos (gix hD' (by decide)), gnat (by omega), wW e8, wW e05]
end WORLD
