/-! PURE MATHEMATICS, 21: what a licker would do, by both. -/
/-- a world's other numbers -/
def WI (c : CN) : Prop := (∃ n : Nat, n ≤ 4 ∧ c 5 3 = i32 n) ∧ (∃ D : Nat, D ≤ 20 ∧ c 5 5 = i32 D) ∧ ∀ l : Nat, l < 4 → (∃ K : Nat, K ≤ 5 ∧ c 6 l = i32 K) ∧ ∃ A : Nat, A ≤ 9 ∧ c 7 l = i32 A
def wouldL (N t M l : Nat) (c : CN) : Nat := mWould N t M (c 6 l).toNatClampNeg (c 7 l).toNatClampNeg c
/-- a plan in thought can be made at p -/
def okPP (p : List Nat) : Prop := okP 1 p ∧ okP 2 p ∧ okP 3 p
theorem okPP_main : okPP [] := ⟨⟨by decide, trivial⟩, ⟨by decide, by decide, trivial⟩, ⟨by decide, by decide, by decide, trivial⟩⟩
theorem okPP_tried : okPP [9] := ⟨⟨by decide, trivial⟩, ⟨by decide, by decide, trivial⟩, ⟨by decide, by decide, by decide, trivial⟩⟩
section WOULD
variable {c d : CN} {N t M l : Nat} {L : Int} {p : List Nat}
theorem okR_would {T : TF} (hp : okPP p) (hT : Hold φR c (T.2 p).1) (h : OK c N t M L) (hL : L + 4000 ≤ 1999000000) (hW : WI c) (hl : l < 4) : ∃ T' : TF, fX6_wouldBe p (i32 l) T = some (i32 (wouldL N t M l c), T') ∧ FrP p T T' := by
  obtain ⟨⟨K, hK, eK⟩, ⟨A, hA, eA⟩⟩ := hW.2.2 l hl
  have eKn : (c 6 l).toNatClampNeg = K := by rw [eK]; exact gnat (by omega)
  have eAn : (c 7 l).toNatClampNeg = A := by rw [eA]; exact gnat (by omega)
  have hM := h.1.m3
  have e10 : (T.2 p).1 0 10 = i32 M := (hT 0 10 0 11 rfl).trans h.1.2.2.1
  have e18 : (T.2 p).1 0 18 = c 0 7 := hT 0 18 0 7 rfl
  have e25 : (T.2 p).1 25 l = i32 K := (hT 25 l 6 l (fR_kind hl)).trans eK
  have e26 : (T.2 p).1 26 l = i32 A := (hT 26 l 7 l (fR_by hl)).trans eA
  have g1 : fX6_roundAct (T.2 p) = some (i32 (mRound t M c), T.2 p) := by
    have := okR_round (u := (T.2 p).1) (w := (T.2 p).2) h.1 h.2.1
    rw [← hT.mk] at this
    exact this
  have g2 : fX6_wettestAct (T.2 p) = some (i32 (aWet N t M c), T.2 p) := by
    have := okR_wettestAct (u := (T.2 p).1) (w := (T.2 p).2) h.1
    rw [← hT.mk] at this
    exact this
  have g3 : fX6_lowestAct (T.2 p) = some (i32 (aLow N t M c), T.2 p) := by
    have := okR_lowestAct (u := (T.2 p).1) (w := (T.2 p).2) h.1 h.2.1
    rw [← hT.mk] at this
    exact this
  unfold fX6_wouldBe fX6_wouldBe_0 wouldL mWould
  rw [eKn, eAn]
  simp only [e10, e18, if_pos (gix hl (by decide)), gnat (show l ≤ 1000 by omega), e25, e26]
  by_cases z : M = 0
  · rw [if_pos z, if_pos (by rw [z]; rfl)]
    exact ⟨T, rfl, FrP.rf⟩
  · rw [if_neg z, if_neg (ne_l (n := 0) (by unfold B31; omega) (by decide) z)]
    by_cases k1 : K = 1
    · subst k1
      rw [if_pos (show i32 1 = 1 from rfl), if_pos rfl, g1, obind]
      dsimp only
      rw [wrT_id]
      exact ⟨T, rfl, FrP.rf⟩
    · rw [if_neg (ne_l (n := 1) (by unfold B31; omega) (by decide) k1), if_neg k1]
      by_cases k2 : K = 2
      · subst k2
        rw [if_pos (show i32 2 = 2 from rfl), if_pos rfl, g2, obind]
        dsimp only
        rw [wrT_id]
        exact ⟨T, rfl, FrP.rf⟩
      · rw [if_neg (ne_l (n := 2) (by unfold B31; omega) (by decide) k2), if_neg k2]
        by_cases k3 : K = 3
        · subst k3
          rw [if_pos (show i32 3 = 3 from rfl), if_pos rfl, g3, obind]
          dsimp only
          rw [wrT_id]
          exact ⟨T, rfl, FrP.rf⟩
        · rw [if_neg (ne_l (n := 3) (by unfold B31; omega) (by decide) k3), if_neg k3]
          by_cases k4 : K = 4
          · subst k4
            have na : ¬ (i32 A + (2 : Int32)) = 0 := by
              rw [show (2 : Int32) = i32 2 from rfl, i32_add]
              exact ne_l (n := 0) (by unfold B31; omega) (by decide) (by omega)
            rw [if_pos (show i32 4 = 4 from rfl), if_pos rfl, if_pos na, g1, obind]
            dsimp only
            rw [wrT_id]
            refine ⟨T, ?_, FrP.rf⟩
            split <;> rfl
          · rw [if_neg (ne_l (n := 4) (by unfold B31; omega) (by decide) k4), if_neg k4]
            by_cases k5 : K = 5
            · subst k5
              have er : (i32 A - i32 A / (3 : Int32) * (3 : Int32)) + (1 : Int32) = i32 (A % 3 + 1) := by
                rw [show (3 : Int32) = i32 3 from rfl, i32_rem (by unfold B31; omega) (by decide) (by decide), i32_succ]
              have hp' : okP (A % 3 + 1) p := by
                have h3 : A % 3 < 3 := by omega
                have := hp
                have h4 : A % 3 = 0 ∨ A % 3 = 1 ∨ A % 3 = 2 := by omega
                rcases h4 with e | e | e <;> rw [e]
                · exact this.1
                · exact this.2.1
                · exact this.2.2
              obtain ⟨T', q1, q2, q3⟩ := planR_ok (N := N) (M := M) (A % 3 + 1) 5 p (by omega) (by omega) hp' T c t L hT h (by omega) hW.2.1
              rw [if_pos (show i32 5 = 5 from rfl), if_pos rfl, er, show fX6_findPlan p (i32 (A % 3 + 1)) T = some ((), T') from q1, obind]
              dsimp only
              rw [q3.2.2.1 (by omega)]
              exact ⟨T', rfl, q2⟩
            · rw [if_neg (ne_l (n := 5) (by unfold B31; omega) (by decide) k5), if_neg k5]
              exact ⟨T, rfl, FrP.rf⟩
/-- a call of the mind over a cone at B -/
theorem mind_call {B : Nat} {v v1 : CN} {w : Nat → Nat → Int64} (hB : B + 5 ≤ 33) (h : ∀ k : Nat, 24 ≤ k → v1 k = v (if k < 24 then 33 + k else B + (k - 24))) : ∃ v' : CN, mrgS (fun k => if k < 24 then 33 + k else B + (k - 24)) 29 (v, w) (v1, fun k => w (if k < 24 then 33 + k else B + (k - 24))) = (v', w) ∧ (∀ p : Nat, p < 33 ∨ 57 ≤ p → v' p = v p) ∧ ∀ k : Nat, k < 24 → v' (33 + k) = v1 k := by
  have inj : injN (fun k => if k < 24 then 33 + k else B + (k - 24)) 29 := fun i j hi hj e => by
    dsimp only at e
    split at e <;> split at e <;> omega
  refine ⟨mrg (fun k => if k < 24 then 33 + k else B + (k - 24)) 29 v v1, Prod.ext rfl (mrg_id inj), fun p hp => ?_, fun k hk => ?_⟩
  · rcases mrg_cases (pl := fun k => if k < 24 then 33 + k else B + (k - 24)) 29 p with ⟨k, hk, e⟩ | hx
    · rw [e]
      refine (mrg_at (pl := fun k => if k < 24 then 33 + k else B + (k - 24)) inj hk).trans (h k ?_)
      split at e <;> omega
    · exact mrg_off hx
  · have := mrg_at (pl := fun k => if k < 24 then 33 + k else B + (k - 24)) (S := v) (C := v1) inj (show k < 29 by omega)
    rw [if_pos hk] at this
    exact this
theorem hold_mind {B : Nat} {v : CN} (hd : Hold (atL B φC) d v) : Hold (atL 24 φC) d (fun k => v (if k < 24 then 33 + k else B + (k - 24))) := fun k j a b e => by
  unfold atL at e
  split at e
  · dsimp only
    rw [if_neg (by omega)]
    exact hd _ j a b ((atL_at _ j).trans e)
  · cases e
theorem okM_would28 {v : CN} {w : Nat → Nat → Int64} (hl : l < 4) (h : OK d N t M L) (hL : L + 4000 ≤ 1999000000) (hW : WI d) (hd : Hold (atL 28 φC) d v) (h7 : v 7 l = d 6 l) (h8 : v 8 l = d 7 l) : ∃ v' : CN, fX5_wouldIn28 (i32 l) (v, w) = some (i32 (wouldL N t M l d), (v', w)) ∧ ∀ p : Nat, p < 33 ∨ 57 ≤ p → v' p = v p := by
  obtain ⟨⟨K, hK, eK⟩, ⟨A, hA, eA⟩⟩ := hW.2.2 l hl
  have eKn : (d 6 l).toNatClampNeg = K := by rw [eK]; exact gnat (by omega)
  have eAn : (d 7 l).toNatClampNeg = A := by rw [eA]; exact gnat (by omega)
  obtain ⟨v1, q1, q2⟩ := okD_choose (w := fun k => w (if k < 24 then 33 + k else 28 + (k - 24))) hK hA h hL (hold_mind hd)
  obtain ⟨v', r1, r2, _⟩ := mind_call (B := 28) (v := v) (v1 := v1) (w := w) (by decide) q2
  refine ⟨v', ?_, r2⟩
  unfold fX5_wouldIn28 fX5_wouldIn28_0 wouldL
  rw [if_pos (gix hl (by decide)), if_pos (gix hl (by decide)), gnat (show l ≤ 1000 by omega), eKn, eAn]
  simp only [h7, h8, eK, eA]
  have q1' : fX2_choose (i32 K) (i32 A) (selS (fun k => if k < 24 then 33 + k else 28 + (k - 24)) (v, w)) = some (i32 (mWould N t M K A d), (v1, fun k => w (if k < 24 then 33 + k else 28 + (k - 24)))) := q1
  rw [q1', obind]
  dsimp only
  rw [r1]
theorem okM_would2 {v : CN} {w : Nat → Nat → Int64} (hl : l < 4) (h : OK d N t M L) (hL : L + 4000 ≤ 1999000000) (hW : WI d) (hd : Hold (atL 2 φC) d v) (h7 : v 7 l = d 6 l) (h8 : v 8 l = d 7 l) : ∃ v' : CN, fX5_wouldIn2 (i32 l) (v, w) = some (i32 (wouldL N t M l d), (v', w)) ∧ ∀ p : Nat, p < 33 ∨ 57 ≤ p → v' p = v p := by
  obtain ⟨⟨K, hK, eK⟩, ⟨A, hA, eA⟩⟩ := hW.2.2 l hl
  have eKn : (d 6 l).toNatClampNeg = K := by rw [eK]; exact gnat (by omega)
  have eAn : (d 7 l).toNatClampNeg = A := by rw [eA]; exact gnat (by omega)
  obtain ⟨v1, q1, q2⟩ := okD_choose (w := fun k => w (if k < 24 then 33 + k else 2 + (k - 24))) hK hA h hL (hold_mind hd)
  obtain ⟨v', r1, r2, _⟩ := mind_call (B := 2) (v := v) (v1 := v1) (w := w) (by decide) q2
  refine ⟨v', ?_, r2⟩
  unfold fX5_wouldIn2 fX5_wouldIn2_0 wouldL
  rw [if_pos (gix hl (by decide)), if_pos (gix hl (by decide)), gnat (show l ≤ 1000 by omega), eKn, eAn]
  simp only [h7, h8, eK, eA]
  have q1' : fX2_choose (i32 K) (i32 A) (selS (fun k => if k < 24 then 33 + k else 2 + (k - 24)) (v, w)) = some (i32 (mWould N t M K A d), (v1, fun k => w (if k < 24 then 33 + k else 2 + (k - 24)))) := q1
  rw [q1', obind]
  dsimp only
  rw [r1]
end WOULD
