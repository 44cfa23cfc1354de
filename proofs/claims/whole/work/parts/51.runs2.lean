/-! PURE MATHEMATICS, 33: calls in thought, on. -/
section THOUGHT
variable {c d : CN} {N t M a l : Nat} {L L1 : Int} {v v1 : CN} {w : Nat → Nat → Int64} {S : SS} {T T1 : TF} {x y : Int32}
theorem lost_S (h : RC c N t M L S T) (ht : Tht c d S T v1 T1) : v1 28 8 = d 0 8 ∧ v1 28 9 = d 0 9 ∧ v1 2 8 = c 0 8 ∧ (T1.2 [9]).1 0 19 = d 0 8 ∧ (T1.2 [9]).1 0 20 = d 0 9 ∧ (T1.2 []).1 0 19 = c 0 8 :=
  ⟨ht.2.1 28 8 0 8 (atL_at 0 8), ht.2.1 28 9 0 9 (atL_at 0 9), by rw [ht.1.1 2 (by decide)]; exact h.2.2.1 2 8 0 8 rfl, ht.2.2.1 0 19 0 8 rfl, ht.2.2.1 0 20 0 9 rfl, by rw [ht.1.2.1]; exact h.2.2.2.1 0 19 0 8 rfl⟩
theorem bel0 : ¬ bel [] [8] ∧ ¬ bel [] [9] := by
  constructor <;> (rintro ⟨l, x, e, hx⟩; cases l with
    | nil => cases e; omega
    | cons a l => have := congrArg List.length e; rw [List.length_append] at this; simp at this)
theorem FrP.same (h : FrP [] T T1) : SameT T T1 := by
  refine ⟨(h.2.1 [] bel_self).1, (h.2.1 [8] bel0.1).1, (h.2.1 [8] bel0.1).2 (by decide), h.2.2.1, fun a b hab => h.2.2.2 a b (fun z => ?_) (fun z => ?_)⟩
  · have := hab.1 z.1; omega
  · have := hab.2; omega
/-- a licker asked in truth -/
theorem would_truth (h : RC c N t M L S T) (hL : L + 300000 ≤ 1999000000) (hl : l < 4) : ∃ (v2 : CN) (T2 : TF), fX5_wouldIn2 (i32 l) S = some (i32 (wouldL N t M l c), (v2, S.2)) ∧ fX6_wouldBe [] (i32 l) T = some (i32 (wouldL N t M l c), T2) ∧ (∀ p : Nat, p < 33 ∨ 57 ≤ p → v2 p = S.1 p) ∧ FrP [] T T2 := by
  obtain ⟨v2, q1, q2⟩ := okM_would2 (v := S.1) (w := S.2) hl h.1 (by omega) h.2.1 (hold_C2 h.2.2.1) (rdM h.2.2.1 (fM_kind hl)) (rdM h.2.2.1 (fM_by hl))
  obtain ⟨T2, r1, r2⟩ := okR_would okPP_main h.2.2.2.1 h.1 (by omega) h.2.1 hl
  exact ⟨v2, T2, q1, r1, q2, r2⟩
theorem both_would (h : RR L S T) (hL : L + 300000 ≤ 1999000000) : BothT L (fX5_would x S) (fX6_would [] x T) := by
  have hh := h
  have bad2 := bad_T (a := 2) h (by decide) (by decide)
  obtain ⟨h0, c, N, t, M, h⟩ := h
  have hl := h.licker.2.2.2
  unfold fX5_would fX5_would_0 fX6_would fX6_would_0
  simp only [okM_isLicker h, okR_isLicker h, obind, iteB, wrT_id]
  by_cases h1 : 0 ≤ x ∧ x ≤ i32 (lk c) - 1
  · obtain ⟨l, hl', e⟩ := (of_lt (by omega)).mp h1
    subst e
    simp only [if_pos h1]
    obtain ⟨v2, T2, e1, e2, e3, e4⟩ := would_truth h hL (show l < 4 by omega)
    simp only [e1, e2, obind]
    exact ⟨_, _, _, rfl, rfl, hh.same ⟨rfl, fun p hp => e3 p (by omega)⟩ e4.same⟩
  · simp only [if_neg h1]
    exact bad2
theorem both_says (h : RR L S T) (hL : L + 300000 ≤ 1999000000) : BothT L (fX5_says x y S) (fX6_says [] x y T) := by
  have hh := h
  have bad2 := bad_T (a := 2) h (by decide) (by decide)
  have bad3 := bad_T (a := 3) h (by decide) (by decide)
  have bad4 := bad_T (a := 4) h (by decide) (by decide)
  obtain ⟨h0, c, N, t, M, h⟩ := h
  have hl := h.licker.2.2.2
  unfold fX5_says fX5_says_0 fX5_says_16 fX5_says_77 fX6_says fX6_says_0 fX6_says_24 fX6_says_69 fX6_says_76
  simp only [okC_isShelf, okC_within, in07, in05, obind, iteB]
  by_cases h1 : 0 ≤ x ∧ x ≤ 7
  · obtain ⟨q, hq, e⟩ := of_le (b := 7) (by decide) h1
    subst e
    have ix : ixB (i32 q) 8 := gix (by omega) (by decide)
    have g : (i32 q).toNatClampNeg = q := gnat (by omega)
    simp only [if_pos h1]
    by_cases h2 : 0 ≤ y ∧ y ≤ 5
    · simp only [if_pos h2, if_pos ix, g]
      have lnum : ∀ z : Int32, S.1 (61 + 2 * q) 0 = z → fX3_lickerNumber (selS (fun k => 61 + 2 * q + k) S) = some (if z < 10 then -1 else z - 10, selS (fun k => 61 + 2 * q + k) S) := by
        intro z hz
        unfold fX3_lickerNumber fX3_lickerNumber_0
        rw [show (selS (fun k => 61 + 2 * q + k) S).1 0 0 = z from hz]
        split <;> rfl
      have nol : ¬ (0 ≤ (-1 : Int32) ∧ (-1 : Int32) ≤ i32 (lk c) - 1) := fun z => absurd z.1 (by decide)
      rcases h.2.2.2.2.2.1 q (by omega) with ⟨a1, a2⟩ | ⟨o, m, a1, a2, a3, a4, a5, a6⟩ | ⟨l, a1, a2, a3, a4, a5⟩
      · simp only [a1, a2, z01, z02, if_true, if_false]
        exact bad4
      · simp only [a3, a5, ne_m1 (show o ≤ 1000 by omega), if_false, if_true, lnum _ a3, obind, mrg_sel injA, if_pos ((lt_l (a := o) (n := 10) (by unfold B31; omega) (by decide)).mpr (by omega)), okM_isLicker h, if_neg nol, z12]
        exact bad3
      · have hl4 : l < 4 := a2
        have ixl : ixB (i32 l) 4 := gix hl4 (by decide)
        have gl : (i32 l).toNatClampNeg = l := gnat (by omega)
        have isl : (0 ≤ i32 l ∧ i32 l ≤ i32 (lk c) - 1) := (of_lt (by omega)).mpr ⟨l, a1, rfl⟩
        have b1 : S.1 7 l = c 6 l := rdM h.2.2.1 (fM_kind hl4)
        have b2 : S.1 8 l = c 7 l := rdM h.2.2.1 (fM_by hl4)
        have b3 : (T.2 []).1 25 l = c 6 l := h.2.2.2.1 25 l 6 l (fR_kind hl4)
        have b4 : (T.2 []).1 26 l = c 7 l := h.2.2.2.1 26 l 7 l (fR_by hl4)
        have und : ∀ k y : Int32, ∃ r : Bool, (∀ s : SS, fX5_isUnder k y s = some (if r then 1 else 0, s)) ∧ ∀ s : SS, fX6_isUnder k y s = some (if r then 1 else 0, s) := by
          intro k y
          unfold fX5_isUnder fX5_isUnder_0 fX6_isUnder fX6_isUnder_0 fX6_isUnder_26
          by_cases y0 : y = 0
          · exact ⟨true, fun s => by rw [if_pos y0]; rfl, fun s => by rw [if_pos y0]; rfl⟩
          · by_cases ky : k = y
            · exact ⟨true, fun s => by rw [if_neg y0, if_pos ky]; rfl, fun s => by rw [if_neg y0, if_pos ky]; rfl⟩
            · by_cases y2 : y = 2
              · subst y2
                by_cases k3 : k = 3
                · exact ⟨true, fun s => by rw [if_neg y0, if_neg ky, if_pos rfl, if_pos k3]; rfl, fun s => by rw [if_neg y0, if_neg ky, if_pos rfl, if_pos k3]; rfl⟩
                · by_cases k5 : k = 5
                  · exact ⟨true, fun s => by rw [if_neg y0, if_neg ky, if_pos rfl, if_neg k3, if_pos k5]; rfl, fun s => by rw [if_neg y0, if_neg ky, if_pos rfl, if_neg k3, if_pos k5]; rfl⟩
                  · exact ⟨false, fun s => by rw [if_neg y0, if_neg ky, if_pos rfl, if_neg k3, if_neg k5]; rfl, fun s => by rw [if_neg y0, if_neg ky, if_pos rfl, if_neg k3, if_neg k5, if_neg (by decide)]; rfl⟩
              · by_cases y1 : y = 1
                · by_cases k4 : k = 4
                  · exact ⟨true, fun s => by rw [if_neg y0, if_neg ky, if_neg y2, if_pos y1, if_pos k4]; rfl, fun s => by rw [if_neg y0, if_neg ky, if_neg y2, if_pos y1, if_pos k4]; rfl⟩
                  · exact ⟨false, fun s => by rw [if_neg y0, if_neg ky, if_neg y2, if_pos y1, if_neg k4]; rfl, fun s => by rw [if_neg y0, if_neg ky, if_neg y2, if_pos y1, if_neg k4]; rfl⟩
                · exact ⟨false, fun s => by rw [if_neg y0, if_neg ky, if_neg y2, if_neg y1]; rfl, fun s => by rw [if_neg y0, if_neg ky, if_neg y2, if_neg y1]; rfl⟩
        obtain ⟨r, u1, u2⟩ := und (c 6 l) y
        simp only [a3, a4, a5, ne_m1 (show 10 + l ≤ 1000 by omega), if_false, if_true, lnum _ a3, obind, mrg_sel injA, if_neg (fun z => absurd ((lt_l (a := 10 + l) (n := 10) (by unfold B31; omega) (by decide)).mp z) (by omega)), show i32 (10 + l) - (10 : Int32) = i32 l from (i32_sub (b := 10) (by omega)).trans (congrArg i32 (by omega)), okM_isLicker h, if_pos isl, if_pos ixl, gl, b1, b2, b3, b4, u1, u2, z20, z21, i10]
        cases r with
        | false => exact bad3
        | true =>
          simp only [if_true, i10, if_false]
          by_cases y0 : y = 0
          · simp only [if_pos y0]
            exact ⟨_, _, _, rfl, rfl, hh⟩
          · simp only [if_neg y0]
            obtain ⟨v2, T2, e1, e2, e3, e4⟩ := would_truth h hL hl4
            simp only [e1, e2, obind]
            exact ⟨_, _, _, rfl, rfl, hh.same ⟨rfl, fun p hp => e3 p (by omega)⟩ e4.same⟩
    · simp only [if_neg h2]
      exact bad2
  · simp only [if_neg h1]
    exact bad2
end THOUGHT
