/-! PURE MATHEMATICS, 17: what a licker of the class would do. -/
abbrev slowN (c : CN) (A : Nat) : Prop := c 0 7 - c 0 7 / (i32 A + 2) * (i32 A + 2) = 0
def mWould (N t M K A : Nat) (c : CN) : Nat := if M = 0 then 0 else if K = 1 then mRound t M c else if K = 2 then aWet N t M c else if K = 3 then aLow N t M c else if K = 4 then (if slowN c A then mRound t M c else 0) else if K = 5 then (PL N M (A % 3 + 1) t c).2.2.getD 0 0 else 1
section CHOOSE
variable {c : CN} {N t M a : Nat} {L : Int}
theorem lickS_M : ∀ m i : Nat, i + m = M → lickS c t m i ≤ M
  | 0, _ => fun _ => by unfold lickS; omega
  | m + 1, i => fun h => by
    unfold lickS
    split
    · exact lickS_M m (i + 1) (by omega)
    · omega
theorem mLick_A : mLick t M c ≤ M ∨ mLick t M c = 4 := by
  unfold mLick
  split
  · exact Or.inl (lickS_M M 0 (by omega))
  · exact Or.inr rfl
theorem canA_le {x : Nat} (hM : M ≤ 3) (h : x ≤ M ∨ (4 ≤ x ∧ x ≤ 6)) : canA M x := ⟨by omega, fun h1 h4 => by omega⟩
theorem mRound_A (hM : M ≤ 3) : canA M (mRound t M c) := by
  have h := mLick_A (c := c) (t := t) (M := M)
  unfold mRound
  refine canA_le hM ?_
  split <;> omega
theorem lwS_M : ∀ (m i a : Nat) (v : Int32), i + m = M → (a ≤ M ∨ a = 4) → (lwS c t m i a v ≤ M ∨ lwS c t m i a v = 4)
  | 0, _, _, _ => fun _ h => h
  | m + 1, i, a, v => fun h ha => by
    unfold lwS
    split
    · exact lwS_M m (i + 1) a v (by omega) ha
    · exact lwS_M m (i + 1) (i + 1) _ (by omega) (Or.inl (by omega))
theorem mTo_A {k : Nat} : mTo N t k = 5 ∨ mTo N t k = 6 := by unfold mTo; split <;> omega
theorem aWet_A (hM : M ≤ 3) : canA M (aWet N t M c) := by
  unfold aWet
  refine canA_le hM ?_
  split
  · have := lwS_M (c := c) (t := t) (M := M) M 0 (if c 4 t ≤ 0 then 0 else 4) (c 4 t) (by omega) (by split <;> omega)
    unfold mLickW
    omega
  · have := mTo_A (N := N) (t := t) (k := mWet N M c); omega
theorem aLow_A (hM : M ≤ 3) : canA M (aLow N t M c) := by
  unfold aLow
  refine canA_le hM ?_
  split
  · have := mLick_A (c := c) (t := t) (M := M); omega
  · have := mTo_A (N := N) (t := t) (k := mLowest N M c); omega
theorem PL_A {k : Nat} : canA M ((PL N M (k + 1) t c).2.2.getD 0 0) := by
  rw [PL_s]
  exact plF_inv (cand := cnd N M k t c) (P := fun y => canA M (y.2.2.getD 0 0)) (fun a ha hb => show canA M a from canA_of ha hb) 6 1 _ (by decide) canA_0
theorem mWould_A {K A : Nat} (hM : M ≤ 3) : canA M (mWould N t M K A c) := by
  unfold mWould
  by_cases z : M = 0
  · rw [if_pos z]; exact canA_0
  · rw [if_neg z]
    split
    · exact mRound_A hM
    · split
      · exact aWet_A hM
      · split
        · exact aLow_A hM
        · split
          · split
            · exact mRound_A hM
            · exact canA_0
          · split
            · exact PL_A
            · exact canA_le hM (Or.inl (by omega))
theorem okD_plan {k : Nat} {v : CN} {w : Nat → Nat → Int64} (hk : k < 3) (h : OK c N t M L) (hL : L + 4000 ≤ 1999000000) (hv : Hold (atL 24 φC) c v) : ∃ v' : CN, fX2_findPlan (i32 (k + 1)) (v, w) = some ((), (v', w)) ∧ (∀ p : Nat, 24 ≤ p → v' p = v p) ∧ v' 0 3 = (PL N M (k + 1) t c).1 ∧ ∀ j : Nat, j < k + 1 → v' 3 j = i32 ((PL N M (k + 1) t c).2.2.getD j 0) := by
  have p1 := okM_take (A := 4 + 5 * (0 : Int32).toNatClampNeg) (w := w) (Or.inl (by decide)) hv
  have hb := PL_B (k + 1) t c L h (by omega)
  have hq : Hold (atL (4 + 5 * 0) φC) c (put (atL (4 + 5 * (0 : Int32).toNatClampNeg) φC) c v) := Hold_put (φ := atL (4 + 5 * 0) φC)
  have q := deep_ok (N := N) (M := M) (k + 1) 5 0 (k + 1) (by omega) (by omega) (by omega) (upd2 (upd2 (put (atL (4 + 5 * (0 : Int32).toNatClampNeg) φC) c v) 0 3 (2147483647 : Int32)) 0 4 (0 : Int32)) w c t L h (by omega) (hq.of_p (fun p h1 _ => by rw [upd2_ne (by omega), upd2_ne (by omega)]))
  obtain ⟨v2, q1, q2, q3⟩ := q
  have hp : ∀ p : Nat, 24 ≤ p → v2 p = v p := fun p hp => by
    rw [q2.1 p (by omega) (by omega) (by omega) (Or.inr hp), upd2_ne (by omega), upd2_ne (by omega)]
    exact lvl_p (d := 0) (Or.inr (by omega))
  have hit : btr (PL N M (k + 1) t c) ((upd2 (upd2 (put (atL (4 + 5 * (0 : Int32).toNatClampNeg) φC) c v) 0 3 (2147483647 : Int32)) 0 4 (0 : Int32)) 0 3, (upd2 (upd2 (put (atL (4 + 5 * (0 : Int32).toNatClampNeg) φC) c v) 0 3 (2147483647 : Int32)) 0 4 (0 : Int32)) 0 4, []) := by
    refine Or.inl ?_
    show (PL N M (k + 1) t c).1.toInt < (2147483647 : Int32).toInt
    have e : (2147483647 : Int32).toInt = 2147483647 := rfl
    rw [e]
    have := hb.2.1
    omega
  unfold Best at q3
  rw [if_pos hit] at q3
  refine ⟨v2, ?_, hp, q3.1, fun j hj => by have := q3.2.2.2 j hj; rw [Nat.zero_add] at this; exact this⟩
  have e0 : ∀ s : SS, selS (fun k => 0 + k) s = s := fun s => by
    unfold selS
    simp only [Nat.zero_add]
  unfold fX2_findPlan fX2_findPlan_0
  rw [if_pos (show ixB (0 : Int32) 4 from gix (k := 0) (by decide) (by decide)), p1, obind]
  dsimp only
  rw [mrg_take (Or.inl (by decide)), e0]
  have e1 : wrI (wrI (put (atL (4 + 5 * (0 : Int32).toNatClampNeg) φC) c v, w) 0 3 (2147483647 : Int32)) 0 4 (0 : Int32) = (upd2 (upd2 (put (atL (4 + 5 * (0 : Int32).toNatClampNeg) φC) c v) 0 3 (2147483647 : Int32)) 0 4 (0 : Int32), w) := rfl
  rw [e1]
  have q1' : fX2_deepen (0 : Int32) (i32 (k + 1)) (upd2 (upd2 (put (atL (4 + 5 * (0 : Int32).toNatClampNeg) φC) c v) 0 3 (2147483647 : Int32)) 0 4 (0 : Int32), w) = some ((), (v2, w)) := q1
  rw [q1', obind]
  refine congrArg some (Prod.ext rfl ?_)
  unfold mrgS
  refine Prod.ext ?_ ?_
  · funext x
    dsimp only
    rcases mrg_cases (pl := fun k => 0 + k) 24 x with ⟨y, hy, e⟩ | hx
    · rw [show x = (fun k => 0 + k) y from e]
      refine (mrg_at (pl := fun k => 0 + k) injA hy).trans ?_
      dsimp only
      rw [Nat.zero_add]
    · refine (mrg_off hx).trans ?_
      have h24 : 24 ≤ x := Nat.not_lt.mp (fun z => hx x z (by omega))
      rw [upd2_ne (by omega), upd2_ne (by omega), hp x h24]
      exact lvl_p (d := 0) (Or.inr (by omega))
  · dsimp only
    have := mrg_id (pl := fun k => 0 + k) (S := w) (n := 24) injA
    simp only [Nat.zero_add] at this ⊢
    exact this
theorem okD_choose {K A : Nat} {v : CN} {w : Nat → Nat → Int64} (hK : K ≤ 5) (hA : A ≤ 9) (h : OK c N t M L) (hL : L + 4000 ≤ 1999000000) (hv : Hold (atL 24 φC) c v) : ∃ v' : CN, fX2_choose (i32 K) (i32 A) (v, w) = some (i32 (mWould N t M K A c), (v', w)) ∧ ∀ p : Nat, 24 ≤ p → v' p = v p := by
  have hM := h.1.m3
  have hc : ∀ j : Nat, j < 12 → v 24 j = c 0 j := fun j hj => hv 24 j 0 j ((atL_at (A := 24) (φ := φC) 0 j).trans (if_pos hj))
  have hs := sel_at (w := w) hv
  have hm : mrgS (fun k => 24 + k) 5 (v, w) (put φC c (fun k => v (24 + k)), fun k => w (24 + k)) = (v, w) := by rw [mrg_C, hv.eq]
  have hb : mWet N M c < N := wetB_lt (N - 1) 1 0 (by have := h.1.n3; omega) (by have := h.1.n3; omega)
  have hb2 : mLowest N M c < N := lowB_lt (N - 1) 1 0 (by have := h.1.n3; omega) (by have := h.1.n3; omega)
  have ht := h.1.tN
  have hn := h.1.n8
  unfold fX2_choose fX2_choose_0 mWould
  simp only [hc 11 (by decide), hc 7 (by decide), h.1.2.2.1]
  by_cases z : M = 0
  · rw [if_pos z, if_pos (by rw [z]; rfl)]
    exact ⟨v, rfl, fun _ _ => rfl⟩
  · rw [if_neg z, if_neg (ne_l (n := 0) (by unfold B31; omega) (by decide) z)]
    by_cases k1 : K = 1
    · subst k1
      rw [if_pos (show i32 1 = 1 from rfl), if_pos rfl, hs, okC_round h.1, obind]
      dsimp only
      rw [hm]
      exact ⟨v, rfl, fun _ _ => rfl⟩
    · rw [if_neg (ne_l (n := 1) (by unfold B31; omega) (by decide) k1), if_neg k1]
      by_cases k2 : K = 2
      · subst k2
        rw [if_pos (show i32 2 = 2 from rfl), if_pos rfl, hs, okC_wettest h.1 h.2.1, obind]
        dsimp only
        rw [hm, hs, okC_lickW h.1, obind, okC_wettest h.1 h.2.1, obind]
        dsimp only
        rw [hm, hs, okC_turnTo h.1 hb, obind]
        dsimp only
        rw [hm]
        unfold aWet
        refine ⟨v, ?_, fun _ _ => rfl⟩
        simp only [hc 1 (by decide), h.1.2.1]
        by_cases y : mWet N M c = t
        · rw [if_pos y, if_pos (by rw [y])]
        · rw [if_neg y, if_neg (i32_eq (by unfold B31; omega) (by unfold B31; omega) y)]
      · rw [if_neg (ne_l (n := 2) (by unfold B31; omega) (by decide) k2), if_neg k2]
        by_cases k3 : K = 3
        · subst k3
          rw [if_pos (show i32 3 = 3 from rfl), if_pos rfl, hs, okC_lowest h.1, obind]
          dsimp only
          rw [hm, hs, okC_lick h.1, obind, okC_lowest h.1, obind]
          dsimp only
          rw [hm, hs, okC_turnTo h.1 hb2, obind]
          dsimp only
          rw [hm]
          unfold aLow
          refine ⟨v, ?_, fun _ _ => rfl⟩
          simp only [hc 1 (by decide), h.1.2.1]
          by_cases y : mLowest N M c = t
          · rw [if_pos y, if_pos (by rw [y])]
          · rw [if_neg y, if_neg (i32_eq (by unfold B31; omega) (by unfold B31; omega) y)]
        · rw [if_neg (ne_l (n := 3) (by unfold B31; omega) (by decide) k3), if_neg k3]
          by_cases k4 : K = 4
          · subst k4
            have na : ¬ (i32 A + (2 : Int32)) = 0 := by
              rw [show (2 : Int32) = i32 2 from rfl, i32_add]
              exact ne_l (n := 0) (by unfold B31; omega) (by decide) (by omega)
            rw [if_pos (show i32 4 = 4 from rfl), if_pos rfl, if_pos na, hs, okC_round h.1, obind]
            dsimp only
            rw [hm]
            refine ⟨v, ?_, fun _ _ => rfl⟩
            split <;> rfl
          · rw [if_neg (ne_l (n := 4) (by unfold B31; omega) (by decide) k4), if_neg k4]
            by_cases k5 : K = 5
            · subst k5
              have er : (i32 A - i32 A / (3 : Int32) * (3 : Int32)) + (1 : Int32) = i32 (A % 3 + 1) := by
                rw [show (3 : Int32) = i32 3 from rfl, i32_rem (by unfold B31; omega) (by decide) (by decide), i32_succ]
              obtain ⟨v', q1, q2, q3, q4⟩ := okD_plan (k := A % 3) (w := w) (by omega) h hL hv
              rw [if_pos (show i32 5 = 5 from rfl), if_pos rfl, er, q1, obind]
              dsimp only
              rw [q4 0 (by omega)]
              exact ⟨v', rfl, q2⟩
            · rw [if_neg (ne_l (n := 5) (by unfold B31; omega) (by decide) k5), if_neg k5]
              exact ⟨v, rfl, fun _ _ => rfl⟩
end CHOOSE
