/-! PURE MATHEMATICS, 41: told rows, judge; a second in truth, act, done. -/
section TOLD
variable {c d : CN} {N t M a l q n : Nat} {L L' L1 : Int} {v v1 : CN} {w : Nat → Nat → Int64} {S : SS} {T T1 : TF} {x y : Int32}
theorem RC.truthC {N' t' M' : Nat} (h : RC c N t M L S T) (hd : OK d N' t' M' L') (hW : WI d) (hL : L ≤ L') (hl : lk c ≤ lk d)   : RC d N' t' M' L' (put (atL 1 φW) d S.1, S.2) (wrT T [] (put φR d (T.2 []).1, (T.2 []).2)) := by
  obtain ⟨h1, h2, h3, h4, h5, h6, h7, h8⟩ := h
  have pS : ∀ p : Nat, p < 1 ∨ 10 ≤ p → put (atL 1 φW) d S.1 p = S.1 p := fun p hp => by
    funext j
    exact put_off (atW_off (by omega))
  have pT : ∀ a b : Nat, φR a b = none → put φR d (T.2 []).1 a b = (T.2 []).1 a b := fun a b e => put_off e
  have n0 : ∀ k j : Nat, (k = 1 ∨ k = 2 ∨ k = 3 ∨ k = 14 ∨ k = 15 ∨ k = 16) → φR k j = none := fun k j e => by
    unfold φR φR1
    rw [if_neg (by omega)]
    repeat rw [if_neg (by omega)]
  refine ⟨hd, hW, Hold_put, by rw [wrT_same]; exact Hold_put, ?_, fun q hq => ?_, ?_, ?_⟩
  · have h5' := h5.mono hL hd.2.2.2
    unfold KR at h5' ⊢
    dsimp only
    rw [pS 0 (by decide), wrT_ne (show ([8] : List Nat) ≠ [] by decide)]
    rcases h5' with h | ⟨ha, hc, ck, N1, t1, M1, k1, k2, k3, k4⟩
    · exact Or.inl h
    · exact Or.inr ⟨ha, hc, ck, N1, t1, M1, k1, k2, k3.same (fun p p1 p2 => pS p (by omega)), k4⟩
  · have := h6 q hq
    unfold SHr at this ⊢
    rw [wrT_same]
    dsimp only
    rw [pS _ (by omega), pT 1 q (n0 _ _ (by decide)), pT 2 q (n0 _ _ (by decide)), pT 3 q (n0 _ _ (by decide)), pT 14 q (n0 _ _ (by decide))]
    rcases this with h | h | ⟨l, h⟩
    · exact Or.inl h
    · exact Or.inr (Or.inl h)
    · exact Or.inr (Or.inr ⟨l, by omega, h.2⟩)
  · unfold TPr at h7 ⊢
    rw [wrT_same]
    dsimp only
    rw [pS 58 (by decide), pS 59 (by decide), pT 0 7 rfl]
    exact ⟨h7.1, fun j hj => by rw [pT 15 j (n0 _ _ (by decide))]; exact h7.2 j hj⟩
  · intro j j1 j2
    rw [wrT_same]
    dsimp only
    rw [pS 60 (by decide), pT 16 j (n0 _ _ (by decide))]
    exact h8 j j1 j2
/-- a told row of acts on both sides -/
def Row (S s : SS) (q n : Nat) : Prop := q < 8 ∧ n ≤ 40 ∧ ∀ j : Nat, j < 40 → S.2 (61 + 2 * q + 1) j = s.2 (5 + q) j
theorem z_2 : ((-2 : Int32) = 0) = False := by decide
theorem z_3 : ((-3 : Int32) = 0) = False := by decide
theorem z_4 : ((-4 : Int32) = 0) = False := by decide
theorem told_fault (h0 : T.1 [] = true) (h : RC c N t M L S T) : (∃ q n : Nat, Row S (T.2 []) q n ∧ x = i32 q ∧ y = i32 n ∧ fX5_toldFault x y (0 : Int32) (40 : Int32) S = some (0, S) ∧ fX6_noActs x y (T.2 []) = some (0, T.2 [])) ∨ ∃ (r : Int32) (S' s' : SS), r ≠ 0 ∧ fX5_toldFault x y (0 : Int32) (40 : Int32) S = some (r, S) ∧ fX5_refuse r S = some (r, S') ∧ fX6_noActs x y (T.2 []) = some (r, s') ∧ RR L S' (wrT T [] s') := by
  have hr : RR L S T := ⟨h0, c, N, t, M, h⟩
  obtain ⟨A2, B2, p1, p2, p3⟩ := refuse_both (a := 2) hr (by decide) (by decide)
  obtain ⟨A3, B3, q1, q2, q3⟩ := refuse_both (a := 3) hr (by decide) (by decide)
  obtain ⟨A4, B4, r1, r2, r3⟩ := refuse_both (a := 4) hr (by decide) (by decide)
  have e2 : (-i32 2 : Int32) = -2 := by decide
  have e3 : (-i32 3 : Int32) = -3 := by decide
  have e4 : (-i32 4 : Int32) = -4 := by decide
  rw [e2] at p1 p2
  rw [e3] at q1 q2
  rw [e4] at r1 r2
  unfold fX5_toldFault fX5_toldFault_0 fX6_noActs fX6_noActs_0 fX6_noActs_24
  simp only [okC_within, in07, in040, obind, iteB, p2]
  by_cases hx : 0 ≤ x ∧ x ≤ 7
  · simp only [if_pos hx]
    by_cases hy : 0 ≤ y ∧ y ≤ 40
    · simp only [if_pos hy]
      obtain ⟨q, hq, e⟩ := of_le (b := 7) (by decide) hx
      obtain ⟨n, hn, e'⟩ := of_le (b := 40) (by decide) hy
      subst e
      subst e'
      have ix : ixB (i32 q) 8 := gix (by omega) (by decide)
      have g : (i32 q).toNatClampNeg = q := gnat (by omega)
      rcases rowF (h.2.2.2.2.2.1 q (by omega)) (by omega) with ⟨_, f1, f2⟩ | ⟨⟨o, m, h1, h2, h3, h4, h5, h6, h7, h8⟩, f1, f2⟩ | ⟨_, f1, f2⟩
      · simp only [f1, f2, r2, obind, z_4, if_false]
        exact Or.inr ⟨-4, A4, B4, by decide, rfl, r1, rfl, r3⟩
      · simp only [f1, f2, obind, if_pos ix, g, h4, h7, gle (show n ≤ 1000 by omega) (show m ≤ 1000 by omega), if_pos (show (0 : Int32) = 0 from rfl)]
        by_cases hm : n ≤ m
        · simp only [if_pos hm]
          exact Or.inl ⟨q, n, ⟨by omega, by omega, h8⟩, rfl, rfl, if_pos trivial, if_pos trivial⟩
        · simp only [if_neg hm, p2, obind]
          exact Or.inr ⟨-2, A2, B2, by decide, rfl, p1, rfl, p3⟩
      · simp only [f1, f2, q2, obind, z_3, if_false]
        exact Or.inr ⟨-3, A3, B3, by decide, rfl, q1, rfl, q3⟩
    · simp only [if_neg hy]
      exact Or.inr ⟨-2, A2, B2, by decide, rfl, p1, rfl, p3⟩
  · simp only [if_neg hx, (rowF_bad (S := S) (s := T.2 []) hx).1, obind, z_2, if_false]
    refine Or.inr ⟨-2, A2, B2, by decide, ?_, p1, rfl, p3⟩
    split <;> rfl
theorem canDo_S (h : RC c N t M L S T) (ha : a ≤ 6) : fX0_canDo (i32 a) (selS (fun k => 2 + k) S) = some (if 1 ≤ a ∧ a < 4 ∧ M < a then 0 else 1, selS (fun k => 2 + k) S) := by
  obtain ⟨v, w⟩ := S
  rw [sel_at (hold_C2 h.2.2.1), okC_canDo h.1.1 ha]
/-- the acts told from k on can be done -/
def Can (M : Nat) (s : SS) (q k n : Nat) : Prop := ∀ j : Nat, k ≤ j → j < n → ∃ a : Nat, canA M a ∧ (s.2 (5 + q) j).toInt32 = i32 a
theorem wrong_loop (h : RC c N t M L S T) (hr : Row S (T.2 []) q n) : ∀ (m k f : Nat), k + m = n → m < f → ∃ r : Int32, fX5_wrongTold_2 f (i32 q) (i32 n) (i32 k) S = some (r, S) ∧ fX6_wrongIn_2 f q (i32 n) (i32 k) (T.2 []) = some (r, T.2 []) ∧ (r = -1 → Can M (T.2 []) q k n)
  | m, k, 0 => fun _ h => absurd h (Nat.not_lt_zero _)
  | 0, k, f + 1 => fun hk _ => by
    have hn := hr.2.1
    unfold fX5_wrongTold_2 fX6_wrongIn_2
    simp only [if_pos ((gle (show n ≤ 1000 by omega) (show k ≤ 1000 by omega)).mpr (by omega))]
    exact ⟨-1, rfl, rfl, fun _ j h1 h2 => absurd h2 (by omega)⟩
  | m + 1, k, f + 1 => fun hk hf => by
    have hn := hr.2.1
    have hq := hr.1
    have hM := h.1.1.m3
    have e10 := h.cells.2.2.2.2.2
    have hk40 : k < 40 := by omega
    have he := hr.2.2 k hk40
    have nk : ¬ i32 n ≤ i32 k := fun z => by have := (gle (show n ≤ 1000 by omega) (show k ≤ 1000 by omega)).mp z; omega
    have k1 : i32 k ≠ -1 := i32_ne1 (by omega)
    unfold fX5_wrongTold_2 fX6_wrongIn_2
    simp only [if_neg nk, if_pos (gix hq (by decide)), if_pos (gix hk40 (by decide)), gnat (show q ≤ 1000 by omega), gnat (show k ≤ 1000 by omega), he]
    generalize eX : (T.2 []).2 (5 + q) k = X at he
    by_cases hx : 0 ≤ X ∧ X ≤ 6
    · obtain ⟨a, ha, e1, e2⟩ := act_of hx
      have n1 : ¬ lg_cmp X (0 : Int64) < 0 := fun z => absurd hx.1 (Int64.not_le.mpr (cmp_lt.mp z))
      have n2 : ¬ 0 < lg_cmp X (6 : Int64) := fun z => absurd hx.2 (Int64.not_le.mpr (cmp_gt.mp z))
      rw [if_neg n1, if_neg n2, e2, canDo_S h ha, obind, e1, okR_canAct h.1.1 e10 ha, obind]
      dsimp only
      by_cases z : 1 ≤ a ∧ a < 4 ∧ M < a
      · rw [if_pos z, if_neg (show ¬ canB M a by unfold canB; omega), if_pos rfl, if_pos rfl, mrg_sel injA]
        exact ⟨_, rfl, rfl, fun z => absurd z k1⟩
      · rw [if_neg z, if_pos (show canB M a by unfold canB; omega), if_neg (by decide), if_neg (by decide), mrg_sel injA, i32_succ]
        obtain ⟨r, q1, q2, q3⟩ := wrong_loop h hr m (k + 1) f (by omega) (by omega)
        refine ⟨r, q1, q2, fun z j h1 h2 => ?_⟩
        by_cases hj : j = k
        · subst hj
          exact ⟨a, ⟨ha, fun _ _ => by omega⟩, by rw [eX]; exact e2⟩
        · exact q3 z j (by omega) h2
    · rw [okR_canAct_out hx, obind, if_pos rfl]
      by_cases n1 : lg_cmp X (0 : Int64) < 0
      · rw [if_pos n1]
        exact ⟨_, rfl, rfl, fun z => absurd z k1⟩
      · have n2 : 0 < lg_cmp X (6 : Int64) := cmp_gt.mpr (Int64.not_le.mp (fun z => hx ⟨Int64.not_lt.mp (fun y => n1 (cmp_lt.mpr y)), z⟩))
        rw [if_neg n1, if_pos n2]
        exact ⟨_, rfl, rfl, fun z => absurd z k1⟩
end TOLD
