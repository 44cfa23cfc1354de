/-! PURE MATHEMATICS, 29: status; anew; image; back. -/
theorem in1216 {x : Int32} {s : SS} : fX6_in x.toInt64 (12 : Int64) (16 : Int64) s = some (if 12 ≤ x ∧ x ≤ 16 then 1 else 0, s) := okR_in32 (by decide) (by decide)
theorem in1821 {x : Int32} {s : SS} : fX6_in x.toInt64 (18 : Int64) (21 : Int64) s = some (if 18 ≤ x ∧ x ≤ 21 then 1 else 0, s) := okR_in32 (by decide) (by decide)
section STATUS
variable {c d : CN} {N t M : Nat} {L L' : Int} {v : CN} {w : Nat → Nat → Int64} {S : SS} {T : TF} {x y : Int32}
theorem shelves_both (h : RC c N t M L S T) : ∀ (m k f g : Nat) (a : Int32), k + m = 8 → m < f → m < g → ∃ r : Int32, fX5_shelvesInUse_4 f a (i32 k) S = some (r, S) ∧ fX6_status_198 g a (i32 k) (T.2 []) = some (r, T.2 [])
  | m, k, 0, g, a => fun _ h => absurd h (Nat.not_lt_zero _)
  | m, k, f + 1, 0, a => fun _ _ h => absurd h (Nat.not_lt_zero _)
  | 0, k, f + 1, g + 1, a => fun hk _ _ => by
    have : k = 8 := by omega
    subst this
    unfold fX5_shelvesInUse_4 fX6_status_198
    rw [if_pos (show (8 : Int32) ≤ i32 8 by decide), if_pos (show (8 : Int32) ≤ i32 8 by decide)]
    exact ⟨a, rfl, rfl⟩
  | m + 1, k, f + 1, g + 1, a => fun hk hf hg => by
    have hk8 : k < 8 := by omega
    have n8 : ¬ (8 : Int32) ≤ i32 k := fun z => absurd ((l_le (n := 8) (by unfold B31; omega) (by decide)).mp z) (by omega)
    unfold fX5_shelvesInUse_4 fX6_status_198
    simp only [if_neg n8, if_pos (gix hk8 (show 8 ≤ 1000 by decide)), gnat (show k ≤ 1000 by omega), i32_succ]
    rcases h.2.2.2.2.2.1 k hk8 with ⟨a1, a2⟩ | ⟨o, m', a1, a2, a3, a4, a5, a6⟩ | ⟨l, a1, a2, a3, a4, a5⟩
    · rw [a1, a2, if_pos rfl, if_pos rfl, Int32.add_zero]
      exact shelves_both h m (k + 1) f g a (by omega) (by omega) (by omega)
    · rw [a3, a5, if_neg (i32_ne1 (by omega)), if_neg (by decide)]
      exact shelves_both h m (k + 1) f g _ (by omega) (by omega) (by omega)
    · rw [a3, a4, if_neg (i32_ne1 (by omega)), if_neg (by decide)]
      exact shelves_both h m (k + 1) f g _ (by omega) (by omega) (by omega)
theorem both_status (h : RR L S T) : Both L (fX5_status x S) (fX6_status x (T.2 [])) T := by
  have hid := h.id
  obtain ⟨h0, c, N, t, M, h⟩ := h
  obtain ⟨v, w⟩ := S
  have hM := h.2.2.1
  have hR := h.2.2.2.1
  have hF := h.2.2.2.2.2.2.2
  obtain ⟨⟨n, hn, n1, n2⟩, _⟩ := h.2.2.2.2.2.2.1
  have same : ∀ (a b : Int32), a = b → Both L (some (a, (v, w))) (some (b, T.2 [])) T := fun a b e => by rw [e]; exact Both.of rfl rfl hid
  have m2 : ∀ j : Nat, j < 12 → v 2 j = c 0 j := fun j hj => hM 2 j 0 j (by unfold atL φW szC; rw [if_pos (by decide), if_neg (by decide), if_pos (by decide)]; exact if_pos hj)
  have e13 : v 1 3 = c 5 3 := rdM hM rfl
  have e16 : v 1 6 = c 5 6 := rdM hM rfl
  unfold fX5_status fX5_status_0 fX6_status fX6_status_0
  rw [in1216, obind]
  dsimp only
  by_cases hx : ∃ k : Nat, k ≤ 21 ∧ x = i32 k
  · obtain ⟨k, hk, e⟩ := hx
    have : k = 0 ∨ k = 1 ∨ k = 2 ∨ k = 3 ∨ k = 4 ∨ k = 5 ∨ k = 6 ∨ k = 7 ∨ k = 8 ∨ k = 9 ∨ k = 10 ∨ k = 11 ∨ k = 12 ∨ k = 13 ∨ k = 14 ∨ k = 15 ∨ k = 16 ∨ k = 17 ∨ k = 18 ∨ k = 19 ∨ k = 20 ∨ k = 21 := by omega
    rcases this with z | z | z | z | z | z | z | z | z | z | z | z | z | z | z | z | z | z | z | z | z | z <;> subst z <;> subst e <;> simp (decide := true) only [in1821, obind, if_true, if_false]
    · exact same _ _ ((m2 0 (by decide)).trans (hR 0 9 0 0 rfl).symm)
    · exact same _ _ ((m2 11 (by decide)).trans (hR 0 10 0 11 rfl).symm)
    · exact same _ _ (e13.trans (hR 0 22 5 3 rfl).symm)
    · exact same _ _ ((m2 7 (by decide)).trans (hR 0 18 0 7 rfl).symm)
    · exact same _ _ ((m2 8 (by decide)).trans (hR 0 19 0 8 rfl).symm)
    · exact same _ _ ((m2 9 (by decide)).trans (hR 0 20 0 9 rfl).symm)
    · obtain ⟨z, e1, e2⟩ := okM_rd (w := w) hM (fun u w => okC_left (u := u) (w := w) h.1.1)
      have g1 := okR_at (T := T) hR (fun u w => okR_left (u := u) (w := w) h.1.1)
      rw [← hR.mk] at g1
      dsimp only at e1 e2
      rw [e1, g1, obind, obind]
      dsimp only
      rw [e2]
      exact same _ _ rfl
    · exact same _ _ ((m2 10 (by decide)).trans (hR 0 21 0 10 rfl).symm)
    · exact same _ _ ((m2 1 (by decide)).trans (hR 0 15 0 1 rfl).symm)
    · exact same _ _ ((m2 2 (by decide)).trans (hR 0 16 0 2 rfl).symm)
    · exact same _ _ (n1.trans n2.symm)
    · exact same _ _ (e16.trans (hR 0 27 5 6 rfl).symm)
    · exact same _ _ (hF 2 (by decide) (by decide))
    · exact same _ _ (hF 3 (by decide) (by decide))
    · exact same _ _ (hF 4 (by decide) (by decide))
    · exact same _ _ (hF 5 (by decide) (by decide))
    · exact same _ _ (hF 6 (by decide) (by decide))
    · unfold fX5_shelvesInUse fX5_shelvesInUse_0
      obtain ⟨r, r1, r2⟩ := shelves_both h 8 0 FU FU 0 (by decide) (by decide) (by decide)
      have r1' : fX5_shelvesInUse_4 FU 0 0 (v, w) = some (r, (v, w)) := r1
      have r2' : fX6_status_198 FU 0 0 (T.2 []) = some (r, T.2 []) := r2
      rw [r1', r2', obind]
      exact same _ _ rfl
    · exact same _ _ ((m2 3 (by decide)).trans (hR 24 0 0 3 rfl).symm)
    · exact same _ _ ((m2 4 (by decide)).trans (hR 24 1 0 4 rfl).symm)
    · exact same _ _ ((m2 5 (by decide)).trans (hR 24 2 0 5 rfl).symm)
    · exact same _ _ ((m2 6 (by decide)).trans (hR 24 3 0 6 rfl).symm)
  · have ne : ∀ k : Nat, k ≤ 21 → ¬ x = i32 k := fun k hk e => hx ⟨k, hk, e⟩
    have nb1 : ¬ (12 ≤ x ∧ x ≤ 16) := fun q => by
      obtain ⟨k, k1, k2, e⟩ := of_bet (a := 12) (b := 16) (by decide) q (by decide)
      exact ne k (by omega) e
    have nb2 : ¬ (18 ≤ x ∧ x ≤ 21) := fun q => by
      obtain ⟨k, k1, k2, e⟩ := of_bet (a := 18) (b := 21) (by decide) q (by decide)
      exact ne k (by omega) e
    rw [if_neg nb1, if_pos rfl, in1821, obind]
    dsimp only
    rw [if_neg nb2, if_pos rfl]
    have nl : ∀ n : Nat, n ≤ 21 → ¬ x = (OfNat.ofNat n : Int32) := ne
    rw [if_neg (nl 0 (by decide)), if_neg (nl 1 (by decide)), if_neg (nl 2 (by decide)), if_neg (nl 3 (by decide)), if_neg (nl 4 (by decide)), if_neg (nl 5 (by decide)), if_neg (nl 6 (by decide)), if_neg (nl 7 (by decide)), if_neg (nl 8 (by decide)), if_neg (nl 9 (by decide)), if_neg (nl 10 (by decide)), if_neg (nl 11 (by decide)), if_neg (nl 12 (by decide)), if_neg (nl 13 (by decide)), if_neg (nl 14 (by decide)), if_neg (nl 15 (by decide)), if_neg (nl 16 (by decide)), if_neg (nl 17 (by decide)), if_neg (nl 18 (by decide)), if_neg (nl 19 (by decide)), if_neg (nl 20 (by decide)), if_neg (nl 21 (by decide))]
    rw [if_neg (nl 0 (by decide)), if_neg (nl 1 (by decide)), if_neg (nl 2 (by decide)), if_neg (nl 3 (by decide)), if_neg (nl 4 (by decide)), if_neg (nl 5 (by decide)), if_neg (nl 6 (by decide)), if_neg (nl 7 (by decide)), if_neg (nl 8 (by decide)), if_neg (nl 9 (by decide)), if_neg (nl 10 (by decide)), if_neg (nl 11 (by decide)), if_neg (nl 12 (by decide)), if_neg (nl 13 (by decide)), if_neg (nl 14 (by decide)), if_neg (nl 15 (by decide)), if_neg (nl 16 (by decide)), if_neg (nl 17 (by decide))]
    exact same _ _ rfl
theorem zeroR_eq : zeroR c = fun p j => if p = 4 ∧ j < 8 then 0 else c p j := by
  have key : ∀ (m k : Nat) (d : CN), k + m = 8 → d = (fun p j => if p = 4 ∧ j < k then 0 else c p j) → up (fun k d => upd2 d 4 k 0) m k d = fun p j => if p = 4 ∧ j < 8 then 0 else c p j := by
    intro m
    induction m with
    | zero => intro k d hk e; rw [show k = 8 by omega] at e; exact e
    | succ m ih =>
      intro k d hk e
      refine ih (k + 1) _ (by omega) ?_
      subst e
      funext p j
      dsimp only
      by_cases hp : p = 4
      · subst hp
        rw [upd2_same]
        by_cases hj : j = k
        · rw [if_pos hj, if_pos (by omega)]
        · rw [if_neg hj]
          by_cases hj2 : j < k
          · rw [if_pos (by omega), if_pos (by omega)]
          · rw [if_neg (by omega), if_neg (by omega)]
      · rw [upd2_ne hp, if_neg (by omega), if_neg (by omega)]
  exact key 8 0 c (by decide) (by funext p j; rw [if_neg (by omega)])
theorem okR_anew12 {r : Int32} {u : CN} : ∀ (m k f : Nat) (c : CN), k + m = 8 → m < f → fX6_anew_12 f r (i32 k) (put φR c u, w) = some (r, (put φR (upd2 (upd2 (up (fun k d => upd2 d 4 k 0) m k c) 0 10 0) 5 5 0) u, w))
  | m, k, 0, c => fun _ h => absurd h (Nat.not_lt_zero _)
  | 0, k, f + 1, c => fun hk _ => by
    have : k = 8 := by omega
    subst this
    have e21 : φR 0 21 = some (0, 10) := rfl
    have e25 : φR 0 25 = some (5, 5) := rfl
    unfold fX6_anew_12
    rw [if_pos (show (8 : Int32) ≤ i32 8 by decide), wR e21, wR e25]
    rfl
  | m + 1, k, f + 1, c => fun hk hf => by
    have hk8 : k < 8 := by omega
    unfold fX6_anew_12
    rw [if_neg (fun z => absurd ((l_le (n := 8) (by unfold B31; omega) (by decide)).mp z) (by omega)), if_pos (gix hk8 (by decide)), gnat (by omega), wR (fR_rim hk8), i32_succ]
    exact okR_anew12 m (k + 1) f _ (by omega) (by omega)
theorem mEmpty_eq : upd2 (up (fun k d => upd2 d 4 k 0) 8 0 (upd2 c 0 11 0)) 0 10 0 = mEmpty c := by
  have e := zeroR_eq (c := upd2 c 0 11 0)
  unfold zeroR at e
  rw [e]
  unfold mEmpty
  rw [zeroR_eq]
  funext p j
  by_cases hp : p = 0
  · subst hp
    rw [upd2_same]
    rw [if_neg (show ¬ (0 = 4 ∧ j < 8) by omega), if_neg (show ¬ (0 = 4 ∧ j < 8) by omega), upd2_same (S := upd2 c 0 11 0)]
  · rw [upd2_ne hp]
    split
    · rfl
    · rw [upd2_ne (S := upd2 c 0 11 0) hp]
theorem mEmpty_5 {p : Nat} (hp : 5 ≤ p) : mEmpty c p = c p := by
  unfold mEmpty
  rw [zeroR_eq]
  funext j
  dsimp only
  rw [if_neg (by omega), upd2_ne (by omega), upd2_ne (by omega)]
theorem mEmpty_OK (h : OK c N t M L) : OK (upd2 (mEmpty c) 5 5 0) N t 0 L := by
  have e0 : ∀ j : Nat, upd2 (mEmpty c) 5 5 0 0 j = if j = 10 then 0 else if j = 11 then 0 else c 0 j := fun j => by
    rw [upd2_ne (by decide)]
    unfold mEmpty
    rw [zeroR_eq]
    dsimp only
    rw [if_neg (by omega), upd2_same, upd2_same]
  have e1 : ∀ p : Nat, p = 1 ∨ p = 2 ∨ p = 3 → upd2 (mEmpty c) 5 5 0 p = c p := fun p hp => by
    rw [upd2_ne (by omega)]
    unfold mEmpty
    rw [zeroR_eq]
    funext j
    dsimp only
    rw [if_neg (by omega), upd2_ne (by omega), upd2_ne (by omega)]
  have e4 : ∀ k : Nat, k < 8 → upd2 (mEmpty c) 5 5 0 4 k = 0 := fun k hk => by
    rw [upd2_ne (by decide)]
    unfold mEmpty
    rw [zeroR_eq]
    dsimp only
    rw [if_pos ⟨rfl, hk⟩]
  refine ⟨⟨?_, ?_, ?_, h.1.n3, h.1.n8, h.1.tN, by omega⟩, ⟨?_, ?_, ?_, fun k hk => ?_, ?_⟩, fun j h7 h10 => ?_, h.2.2.2⟩
  · rw [e0, if_neg (by decide), if_neg (by decide)]; exact h.1.1
  · rw [e0, if_neg (by decide), if_neg (by decide)]; exact h.1.2.1
  · rw [e0, if_neg (by decide), if_pos rfl]; rfl
  · rw [e1 1 (by decide)]; exact h.2.1.1
  · rw [e1 2 (by decide)]; exact h.2.1.2.1
  · intro i k hi hk
    unfold wt
    rw [e1 3 (by decide)]
    exact h.2.1.2.2.1 i k hi hk
  · rw [e4 k hk]; exact ⟨Int.le_refl _, (by decide : (0 : Int32).toInt ≤ 20)⟩
  · rw [e0, e0, e0, e0, if_neg (by decide), if_neg (by decide), if_neg (by decide), if_neg (by decide), if_neg (by decide), if_neg (by decide), if_neg (by decide), if_neg (by decide)]
    exact h.2.1.2.2.2.2
  · have := h.2.2.1 j h7 h10
    rw [e0]
    split
    · have e : (0 : Int32).toInt = 0 := rfl
      rw [e]; omega
    · rw [if_neg (by omega)]; exact this
theorem both_anew (h : RR L S T) : Both L (fX5_anew S) (fX6_anew (T.2 [])) T := by
  obtain ⟨h0, c, N, t, M, h⟩ := h
  obtain ⟨v, w⟩ := S
  obtain ⟨z, e1, e2⟩ := okM_rd (w := w) h.2.2.1 (fun u w => okC_left (u := u) (w := w) h.1.1)
  obtain ⟨y, e3, e4⟩ := okM_at (w := w) (d := mEmpty c) h.2.2.1 (fun p hp => mEmpty_5 hp) (fun u w => okC_empty (u := u) (w := w))
  have g1 := okR_at (T := T) h.2.2.2.1 (fun u w => okR_left (u := u) (w := w) h.1.1)
  rw [← h.2.2.2.1.mk] at g1
  dsimp only at e1 e2 e3 e4
  have e10 : φR 0 10 = some (0, 11) := rfl
  have hw : wrI (put (atL 1 φW) (mEmpty c) v, w) 1 5 0 = (put (atL 1 φW) (upd2 (mEmpty c) 5 5 0) v, w) := wrI_put (atL_ok φW_ok) (show atL 1 φW 1 5 = some (5, 5) from rfl)
  have g2 : fX6_anew_12 FU (mLeft N M c) 0 (wrI (T.2 []) 0 10 0) = some (mLeft N M c, (put φR (upd2 (mEmpty c) 5 5 0) (T.2 []).1, (T.2 []).2)) := by
    rw [wr_R h.2.2.2.1 e10]
    have := okR_anew12 (r := mLeft N M c) (u := (T.2 []).1) (w := (T.2 []).2) 8 0 FU (upd2 c 0 11 0) (by decide) (by decide)
    rw [mEmpty_eq] at this
    exact this
  unfold fX5_anew fX5_anew_0 fX6_anew fX6_anew_0
  simp only [e1, g1, obind, e2, e3, e4, hw, g2]
  refine Both.of rfl rfl (h.truth h0 (mEmpty_OK h.1) ?_ (Int.le_refl _) ?_)
  · refine ⟨?_, ⟨0, by decide, rfl⟩, ?_⟩
    · have := h.2.1.1
      rw [show upd2 (mEmpty c) 5 5 0 5 3 = c 5 3 from by rw [upd2_same, if_neg (by decide), mEmpty_5 (by decide)]]
      exact this
    · rw [show upd2 (mEmpty c) 5 5 0 6 = c 6 from by rw [upd2_ne (by decide), mEmpty_5 (by decide)], show upd2 (mEmpty c) 5 5 0 7 = c 7 from by rw [upd2_ne (by decide), mEmpty_5 (by decide)]]
      exact h.2.1.2.2
  · unfold lk
    rw [upd2_same, if_neg (by decide), mEmpty_5 (by decide)]
    exact Nat.le_refl _
end STATUS
