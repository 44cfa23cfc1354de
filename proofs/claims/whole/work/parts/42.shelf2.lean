/-! PURE MATHEMATICS, 24: the shelves' calls, on. -/
theorem z01 : ((0 : Int32) = 1) = False := by decide
theorem z02 : ((0 : Int32) = 2) = False := by decide
theorem z12 : ((1 : Int32) = 2) = False := by decide
theorem z20 : ((2 : Int32) = 0) = False := by decide
theorem z21 : ((2 : Int32) = 1) = False := by decide
theorem ne_m1 {n : Nat} (h : n ≤ 1000) : (i32 n = (-1 : Int32)) = False := eq_false (i32_ne1 h)
section SHELF
variable {L : Int} {S S' : SS} {T : TF} {s s' : SS} {q n : Nat} {x y z : Int32}
theorem okS_holds {o : Nat} (ho : o ≤ 1000) {s : SS} (h : s.1 0 0 = i32 o) : fX3_holdsRow s = some (if o ≤ 4 then 1 else 0, s) := by
  unfold fX3_holdsRow fX3_holdsRow_0
  rw [h, if_neg (Int32.not_lt.mpr (i32_nn (by unfold B31; omega)))]
  by_cases z : o ≤ 4
  · rw [if_neg (fun y => absurd ((l_lt (n := 4) (by unfold B31; omega) (by decide)).mp y) (by omega)), if_pos z]
  · rw [if_pos ((l_lt (n := 4) (by unfold B31; omega) (by decide)).mpr (by omega)), if_neg z]
/-- what a shelf's row says of both -/
theorem rowF (h : SHr n S s q) (hq : q < 8) : (S.1 (61 + 2 * q) 0 = -1 ∧ fX5_rowFault (i32 q) S = some (-4, S) ∧ fX6_noRow (i32 q) s = (fX6_refuse (-4 : Int32) s).bind fun z => some (z.1, z.2)) ∨
    ((∃ o m : Nat, o ≤ 4 ∧ m ≤ 40 ∧ S.1 (61 + 2 * q) 0 = i32 o ∧ S.1 (61 + 2 * q) 1 = i32 m ∧ s.1 1 q = 1 ∧ s.1 2 q = i32 o ∧ s.1 3 q = i32 m ∧ ∀ j : Nat, j < 40 → S.2 (61 + 2 * q + 1) j = s.2 (5 + q) j) ∧ fX5_rowFault (i32 q) S = some (0, S) ∧ fX6_noRow (i32 q) s = some (0, s)) ∨
    ((∃ l : Nat, l < n ∧ l < 4 ∧ S.1 (61 + 2 * q) 0 = i32 (10 + l) ∧ s.1 1 q = 2 ∧ s.1 14 q = i32 l) ∧ fX5_rowFault (i32 q) S = some (-3, S) ∧ fX6_noRow (i32 q) s = (fX6_refuse (-3 : Int32) s).bind fun z => some (z.1, z.2)) := by
  have h7 : (0 ≤ i32 q ∧ i32 q ≤ (7 : Int32)) := ⟨i32_nn (by unfold B31; omega), (le_l (n := 7) (by unfold B31; omega) (by decide)).mpr (by omega)⟩
  have ix : ixB (i32 q) 8 := gix hq (by decide)
  have g : (i32 q).toNatClampNeg = q := gnat (by omega)
  rcases h with ⟨h1, h2⟩ | ⟨o, m, h1, h2, h3, h4, h5, h6⟩ | ⟨l, h1, h2, h3, h4, h5⟩
  · refine Or.inl ⟨h1, ?_, ?_⟩
    · unfold fX5_rowFault fX5_rowFault_0
      simp only [okC_isShelf, obind, iteB, if_pos h7, if_pos ix, g, h1]
      rfl
    · unfold fX6_noRow fX6_noRow_0
      simp only [in07, obind, if_pos h7, if_pos ix, g, h2, z01, z02, z12, z20, z21, i10, if_true, if_false]
  · refine Or.inr (Or.inl ⟨⟨o, m, h1, h2, h3, h4, h5, h6⟩, ?_, ?_⟩)
    · unfold fX5_rowFault fX5_rowFault_0
      simp only [okC_isShelf, obind, iteB, if_pos h7, if_pos ix, g, h3, ne_m1 (show o ≤ 1000 by omega), if_false, okS_holds (o := o) (s := selS (fun k => 61 + 2 * q + k) S) (by omega) h3, if_pos h1, mrg_sel injA]
      rfl
    · unfold fX6_noRow fX6_noRow_0
      simp only [in07, obind, if_pos h7, if_pos ix, g, h5, z01, z02, z12, z20, z21, i10, if_true, if_false]
  · refine Or.inr (Or.inr ⟨⟨l, h1, h2, h3, h4, h5⟩, ?_, ?_⟩)
    · unfold fX5_rowFault fX5_rowFault_0
      simp only [okC_isShelf, obind, iteB, if_pos h7, if_pos ix, g, h3, ne_m1 (show 10 + l ≤ 1000 by omega), if_false, okS_holds (o := 10 + l) (s := selS (fun k => 61 + 2 * q + k) S) (by omega) h3, if_neg (show ¬ 10 + l ≤ 4 by omega), mrg_sel injA]
      rfl
    · unfold fX6_noRow fX6_noRow_0
      simp only [in07, obind, if_pos h7, if_pos ix, g, h4, z01, z02, z12, z20, z21, i10, if_true, if_false]
theorem rowF_bad (h : ¬ (0 ≤ x ∧ x ≤ (7 : Int32))) : fX5_rowFault x S = some (-2, S) ∧ fX6_noRow x s = (fX6_refuse (-2 : Int32) s).bind fun z => some (z.1, z.2) := by
  constructor
  · unfold fX5_rowFault fX5_rowFault_0
    simp only [okC_isShelf, obind, if_neg h, if_true]
  · unfold fX6_noRow fX6_noRow_0
    simp only [in07, obind, if_neg h, if_true]
theorem bad_of {a : Nat} (h : RR L S T) (h2 : 2 ≤ a) (h6 : a ≤ 6) : Both L ((fX5_refuse (-i32 a) S).bind fun z => some (z.1, z.2)) ((fX6_refuse (-i32 a) (T.2 [])).bind fun z => some (z.1, z.2)) T := Both.refuse h h2 h6 rfl rfl
theorem RC.rr {c : CN} {N t M : Nat} (h0 : T.1 [] = true) (h : RC c N t M L S T) : RR L S T := ⟨h0, c, N, t, M, h⟩
theorem both_element (h : RR L S T) : ∃ r : Int64, fX5_element x y S = some (r, S) ∧ fX6_element x y (T.2 []) = some (r, T.2 []) := by
  obtain ⟨h0, c, N, t, M, h⟩ := h
  unfold fX5_element fX5_element_0 fX6_element fX6_element_0
  simp only [okC_isShelf, in07, obind, iteB]
  by_cases h1 : 0 ≤ x ∧ x ≤ 7
  · obtain ⟨q, hq, e⟩ := of_le (b := 7) (by decide) h1
    subst e
    have ix : ixB (i32 q) 8 := gix (by omega) (by decide)
    have g : (i32 q).toNatClampNeg = q := gnat (by omega)
    simp only [if_pos h1, if_pos ix, g]
    have hsh := h.2.2.2.2.2.1 q (by omega)
    rcases hsh with ⟨h1, h2⟩ | ⟨o, m, h1, h2, h3, h4, h5, h6, h7, h8⟩ | ⟨l, h1, h2, h3, h4, h5⟩
    · have e1 : fX3_holdsRow (selS (fun k => 61 + 2 * q + k) S) = some (0, selS (fun k => 61 + 2 * q + k) S) := by
        unfold fX3_holdsRow fX3_holdsRow_0
        rw [show (selS (fun k => 61 + 2 * q + k) S).1 0 0 = -1 from h1, if_pos (by decide)]
      simp only [e1, obind, h2, mrg_sel injA, if_pos (show (0 : Int32) = 0 from rfl), if_neg (show ¬ (0 : Int32) = 1 by decide)]
      exact ⟨0, rfl, rfl⟩
    · simp only [okS_holds (o := o) (s := selS (fun k => 61 + 2 * q + k) S) (by omega) h3, if_pos h1, obind, i10, if_false, mrg_sel injA, h4, okC_within, iteB, h5, if_pos (show (1 : Int32) = 1 from rfl), h7, in0v]
      by_cases hy : 0 ≤ y ∧ y ≤ i32 m - 1
      · obtain ⟨j, hj, e⟩ := (of_lt (by omega)).mp hy
        subst e
        simp only [if_pos hy, if_pos (gix (show j < 40 by omega) (show 40 ≤ 1000 by decide)), gnat (show j ≤ 1000 by omega)]
        exact ⟨(T.2 []).2 (5 + q) j, by rw [h8 j (by omega)], rfl⟩
      · simp only [if_neg hy]
        exact ⟨0, rfl, rfl⟩
    · simp only [okS_holds (o := 10 + l) (s := selS (fun k => 61 + 2 * q + k) S) (by omega) h3, if_neg (show ¬ 10 + l ≤ 4 by omega), obind, if_pos (show (0 : Int32) = 0 from rfl), mrg_sel injA, h4, if_neg (show ¬ (2 : Int32) = 1 by decide)]
      exact ⟨0, rfl, rfl⟩
  · simp only [if_neg h1]
    exact ⟨0, rfl, rfl⟩
theorem both_holds (h : RR L S T) : Both L (fX5_holds x S) (fX6_holds x (T.2 [])) T := by
  have hid := h.id
  obtain ⟨h0, c, N, t, M, h⟩ := h
  unfold fX5_holds fX5_holds_0 fX6_holds fX6_holds_0
  simp only [okC_isShelf, in07, obind, iteB]
  by_cases h1 : 0 ≤ x ∧ x ≤ 7
  · obtain ⟨q, hq, e⟩ := of_le (b := 7) (by decide) h1
    subst e
    have ix : ixB (i32 q) 8 := gix (by omega) (by decide)
    have g : (i32 q).toNatClampNeg = q := gnat (by omega)
    simp only [if_pos h1, if_pos ix, g]
    have hsh := h.2.2.2.2.2.1 q (by omega)
    rcases hsh with ⟨h1, h2⟩ | ⟨o, m, h1, h2, h3, h4, h5, h6, h7, h8⟩ | ⟨l, h1, h2, h3, h4, h5⟩
    · rw [h1, h2, if_pos rfl]
      exact Both.of rfl rfl hid
    · rw [h3, h5, if_neg (by decide), if_pos rfl, h6]
      exact Both.of rfl rfl hid
    · rw [h3, h4, if_neg (by decide), if_neg (by decide), h5, show (10 : Int32) = i32 10 from rfl, i32_add]
      exact Both.of rfl rfl hid
  · simp only [if_neg h1]
    exact Both.of rfl rfl hid
theorem RC.licker {c : CN} {N t M : Nat} (h : RC c N t M L S T) : S.1 1 3 = c 5 3 ∧ (T.2 []).1 0 22 = c 5 3 ∧ c 5 3 = i32 (lk c) ∧ lk c ≤ 4 := by
  obtain ⟨n, hn, e⟩ := h.2.1.1
  have e2 : lk c = n := by unfold lk; rw [e]; exact gnat (by omega)
  exact ⟨h.2.2.1 1 3 5 3 rfl, h.2.2.2.1 0 22 5 3 rfl, by rw [e2]; exact e, by omega⟩
theorem okM_isLicker {c : CN} {N t M : Nat} (h : RC c N t M L S T) : fX5_isLicker x S = some (if 0 ≤ x ∧ x ≤ i32 (lk c) - 1 then 1 else 0, S) := by
  have hl := h.licker
  unfold fX5_isLicker fX5_isLicker_0
  rw [okC_within, obind, hl.1, hl.2.2.1]
  dsimp only
  rw [nbZ_b]
theorem okR_isLicker {c : CN} {N t M : Nat} (h : RC c N t M L S T) : fX6_isLicker x (T.2 []) = some (if 0 ≤ x ∧ x ≤ i32 (lk c) - 1 then 1 else 0, T.2 []) := by
  have hl := h.licker
  unfold fX6_isLicker fX6_isLicker_0
  rw [in0v, obind, hl.2.1, hl.2.2.1]
  dsimp only
  rw [nbZ_b]
theorem both_show (h : RR L S T) : Both L (fX5_show x y S) (fX6_show x y (T.2 [])) T := by
  have hh := h
  have bad := bad_of (a := 2) h (by decide) (by decide)
  obtain ⟨h0, c, N, t, M, h⟩ := h
  unfold fX5_show fX5_show_0 fX5_show_20 fX6_show fX6_show_0 fX6_show_25
  simp only [okC_isShelf, in07, obind, iteB, okM_isLicker h, okR_isLicker h]
  by_cases h1 : 0 ≤ x ∧ x ≤ 7
  · obtain ⟨q, hq, e⟩ := of_le (b := 7) (by decide) h1
    subst e
    have hq8 : q < 8 := by omega
    have ix : ixB (i32 q) 8 := gix (by omega) (by decide)
    have g : (i32 q).toNatClampNeg = q := gnat (by omega)
    simp only [if_pos h1]
    by_cases hy : y = -1
    · subst hy
      unfold fX5_show_27 fX6_show_32 fX6_show_47
      simp only [if_pos (show (-1 : Int32) = -1 from rfl), if_pos ix, g]
      unfold fX3_clearAway fX3_clearAway_0
      simp only [obind]
      have mg := mrg2 (A := 61 + 2 * q) (S := S) (s := wrI (wrI (selS (fun k => 61 + 2 * q + k) S) 0 0 (-1 : Int32)) 0 1 (0 : Int32))
      refine Both.of rfl rfl (hh.shelf hq8 mg.1 (fun a b _ hab => ?_) (fun _ _ _ => rfl) (fun c N t M _ => Or.inl ⟨?_, ?_⟩))
      · unfold wrI
        dsimp only
        rcases hab with hab | hab
        · rw [upd2_ne hab.2.2.2, upd2_ne hab.1]
        · rw [upd2_jne hab, upd2_jne hab]
      · rw [mg.2.1.1]; rfl
      · show upd2 (upd2 (T.2 []).1 1 q 0) 14 q (-1) 1 q = 0
        rw [upd2_ne (by decide), upd2_same, if_pos rfl]
    · simp only [if_neg hy]
      by_cases hl : 0 ≤ y ∧ y ≤ i32 (lk c) - 1
      · have hk := h.licker.2.2.2
        obtain ⟨l, hl', e⟩ := (of_lt (by omega)).mp hl
        subst e
        unfold fX5_show_27 fX6_show_32 fX6_show_47
        simp only [if_pos hl, if_neg hy, if_pos ix, g]
        unfold fX3_holdLicker fX3_holdLicker_0
        simp only [obind]
        have mg := mrg2 (A := 61 + 2 * q) (S := S) (s := wrI (wrI (selS (fun k => 61 + 2 * q + k) S) 0 0 ((10 : Int32) + i32 l)) 0 1 (0 : Int32))
        have hs1 : ∀ s' : SS, s' = wrI (wrI (T.2 []) 1 q (2 : Int32)) 14 q (i32 l) → SHr (lk c) (mrgS (fun k => 61 + 2 * q + k) 2 S (wrI (wrI (selS (fun k => 61 + 2 * q + k) S) 0 0 ((10 : Int32) + i32 l)) 0 1 (0 : Int32))) s' q := by
          intro s' es
          subst es
          refine Or.inr (Or.inr ⟨l, hl', by omega, ?_, ?_, ?_⟩)
          · rw [mg.2.1.1]
            show (10 : Int32) + i32 l = _
            rw [show (10 : Int32) = i32 10 from rfl, i32_add]
          · show upd2 (upd2 (T.2 []).1 1 q 2) 14 q (i32 l) 1 q = 2
            rw [upd2_ne (by decide), upd2_same, if_pos rfl]
          · show upd2 (upd2 (T.2 []).1 1 q 2) 14 q (i32 l) 14 q = i32 l
            rw [upd2_same, if_pos rfl]
        refine Both.of rfl rfl (hh.shelf hq8 mg.1 (fun a b _ hab => ?_) (fun _ _ _ => rfl) (fun c' N' t' M' h' => ?_))
        · unfold wrI
          dsimp only
          rcases hab with hab | hab
          · rw [upd2_ne hab.2.2.2, upd2_ne hab.1]
          · rw [upd2_jne hab, upd2_jne hab]
        · have e : lk c' = lk c := by
            unfold lk
            rw [← h'.licker.1, ← h.licker.1]
          rw [e]
          exact hs1 _ rfl
      · simp only [if_neg hl]
        exact bad
  · simp only [if_neg h1]
    exact bad
end SHELF
