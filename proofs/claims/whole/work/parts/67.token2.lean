/-! PURE MATHEMATICS, 48: words and numbers of the tape. -/
section TOKEN
variable {s r s1 r1 : SS} {n k fr i lo : Nat} {x y : Int32}
theorem word20 (h : TB s r n) (hi : i < 7) (hl : fr + strLen.getD i 0 ≤ n) (e1 : s.1 0 3 = i32 fr) (e2 : r.1 0 33 = i32 fr) : ∀ (m k f g : Nat), k + m = strLen.getD i 0 → m < f → m < g → ∃ b : Bool, fX1_isWord_20 f i (i32 k) s = some (if b = true then 1 else 0, s) ∧ fX6_isWord_28 g i (i32 k) r = some (if b = true then 1 else 0, r) ∧ (b = true ↔ ∀ j : Nat, k ≤ j → j < strLen.getD i 0 → r.1 15 (fr + j) = sch i j)
  | m, k, 0, g => fun _ h => absurd h (Nat.not_lt_zero _)
  | m, k, f + 1, 0 => fun _ _ h => absurd h (Nat.not_lt_zero _)
  | 0, k, f + 1, g + 1 => fun hk _ _ => by
    have hl2 := strLen_lt i hi
    have es : slen i ≤ i32 k := by
      have : k = strLen.getD i 0 := by omega
      rw [this]
      exact Int32.le_refl _
    unfold fX1_isWord_20 fX6_isWord_28
    rw [if_pos hi, if_pos hi, if_pos es, if_pos es]
    exact ⟨true, rfl, rfl, fun _ j h1 h2 => absurd h2 (by omega), fun _ => rfl⟩
  | m + 1, k, f + 1, g + 1 => fun hk hf hg => by
    have hn := h.1
    have hl2 := strLen_lt i hi
    have es : ¬ slen i ≤ i32 k := fun z => by have := (gle (show strLen.getD i 0 ≤ 1000 by omega) (show k ≤ 1000 by omega)).mp z; omega
    have ea : i32 fr + i32 k = i32 (fr + k) := i32_add fr k
    have ix : ixB (i32 k) (strLen.getD i 0) := gix (by omega) (by omega)
    unfold fX1_isWord_20 fX6_isWord_28
    rw [if_pos hi, if_pos hi, if_neg es, if_neg es, e1, e2, ea, okT_byte h (k := fr + k) (by omega) rfl, obind]
    simp only [if_pos (gix (show fr + k < 250 by omega) (show 250 ≤ 1000 by decide)), if_pos hi, if_pos ix, gnat (show fr + k ≤ 1000 by omega), gnat (show k ≤ 1000 by omega)]
    obtain ⟨b, p1, p2, p3⟩ := word20 h hi hl e1 e2 m (k + 1) f g (by omega) (by omega) (by omega)
    by_cases z : r.1 15 (fr + k) = sch i k
    · rw [if_pos z, if_pos z, i32_succ]
      refine ⟨b, p1, p2, fun hb j h1 h2 => ?_, fun hj => p3.mpr fun j h1 h2 => hj j (by omega) h2⟩
      by_cases hj : j = k
      · rw [hj]; exact z
      · exact p3.mp hb j (by omega) h2
    · rw [if_neg z, if_neg z]
      exact ⟨false, rfl, rfl, fun q => absurd q (by decide), fun q => absurd (q k (Nat.le_refl _) (by omega)) z⟩
/-- the token is the word i -/
def Wd (r : SS) (i : Nat) : Prop := ∃ fr : Nat, fr ≤ 250 ∧ r.1 0 33 = i32 fr ∧ r.1 0 31 = i32 (fr + strLen.getD i 0) ∧ ∀ j : Nat, j < strLen.getD i 0 → r.1 15 (fr + j) = sch i j
theorem word_all : ∀ i : Nat, i < 7 → ∀ j : Nat, j < 7 → i ≠ j → strLen.getD i 0 ≠ strLen.getD j 0 ∨ ((List.range (strLen.getD i 0)).all fun k => decide (sch i k = sch j k)) = false := by decide +kernel
theorem inj32 {a b : Nat} (ha : a ≤ 1000) (hb : b ≤ 1000) (h : i32 a = i32 b) : a = b := by
  have := congrArg Int32.toInt h
  rw [i32_toInt (by unfold B31; omega), i32_toInt (by unfold B31; omega)] at this
  omega
theorem Wd.one {j : Nat} (hi : i < 7) (hj : j < 7) (h : Wd r i) (h' : Wd r j) : i = j := by
  by_cases z : i = j
  · exact z
  · exfalso
    have l1 := strLen_lt i hi
    have l2 := strLen_lt j hj
    obtain ⟨fr, a1, a2, a3, a4⟩ := h
    obtain ⟨fr', b1, b2, b3, b4⟩ := h'
    have e : fr = fr' := inj32 (by omega) (by omega) (a2.symm.trans b2)
    subst e
    have e2 : strLen.getD i 0 = strLen.getD j 0 := by
      have := inj32 (by omega) (by omega) (a3.symm.trans b3)
      omega
    rcases word_all i hi j hj z with q | q
    · exact q e2
    · have : ((List.range (strLen.getD i 0)).all fun k => decide (sch i k = sch j k)) = true := by
        rw [List.all_eq_true]
        intro k hk
        have hk' := List.mem_range.mp hk
        exact decide_eq_true ((a4 k hk').symm.trans (b4 k (by omega)))
      rw [this] at q
      exact absurd q (by decide)
theorem both_word (h : TK s r n lo) (hi : i < 7) (hk : s.1 0 2 = 1) : ∃ b : Bool, fX1_isWord i s = some (if b = true then 1 else 0, s) ∧ fX6_isWord i r = some (if b = true then 1 else 0, r) ∧ (b = true ↔ Wd r i) := by
  obtain ⟨hb, fr, to, _, _, c1, c2, c3, c4, c5, c6, c7, _, _⟩ := h
  have hn := hb.1
  have hl2 := strLen_lt i hi
  have ed : i32 to - i32 fr = i32 (to - fr) := i32_sub (by omega)
  have es : slen i = i32 (strLen.getD i 0) := rfl
  unfold fX1_isWord fX1_isWord_0 fX6_isWord fX6_isWord_0
  rw [← c7, hk, if_pos rfl, if_pos hi, if_pos hi, c3, c4, c5, c6, ed, es]
  by_cases z : strLen.getD i 0 = to - fr
  · rw [if_pos (congrArg i32 z), if_pos (congrArg i32 z).symm]
    obtain ⟨b, p1, p2, p3⟩ := word20 hb hi (by omega) c3 c4 (strLen.getD i 0) 0 FU FU (by omega) (by unfold FU; omega) (by unfold FU; omega)
    refine ⟨b, p1, p2, fun q => ⟨fr, by omega, c4, by rw [c6]; congr 1; omega, fun j hj => p3.mp q j (Nat.zero_le _) hj⟩, fun q => ?_⟩
    obtain ⟨fr', a1, a2, a3, a4⟩ := q
    have e : fr' = fr := inj32 (by omega) (by omega) (a2.symm.trans c4)
    subst e
    exact p3.mpr fun j _ hj => a4 j hj
  · have z' : ¬ i32 (strLen.getD i 0) = i32 (to - fr) := fun q => z (inj32 (by omega) (by omega) q)
    rw [if_neg z', if_neg (fun q => z' q.symm)]
    refine ⟨false, rfl, rfl, fun q => absurd q (by decide), fun q => ?_⟩
    obtain ⟨fr', a1, a2, a3, a4⟩ := q
    have e : fr' = fr := inj32 (by omega) (by omega) (a2.symm.trans c4)
    subst e
    have := inj32 (by omega) (by omega) (a3.symm.trans c6)
    omega
theorem not_word (hk : r.1 0 32 ≠ 1) : fX6_isWord i r = some (0, r) := by
  unfold fX6_isWord fX6_isWord_0
  rw [if_neg hk]
/-- a number in its bounds, or none -/
theorem both_num (h : TK s r n lo) (hy : y < 1000) (hi : i < 2) : (fX1_isNumber x y s = some (0, s) ∧ fX6_number (i32 i) x y r = some (0, wrI r 0 35 (r.1 0 33))) ∨ (fX1_isNumber x y s = some (1, s) ∧ x ≤ s.1 0 5 ∧ s.1 0 5 ≤ y ∧ s.1 0 5 = r.1 0 34 ∧ fX6_number (i32 i) x y r = (fX6_look (wrI r 29 i (r.1 0 34))).bind fun z => some ((1 : Int32), z.2)) := by
  obtain ⟨hb, fr, to, _, _, c1, c2, c3, c4, c5, c6, c7, c8, c9⟩ := h
  have hn := hb.1
  have ed : i32 to - i32 fr = i32 (to - fr) := i32_sub (by omega)
  have bad : fX6_number_23 r = some (0, wrI r 0 35 (r.1 0 33)) := by
    have e : fX6_wrong r = some ((0 : Int32), wrI r 0 35 (r.1 0 33)) := rfl
    have e2 : nbZ 0 = 0 := by decide
    unfold fX6_number_23
    rw [e, obind, e2]
  unfold fX1_isNumber fX1_isNumber_0 fX6_number fX6_number_0
  rw [← c7, c3, c5, ed]
  by_cases k2 : s.1 0 2 = 2
  · rw [if_pos k2, if_pos k2, okR_in32 rfl rfl, obind]
    dsimp only
    rw [iteB]
    by_cases z : to - fr ≤ 2
    · have z' : ¬ (2 : Int32) < i32 (to - fr) := fun q => by have := (l_lt (n := 2) (by unfold B31; omega) (by decide)).mp q; omega
      have ev := c8 k2 z
      rw [if_neg z', ev]
      by_cases h1 : x ≤ r.1 0 34
      · rw [if_neg (Int32.not_lt.mpr h1)]
        by_cases h2 : r.1 0 34 ≤ y
        · rw [if_neg (Int32.not_lt.mpr h2), if_pos ⟨h1, h2⟩, if_pos (gix hi (by decide)), gnat (by omega)]
          exact Or.inr ⟨rfl, h1, h2, rfl, rfl⟩
        · rw [if_pos (Int32.not_le.mp h2), if_neg (fun q => h2 q.2), bad]
          exact Or.inl ⟨rfl, rfl⟩
      · rw [if_pos (Int32.not_le.mp h1), if_neg (fun q => h1 q.1), bad]
        exact Or.inl ⟨rfl, rfl⟩
    · have z' : (2 : Int32) < i32 (to - fr) := (l_lt (n := 2) (by unfold B31; omega) (by decide)).mpr (by omega)
      have ev := c9 k2 (by omega)
      rw [if_pos z', ev, if_neg (fun q => absurd hy (Int32.not_lt.mpr q.2)), bad]
      exact Or.inl ⟨rfl, rfl⟩
  · rw [if_neg k2, if_neg k2, bad]
    exact Or.inl ⟨rfl, rfl⟩
end TOKEN
