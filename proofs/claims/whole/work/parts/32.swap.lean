/-! PURE MATHEMATICS, 14: two scoops change places; which orders there are. -/
def chK (i o k : Nat) (c : CN) : CN := fun p j => if p = 3 ∧ 8 * i ≤ j ∧ j < 8 * i + k then c 3 (8 * o + (j - 8 * i)) else if p = 3 ∧ 8 * o ≤ j ∧ j < 8 * o + k then c 3 (8 * i + (j - 8 * o)) else c p j
def hasL (o : Nat) : Nat → Nat → Int32
  | 0, _ => 1
  | m + 1, i => if ordN o i = i then hasL o m (i + 1) else 0
section OPS
variable {c d u v : CN} {w : Nat → Nat → Int64} {N t M i o : Nat} {x y : Int32}
theorem chK_0 : chK i o 0 c = c := by
  funext p j
  unfold chK
  rw [if_neg (by omega), if_neg (by omega)]
theorem chK_s {k : Nat} (hi : i < 3) (ho : o < 3) (hio : i ≠ o) (hk : k < 8) : upd2 (upd2 (chK i o k c) 3 (8 * i + k) (chK i o k c 3 (8 * o + k))) 3 (8 * o + k) (chK i o k c 3 (8 * i + k)) = chK i o (k + 1) c := by
  have e1 : chK i o k c 3 (8 * o + k) = c 3 (8 * o + k) := by unfold chK; rw [if_neg (by omega), if_neg (by omega)]
  have e2 : chK i o k c 3 (8 * i + k) = c 3 (8 * i + k) := by unfold chK; rw [if_neg (by omega), if_neg (by omega)]
  rw [e1, e2]
  funext p j
  by_cases hp : p = 3
  · subst hp
    rw [upd2_same, upd2_same]
    by_cases z1 : j = 8 * o + k
    · subst z1
      rw [if_pos rfl]
      unfold chK
      rw [if_neg (by omega), if_pos (by omega), show 8 * i + (8 * o + k - 8 * o) = 8 * i + k by omega]
    · rw [if_neg z1]
      by_cases z2 : j = 8 * i + k
      · subst z2
        rw [if_pos rfl]
        unfold chK
        rw [if_pos (by omega), show 8 * o + (8 * i + k - 8 * i) = 8 * o + k by omega]
      · rw [if_neg z2]
        unfold chK
        by_cases y1 : 8 * i ≤ j ∧ j < 8 * i + k
        · rw [if_pos (by omega), if_pos (by omega)]
        · rw [if_neg (by omega), if_neg (show ¬ (3 = 3 ∧ 8 * i ≤ j ∧ j < 8 * i + (k + 1)) by omega)]
          by_cases y2 : 8 * o ≤ j ∧ j < 8 * o + k
          · rw [if_pos (by omega), if_pos (by omega)]
          · rw [if_neg (by omega), if_neg (by omega)]
  · rw [upd2_ne hp, upd2_ne hp]
    unfold chK
    rw [if_neg (by omega), if_neg (by omega), if_neg (by omega), if_neg (by omega)]
theorem okC_ch57 (hi : i < 3) (ho : o < 3) (hio : i ≠ o) : ∀ (m k f : Nat), k + m = 8 → m < f → fX0_changePlaces_57 f (i32 i) (i32 o) (i32 k) (put φC (chK i o k c) u, w) = some ((), (put φC (chK i o 8 c) u, w))
  | m, k, 0 => fun _ h => absurd h (Nat.not_lt_zero _)
  | 0, k, f + 1 => fun hk _ => by
    have : k = 8 := by omega
    subst this
    unfold fX0_changePlaces_57
    rw [if_pos (show (8 : Int32) ≤ i32 8 by decide)]
  | m + 1, k, f + 1 => fun hk hf => by
    have hk8 : k < 8 := by omega
    have hik : 8 * i + k < 24 := by omega
    have hok : 8 * o + k < 24 := by omega
    unfold fX0_changePlaces_57
    rw [if_neg (fun z => absurd ((l_le (n := 8) (by unfold B31; omega) (by decide)).mp z) (by omega)), okC_wetAt hi hk8, obind, okC_wetAt ho hk8, obind]
    simp only [ix8, if_pos (gix hik (by decide)), if_pos (gix hok (by decide)), gnat (a := 8 * i + k) (by omega), gnat (a := 8 * o + k) (by omega), wC (k := 3) hik, wC (k := 3) hok, i32_succ, chK_s hi ho hio hk8]
    exact okC_ch57 hi ho hio m (k + 1) f (by omega) (by omega)
theorem okC_change (hi : i < 3) (ho : o < 3) (hio : i ≠ o) : fX0_changePlaces (i32 i) (i32 o) (put φC c u, w) = some ((), (put φC (mSwap i o c) u, w)) := by
  have fin : chK i o 8 (upd2 (upd2 (upd2 (upd2 c 1 i (c 1 o)) 1 o (c 1 i)) 2 i (c 2 o)) 2 o (c 2 i)) = mSwap i o c := by
    funext p j
    unfold mSwap mRow
    by_cases h3 : p = 3
    · subst h3
      unfold chK mRow3
      by_cases y2 : 8 * o ≤ j ∧ j < 8 * o + 8
      · rw [if_neg (by omega), if_pos (by omega), if_pos (by omega)]
        rfl
      · rw [if_neg (show ¬ (3 = 3 ∧ 8 * o ≤ j ∧ j < 8 * o + 8) by omega)]
        by_cases y1 : 8 * i ≤ j ∧ j < 8 * i + 8
        · rw [if_pos (show 3 = 3 ∧ 8 * i ≤ j ∧ j < 8 * i + 8 by omega), if_neg (show ¬ (3 = 3 ∧ 8 * o ≤ j ∧ j < 8 * o + 8) by omega)]
          show c 3 (8 * o + (j - 8 * i)) = if 3 = 3 ∧ 8 * i ≤ j ∧ j < 8 * i + 8 then c 3 (8 * o + (j - 8 * i)) else c 3 j
          rw [if_pos (by omega)]
        · rw [if_neg (show ¬ (3 = 3 ∧ 8 * i ≤ j ∧ j < 8 * i + 8) by omega), if_neg (show ¬ (3 = 3 ∧ 8 * o ≤ j ∧ j < 8 * o + 8) by omega)]
          show c 3 j = if 3 = 3 ∧ 8 * i ≤ j ∧ j < 8 * i + 8 then c 3 (8 * o + (j - 8 * i)) else c 3 j
          rw [if_neg (by omega)]
    · have e1 : ∀ q : CN, chK i o 8 q p j = q p j := fun q => by unfold chK; rw [if_neg (by omega), if_neg (by omega)]
      have e2 : ∀ (a s : Nat) (q r : CN), mRow3 a s q r p j = r p j := fun a s q r => by unfold mRow3; rw [if_neg (fun z => h3 z.1)]
      rw [e1, e2]
      by_cases h2 : p = 2
      · subst h2
        rw [upd2_same, upd2_same, upd2_ne (by decide), upd2_ne (by decide), upd2_same, upd2_ne (by decide), e2, upd2_same, upd2_ne (by decide)]
      · rw [upd2_ne h2, upd2_ne h2, upd2_ne h2]
        by_cases h1 : p = 1
        · subst h1
          rw [upd2_same, upd2_same, upd2_same, e2, upd2_ne (by decide), upd2_same]
        · rw [upd2_ne h1, upd2_ne h1, upd2_ne h1, e2, upd2_ne h2, upd2_ne h1]
  unfold fX0_changePlaces fX0_changePlaces_0
  simp only [if_pos (gix hi (by decide)), if_pos (gix ho (by decide)), gnat (a := i) (by omega), gnat (a := o) (by omega), rC (k := 1) (j := i) hi, rC (k := 1) (j := o) ho, rC (k := 2) (j := i) hi, rC (k := 2) (j := o) ho, wC (k := 1) (j := i) hi, wC (k := 1) (j := o) ho, wC (k := 2) (j := i) hi, wC (k := 2) (j := o) ho]
  rw [← fin]
  have := okC_ch57 (c := upd2 (upd2 (upd2 (upd2 c 1 i (c 1 o)) 1 o (c 1 i)) 2 i (c 2 o)) 2 o (c 2 i)) (u := u) (w := w) hi ho hio 8 0 FU (by decide) (by decide)
  rw [chK_0] at this
  exact this
theorem okC_has5 (ho : o < 6) {q : SS} : ∀ (m i f : Nat), i + m = 3 → m < f → fX0_hasOrder_5 f (i32 o) (i32 i) q = some (hasL o m i, q)
  | m, i, 0 => fun _ h => absurd h (Nat.not_lt_zero _)
  | 0, i, f + 1 => fun hi _ => by
    have : i = 3 := by omega
    subst this
    unfold fX0_hasOrder_5
    rw [if_pos (show (3 : Int32) ≤ i32 3 by decide)]
    rfl
  | m + 1, i, f + 1 => fun hi hf => by
    have hi3 : i < 3 := by omega
    have hs := ordN_lt (i := i) ho hi3
    unfold fX0_hasOrder_5 hasL
    rw [if_neg (fun z => absurd ((l_le (n := 3) (by unfold B31; omega) (by decide)).mp z) (by omega)), okC_sio ho hi3, obind]
    by_cases z : ordN o i = i
    · rw [if_pos (by rw [z]), if_pos z, i32_succ]
      exact okC_has5 ho m (i + 1) f (by omega) (by omega)
    · rw [if_neg (i32_eq (by unfold B31; omega) (by unfold B31; omega) z), if_neg z]
theorem okC_has (H : Hd c N t M) (ho : o < 6) : fX0_hasOrder (i32 o) (put φC c u, w) = some (hasL o (3 - M) M, (put φC c u, w)) := by
  have hM := H.m3
  unfold fX0_hasOrder fX0_hasOrder_0
  simp only [eC11 H]
  exact okC_has5 ho (3 - M) M FU (by omega) (by unfold FU; omega)
end OPS
