/-! PURE MATHEMATICS, 47: tokens of the tape. -/
section TOKEN
variable {s r s1 r1 : SS} {n k fr : Nat} {x y : Int32}
theorem wrI_1 {s : SS} {a b i j : Nat} {x : Int32} : (wrI s a b x).1 i j = if i = a ∧ j = b then x else s.1 i j := by
  unfold wrI
  dsimp only
  by_cases h : i = a
  · subst h
    rw [upd2_same]
    by_cases h2 : j = b
    · rw [if_pos h2, if_pos ⟨rfl, h2⟩]
    · rw [if_neg h2, if_neg (fun z => h2 z.2)]
  · rw [upd2_ne h, if_neg (fun z => h z.1)]
theorem wrI_2 {s : SS} {a b : Nat} {x : Int32} : (wrI s a b x).2 = s.2 := rfl
/-- the tape's bytes on both sides -/
def TB (s r : SS) (n : Nat) : Prop := n ≤ 250 ∧ s.1 0 1 = i32 n ∧ r.1 0 7 = i32 n ∧ ∀ j : Nat, j < 250 → s.1 1 j = r.1 15 j
def TC (s s' : SS) : Prop := s'.2 = s.2 ∧ (∀ p : Nat, p ≠ 0 → s'.1 p = s.1 p) ∧ ∀ j : Nat, j < 2 ∨ 5 < j → s'.1 0 j = s.1 0 j
def TR (r r' : SS) : Prop := r'.2 = r.2 ∧ ∀ a b : Nat, ¬ (a = 0 ∧ 31 ≤ b ∧ b ≤ 34) → r'.1 a b = r.1 a b
theorem TC.rf : TC s s := ⟨rfl, fun _ _ => rfl, fun _ _ => rfl⟩
theorem TR.rf : TR r r := ⟨rfl, fun _ _ _ => rfl⟩
theorem TC.tr {s2 : SS} (h : TC s s1) (k : TC s1 s2) : TC s s2 := ⟨k.1.trans h.1, fun p hp => (k.2.1 p hp).trans (h.2.1 p hp), fun j hj => (k.2.2 j hj).trans (h.2.2 j hj)⟩
theorem TR.tr {r2 : SS} (h : TR r r1) (k : TR r1 r2) : TR r r2 := ⟨k.1.trans h.1, fun a b hab => (k.2 a b hab).trans (h.2 a b hab)⟩
theorem TC.wr {j : Nat} (h : TC s s1) (h2 : 2 ≤ j) (h5 : j ≤ 5) : TC s (wrI s1 0 j x) := by
  refine h.tr ⟨rfl, fun p hp => ?_, fun i hi => ?_⟩
  · funext i
    rw [wrI_1, if_neg (fun z => hp z.1)]
  · rw [wrI_1, if_neg (fun z => by have := z.2; omega)]
theorem TR.wr {j : Nat} (h : TR r r1) (h2 : 31 ≤ j) (h5 : j ≤ 34) : TR r (wrI r1 0 j x) := by
  refine h.tr ⟨rfl, fun a b hab => ?_⟩
  rw [wrI_1, if_neg (fun z => hab ⟨z.1, by omega, by omega⟩)]
theorem TB.of (h : TB s r n) (a : TC s s1) (b : TR r r1) : TB s1 r1 n := ⟨h.1, (a.2.2 1 (by decide)).trans h.2.1, (b.2 0 7 (by decide)).trans h.2.2.1, fun j hj => by
  rw [a.2.1 1 (by decide), b.2 15 j (fun z => by omega)]
  exact h.2.2.2 j hj⟩
def TK (s r : SS) (n lo : Nat) : Prop := TB s r n ∧ ∃ fr to : Nat, lo ≤ fr ∧ (s.1 0 2 = 3 → to = fr + 1) ∧ fr ≤ to ∧ to ≤ n ∧ s.1 0 3 = i32 fr ∧ r.1 0 33 = i32 fr ∧ s.1 0 4 = i32 to ∧ r.1 0 31 = i32 to ∧ s.1 0 2 = r.1 0 32 ∧ (s.1 0 2 = 2 → to - fr ≤ 2 → s.1 0 5 = r.1 0 34) ∧ (s.1 0 2 = 2 → 2 < to - fr → r.1 0 34 = 1000)
theorem okT_byte (h : TB s r n) (hk : k < n) (e : x = i32 k) : fX1_byteAt x s = some (r.1 15 k, s) := by
  have hn := h.1
  subst e
  unfold fX1_byteAt fX1_byteAt_0
  rw [if_neg (Int32.not_lt.mpr (i32_nn (by unfold B31; omega))), h.2.1, if_neg (fun z => by have := (gle (show n ≤ 1000 by omega) (show k ≤ 1000 by omega)).mp z; omega), if_neg (fun z => by have := (l_le (n := 250) (by unfold B31; omega) (by decide)).mp z; omega), if_pos (gix (show k < 250 by omega) (by decide)), gnat (by omega), h.2.2.2 k (by omega)]
theorem okT_let {s r : SS} : ∃ b : Bool, fX1_isLetter x s = some (if b = true then 1 else 0, s) ∧ fX6_isLetter x r = some (if b = true then 1 else 0, r) := by
  unfold fX1_isLetter fX1_isLetter_0 fX6_isLetter fX6_isLetter_0
  by_cases h : x < 97
  · rw [if_pos h, if_pos h]; exact ⟨false, rfl, rfl⟩
  · rw [if_neg h, if_neg h]
    by_cases h2 : 122 < x
    · rw [if_pos h2, if_pos h2]; exact ⟨false, rfl, rfl⟩
    · rw [if_neg h2, if_neg h2]; exact ⟨true, rfl, rfl⟩
theorem okT_dig {s r : SS} : ∃ b : Bool, fX1_isDigit x s = some (if b = true then 1 else 0, s) ∧ fX6_isDigit x r = some (if b = true then 1 else 0, r) := by
  unfold fX1_isDigit fX1_isDigit_0 fX6_isDigit fX6_isDigit_0
  by_cases h : x < 48
  · rw [if_pos h, if_pos h]; exact ⟨false, rfl, rfl⟩
  · rw [if_neg h, if_neg h]
    by_cases h2 : 57 < x
    · rw [if_pos h2, if_pos h2]; exact ⟨false, rfl, rfl⟩
    · rw [if_neg h2, if_neg h2]; exact ⟨true, rfl, rfl⟩
theorem b1 {α : Type} {A B : α} : (if (if (true : Bool) = true then (1 : Int32) else 0) = 0 then A else B) = B := if_neg (by decide)
theorem b0 {α : Type} {A B : α} : (if (if (false : Bool) = true then (1 : Int32) else 0) = 0 then A else B) = A := if_pos (by decide)
theorem word_loop : ∀ (m k f g : Nat) (s r : SS), TB s r n → k + m = n → m < f → m < g → s.1 0 4 = i32 k → r.1 0 31 = i32 k → ∃ (k' : Nat) (s' r' : SS), fX1_advance_91 f s = some ((), s') ∧ fX6_look_90 g r = some ((), r') ∧ TC s s' ∧ TR r r' ∧ k ≤ k' ∧ k' ≤ n ∧ s'.1 0 4 = i32 k' ∧ r'.1 0 31 = i32 k' ∧ s'.1 0 3 = s.1 0 3 ∧ s'.1 0 2 = s.1 0 2 ∧ r'.1 0 33 = r.1 0 33 ∧ r'.1 0 32 = r.1 0 32
  | m, k, 0, g, s, r => fun _ _ h => absurd h (Nat.not_lt_zero _)
  | m, k, f + 1, 0, s, r => fun _ _ _ h => absurd h (Nat.not_lt_zero _)
  | 0, k, f + 1, g + 1, s, r => fun h hk _ _ e1 e2 => by
    have hn := h.1
    have : k = n := by omega
    subst this
    unfold fX1_advance_91 fX6_look_90
    rw [h.2.1, h.2.2.1, e1, e2, if_pos (Int32.le_refl _), if_pos (Int32.le_refl _)]
    exact ⟨k, s, r, rfl, rfl, .rf, .rf, Nat.le_refl _, Nat.le_refl _, e1, e2, rfl, rfl, rfl, rfl⟩
  | m + 1, k, f + 1, g + 1, s, r => fun h hk hf hg e1 e2 => by
    have hn := h.1
    have nk : ¬ i32 n ≤ i32 k := fun z => by have := (gle (show n ≤ 1000 by omega) (show k ≤ 1000 by omega)).mp z; omega
    unfold fX1_advance_91 fX6_look_90
    rw [h.2.1, h.2.2.1, e1, e2, if_neg nk, if_neg nk, okT_byte h (k := k) (by omega) rfl, obind, if_pos (gix (show k < 250 by omega) (by decide)), gnat (by omega)]
    dsimp only
    obtain ⟨b, p1, p2⟩ := okT_let (x := r.1 15 k) (s := s) (r := r)
    rw [p1, p2, obind, obind]
    dsimp only
    cases b with
    | false =>
      rw [b0, b0]
      exact ⟨k, s, r, rfl, rfl, .rf, .rf, Nat.le_refl _, by omega, e1, e2, rfl, rfl, rfl, rfl⟩
    | true =>
      rw [b1, b1, e1, i32_succ]
      have t1 : TC s (wrI s 0 4 (i32 (k + 1))) := TC.rf.wr (by decide) (by decide)
      have t2 : TR r (wrI r 0 31 (i32 (k + 1))) := TR.rf.wr (by decide) (by decide)
      obtain ⟨k', s', r', q1, q2, q3, q4, q5, q6, q7, q8, q9, q10, q11, q12⟩ := word_loop m (k + 1) f g _ _ (h.of t1 t2) (by omega) (by omega) (by omega) (by rw [wrI_1, if_pos ⟨rfl, rfl⟩]) (by rw [wrI_1, if_pos ⟨rfl, rfl⟩])
      rw [wrI_1, if_neg (by decide)] at q9 q10 q11 q12
      exact ⟨k', s', r', q1, q2, t1.tr q3, t2.tr q4, by omega, q6, q7, q8, q9, q10, q11, q12⟩
theorem num_loop : ∀ (m k f g : Nat) (s r : SS), TB s r n → k + m = n → m < f → m < g → fr ≤ k → s.1 0 4 = i32 k → r.1 0 31 = i32 k → s.1 0 3 = i32 fr → r.1 0 33 = i32 fr → (k - fr ≤ 2 → s.1 0 5 = r.1 0 34) → (2 < k - fr → r.1 0 34 = 1000) → ∃ (k' : Nat) (s' r' : SS), fX1_readNumber_5 f s = some ((), s') ∧ fX6_look_149 g r = some ((), r') ∧ TC s s' ∧ TR r r' ∧ k ≤ k' ∧ k' ≤ n ∧ s'.1 0 4 = i32 k' ∧ r'.1 0 31 = i32 k' ∧ s'.1 0 3 = i32 fr ∧ r'.1 0 33 = i32 fr ∧ s'.1 0 2 = s.1 0 2 ∧ r'.1 0 32 = r.1 0 32 ∧ (k' - fr ≤ 2 → s'.1 0 5 = r'.1 0 34) ∧ (2 < k' - fr → r'.1 0 34 = 1000)
  | m, k, 0, g, s, r => fun _ _ h => absurd h (Nat.not_lt_zero _)
  | m, k, f + 1, 0, s, r => fun _ _ _ h => absurd h (Nat.not_lt_zero _)
  | 0, k, f + 1, g + 1, s, r => fun h hk _ _ hfr e1 e2 e3 e4 e5 e6 => by
    have hn := h.1
    have : k = n := by omega
    subst this
    unfold fX1_readNumber_5 fX6_look_149
    rw [h.2.1, h.2.2.1, e1, e2, if_pos (Int32.le_refl _), if_pos (Int32.le_refl _)]
    exact ⟨k, s, r, rfl, rfl, .rf, .rf, Nat.le_refl _, Nat.le_refl _, e1, e2, e3, e4, rfl, rfl, e5, e6⟩
  | m + 1, k, f + 1, g + 1, s, r => fun h hk hf hg hfr e1 e2 e3 e4 e5 e6 => by
    have hn := h.1
    have nk : ¬ i32 n ≤ i32 k := fun z => by have := (gle (show n ≤ 1000 by omega) (show k ≤ 1000 by omega)).mp z; omega
    have ed : i32 k - i32 fr = i32 (k - fr) := i32_sub (by omega)
    unfold fX1_readNumber_5 fX6_look_149
    rw [h.2.1, h.2.2.1, e1, e2, if_neg nk, if_neg nk, okT_byte h (k := k) (by omega) rfl, obind]
    simp only [if_pos (gix (show k < 250 by omega) (show 250 ≤ 1000 by decide)), gnat (show k ≤ 1000 by omega)]
    obtain ⟨b, p1, p2⟩ := okT_dig (x := r.1 15 k) (s := s) (r := r)
    rw [p1, p2, obind, obind]
    dsimp only
    cases b with
    | false =>
      rw [b0, b0]
      exact ⟨k, s, r, rfl, rfl, .rf, .rf, Nat.le_refl _, by omega, e1, e2, e3, e4, rfl, rfl, e5, e6⟩
    | true =>
      rw [b1, b1, e1, e3, e4, ed]
      by_cases z : 2 ≤ k - fr
      · have z' : (2 : Int32) ≤ i32 (k - fr) := (l_le (n := 2) (by unfold B31; omega) (by decide)).mpr z
        rw [if_pos z', if_pos z']
        unfold fX1_readNumber_66 fX6_look_215
        rw [e1, e2, i32_succ]
        have t1 : TC s (wrI s 0 4 (i32 (k + 1))) := TC.rf.wr (by decide) (by decide)
        have t2 : TR r (wrI (wrI r 0 34 (1000 : Int32)) 0 31 (i32 (k + 1))) := (TR.rf.wr (by decide) (by decide)).wr (by decide) (by decide)
        obtain ⟨k', s', r', q1, q2, q3, q4, q5, q6, q7, q8, q9, q10, q11, q12, q13, q14⟩ := num_loop m (k + 1) f g _ _ (h.of t1 t2) (by omega) (by omega) (by omega) (by omega) (by rw [wrI_1, if_pos ⟨rfl, rfl⟩]) (by rw [wrI_1, if_pos ⟨rfl, rfl⟩]) (by rw [wrI_1, if_neg (by decide)]; exact e3) (by rw [wrI_1, if_neg (by decide), wrI_1, if_neg (by decide)]; exact e4) (fun y => by omega) (fun _ => by rw [wrI_1, if_neg (by decide), wrI_1, if_pos ⟨rfl, rfl⟩])
        rw [wrI_1, if_neg (by decide)] at q11 q12
        rw [wrI_1, if_neg (by decide)] at q12
        exact ⟨k', s', r', q1, q2, t1.tr q3, t2.tr q4, by omega, q6, q7, q8, q9, q10, q11, q12, q13, q14⟩
      · have z' : ¬ (2 : Int32) ≤ i32 (k - fr) := fun y => z ((l_le (n := 2) (by unfold B31; omega) (by decide)).mp y)
        rw [if_neg z', if_neg z', okT_byte h (k := k) (by omega) rfl, obind]
        dsimp only
        rw [e5 (by omega)]
        unfold fX1_readNumber_66 fX6_look_215
        generalize r.1 0 34 * 10 + r.1 15 k - 48 = val
        rw [wrI_1, if_neg (by decide), e1, e2, i32_succ]
        have t1 : TC s (wrI (wrI s 0 5 val) 0 4 (i32 (k + 1))) := (TC.rf.wr (by decide) (by decide)).wr (by decide) (by decide)
        have t2 : TR r (wrI (wrI r 0 34 val) 0 31 (i32 (k + 1))) := (TR.rf.wr (by decide) (by decide)).wr (by decide) (by decide)
        obtain ⟨k', s', r', q1, q2, q3, q4, q5, q6, q7, q8, q9, q10, q11, q12, q13, q14⟩ := num_loop m (k + 1) f g _ _ (h.of t1 t2) (by omega) (by omega) (by omega) (by omega) (by rw [wrI_1, if_pos ⟨rfl, rfl⟩]) (by rw [wrI_1, if_pos ⟨rfl, rfl⟩]) (by rw [wrI_1, if_neg (by decide), wrI_1, if_neg (by decide)]; exact e3) (by rw [wrI_1, if_neg (by decide), wrI_1, if_neg (by decide)]; exact e4) (fun _ => by rw [wrI_1, if_neg (by decide), wrI_1, if_pos ⟨rfl, rfl⟩, wrI_1, if_neg (by decide), wrI_1, if_pos ⟨rfl, rfl⟩]) (fun y => by omega)
        rw [wrI_1, if_neg (by decide), wrI_1, if_neg (by decide)] at q11 q12
        exact ⟨k', s', r', q1, q2, t1.tr q3, t2.tr q4, by omega, q6, q7, q8, q9, q10, q11, q12, q13, q14⟩
theorem TK.lo {lo lo' : Nat} (h : TK s r n lo) (hl : lo' ≤ lo) : TK s r n lo' := by
  obtain ⟨a, fr, to, b, c⟩ := h
  exact ⟨a, fr, to, Nat.le_trans hl b, c⟩
/-- what stands where a token begins -/
theorem at_45 (h : TB s r n) (hk : k ≤ n) (e1 : s.1 0 3 = i32 k) (e2 : r.1 0 31 = i32 k) : ∃ (s' r' : SS), fX1_advance_45 s = some ((), s') ∧ fX6_look_38 r = some ((), r') ∧ TC s s' ∧ TR r r' ∧ TK s' r' n k := by
  have hn := h.1
  have t3 : TC s (wrI s 0 4 (i32 k)) := TC.rf.wr (by decide) (by decide)
  have t4 : TR r (wrI (wrI r 0 33 (i32 k)) 0 34 (0 : Int32)) := (TR.rf.wr (by decide) (by decide)).wr (by decide) (by decide)
  unfold fX1_advance_45 fX6_look_38
  rw [e1, h.2.1, e2, h.2.2.1]
  by_cases z : k = n
  · subst z
    rw [if_neg (Int32.not_lt.mpr (Int32.le_refl _)), if_pos rfl]
    have t1 : TC s (wrI (wrI s 0 4 (i32 k)) 0 2 0) := t3.wr (by decide) (by decide)
    have t2 : TR r (wrI (wrI (wrI r 0 33 (i32 k)) 0 34 (0 : Int32)) 0 32 0) := t4.wr (by decide) (by decide)
    refine ⟨_, _, rfl, rfl, t1, t2, h.of t1 t2, k, k, Nat.le_refl _, fun y => absurd (show (0 : Int32) = 3 from y) (by decide), Nat.le_refl _, hk, ?_, ?_, ?_, ?_, ?_, ?_, ?_⟩
    · exact e1
    · rfl
    · rfl
    · exact e2
    · rfl
    · exact fun y => absurd (show (0 : Int32) = 2 from y) (by decide)
    · exact fun y => absurd (show (0 : Int32) = 2 from y) (by decide)
  · have lt : i32 k < i32 n := Int32.not_le.mp (fun y => by have := (gle (show n ≤ 1000 by omega) (show k ≤ 1000 by omega)).mp y; omega)
    have ne : ¬ i32 k = i32 n := fun y => by rw [y] at lt; exact Int32.lt_irrefl lt
    have h3 : TB (wrI s 0 4 (i32 k)) r n := h.of t3 .rf
    rw [if_pos lt, if_neg ne, okT_byte h3 (k := k) (by omega) rfl, obind]
    simp only [if_pos (gix (show k < 250 by omega) (show 250 ≤ 1000 by decide)), gnat (show k ≤ 1000 by omega)]
    obtain ⟨b, p1, p2⟩ := okT_let (x := r.1 15 k) (s := wrI s 0 4 (i32 k)) (r := wrI (wrI r 0 33 (i32 k)) 0 34 (0 : Int32))
    rw [p1, p2, obind, obind]
    dsimp only
    have e3 : (wrI s 0 4 (i32 k)).1 0 3 = i32 k := e1
    cases b with
    | true =>
      rw [b1, b1]
      have t1 : TC s (wrI (wrI s 0 4 (i32 k)) 0 2 1) := t3.wr (by decide) (by decide)
      have t2 : TR r (wrI (wrI (wrI r 0 33 (i32 k)) 0 34 (0 : Int32)) 0 32 1) := t4.wr (by decide) (by decide)
      obtain ⟨k', s', r', q1, q2, q3, q4, q5, q6, q7, q8, q9, q10, q11, q12⟩ := word_loop (n - k) k FU FU _ _ (h.of t1 t2) (by omega) (by unfold FU; omega) (by unfold FU; omega) rfl e2
      refine ⟨s', r', q1, q2, t1.tr q3, t2.tr q4, h.of (t1.tr q3) (t2.tr q4), k, k', Nat.le_refl _, fun y => absurd (show (1 : Int32) = 3 from q10.symm.trans y) (by decide), q5, q6, q9.trans e1, q11, q7, q8, q10.trans q12.symm, ?_, ?_⟩
      · exact fun y => absurd (show (1 : Int32) = 2 from q10.symm.trans y) (by decide)
      · exact fun y => absurd (show (1 : Int32) = 2 from q10.symm.trans y) (by decide)
    | false =>
      rw [b0, b0, e3, okT_byte h3 (k := k) (by omega) rfl, obind]
      dsimp only
      obtain ⟨b', p3, p4⟩ := okT_dig (x := r.1 15 k) (s := wrI s 0 4 (i32 k)) (r := wrI (wrI r 0 33 (i32 k)) 0 34 (0 : Int32))
      rw [p3, p4, obind, obind]
      dsimp only
      cases b' with
      | true =>
        rw [b1, b1]
        have t1 : TC s (wrI (wrI (wrI s 0 4 (i32 k)) 0 2 2) 0 5 0) := (t3.wr (by decide) (by decide)).wr (by decide) (by decide)
        have t2 : TR r (wrI (wrI (wrI r 0 33 (i32 k)) 0 34 (0 : Int32)) 0 32 2) := t4.wr (by decide) (by decide)
        obtain ⟨k', s', r', q1, q2, q3, q4, q5, q6, q7, q8, q9, q10, q11, q12, q13, q14⟩ := num_loop (fr := k) (n - k) k FU FU _ _ (h.of t1 t2) (by omega) (by unfold FU; omega) (by unfold FU; omega) (Nat.le_refl _) rfl e2 e1 rfl (fun _ => rfl) (fun y => by omega)
        have q1' : fX1_readNumber (wrI (wrI s 0 4 (i32 k)) 0 2 2) = some ((), s') := q1
        rw [q1', obind]
        exact ⟨s', r', rfl, q2, t1.tr q3, t2.tr q4, h.of (t1.tr q3) (t2.tr q4), k, k', Nat.le_refl _, fun y => absurd (show (2 : Int32) = 3 from q11.symm.trans y) (by decide), q5, q6, q9, q10, q7, q8, q11.trans q12.symm, fun _ => q13, fun _ => q14⟩
      | false =>
        rw [b0, b0, e3, okT_byte h3 (k := k) (by omega) rfl, obind]
        dsimp only
        have fin : ∀ v : Int32, v ≠ 2 → ∃ (s' r' : SS), fX1_advance_174 v (wrI s 0 4 (i32 k)) = some ((), s') ∧ fX6_look_251 v (wrI (wrI r 0 33 (i32 k)) 0 34 (0 : Int32)) = some ((), r') ∧ TC s s' ∧ TR r r' ∧ TK s' r' n k := by
          intro v hv
          have a1 : fX1_advance_174 v (wrI s 0 4 (i32 k)) = some ((), wrI (wrI (wrI s 0 4 (i32 k)) 0 2 v) 0 4 (i32 k + 1)) := rfl
          have a2 : fX6_look_251 v (wrI (wrI r 0 33 (i32 k)) 0 34 (0 : Int32)) = some ((), wrI (wrI (wrI (wrI r 0 33 (i32 k)) 0 34 (0 : Int32)) 0 32 v) 0 31 (r.1 0 31 + 1)) := rfl
          rw [a1, a2, e2, i32_succ]
          have t1 : TC s (wrI (wrI (wrI s 0 4 (i32 k)) 0 2 v) 0 4 (i32 (k + 1))) := (t3.wr (by decide) (by decide)).wr (by decide) (by decide)
          have t2 : TR r (wrI (wrI (wrI (wrI r 0 33 (i32 k)) 0 34 (0 : Int32)) 0 32 v) 0 31 (i32 (k + 1))) := (t4.wr (by decide) (by decide)).wr (by decide) (by decide)
          exact ⟨_, _, rfl, rfl, t1, t2, h.of t1 t2, k, k + 1, Nat.le_refl _, fun _ => rfl, by omega, by omega, e1, rfl, rfl, rfl, rfl, fun y => absurd y hv, fun y => absurd y hv⟩
        by_cases y : r.1 15 k = 59
        · rw [if_pos y, if_pos y]
          exact fin 3 (by decide)
        · rw [if_neg y, if_neg y]
          exact fin 4 (by decide)
theorem skip_loop : ∀ (m k f g : Nat) (s r : SS), TB s r n → k + m = n → m < f → m < g → s.1 0 3 = i32 k → r.1 0 31 = i32 k → ∃ (s' r' : SS), fX1_advance_8 f s = some ((), s') ∧ fX6_look_0 g r = some ((), r') ∧ TC s s' ∧ TR r r' ∧ TK s' r' n k
  | m, k, 0, g, s, r => fun _ _ h => absurd h (Nat.not_lt_zero _)
  | m, k, f + 1, 0, s, r => fun _ _ _ h => absurd h (Nat.not_lt_zero _)
  | 0, k, f + 1, g + 1, s, r => fun h hk _ _ e1 e2 => by
    have hn := h.1
    have : k = n := by omega
    subst this
    unfold fX1_advance_8 fX6_look_0
    rw [h.2.1, h.2.2.1, e1, e2, if_pos (Int32.le_refl _), if_pos (Int32.le_refl _)]
    exact at_45 h (Nat.le_refl _) e1 e2
  | m + 1, k, f + 1, g + 1, s, r => fun h hk hf hg e1 e2 => by
    have hn := h.1
    have nk : ¬ i32 n ≤ i32 k := fun z => by have := (gle (show n ≤ 1000 by omega) (show k ≤ 1000 by omega)).mp z; omega
    unfold fX1_advance_8 fX6_look_0
    rw [h.2.1, h.2.2.1, e1, e2, if_neg nk, if_neg nk, okT_byte h (k := k) (by omega) rfl, obind]
    simp only [if_pos (gix (show k < 250 by omega) (show 250 ≤ 1000 by decide)), gnat (show k ≤ 1000 by omega)]
    by_cases z : r.1 15 k = 32
    · rw [if_pos z, if_pos z, e1, i32_succ]
      have t1 : TC s (wrI s 0 3 (i32 (k + 1))) := TC.rf.wr (by decide) (by decide)
      have t2 : TR r (wrI r 0 31 (i32 (k + 1))) := TR.rf.wr (by decide) (by decide)
      obtain ⟨s', r', q1, q2, q3, q4, q5⟩ := skip_loop m (k + 1) f g _ _ (h.of t1 t2) (by omega) (by omega) (by omega) rfl rfl
      exact ⟨s', r', q1, q2, t1.tr q3, t2.tr q4, q5.lo (by omega)⟩
    · rw [if_neg z, if_neg z]
      exact at_45 h (by omega) e1 e2
/-- both go one token on -/
theorem both_look (h : TB s r n) (hk : k ≤ n) (e1 : s.1 0 4 = i32 k) (e2 : r.1 0 31 = i32 k) : ∃ (s' r' : SS), fX1_advance s = some ((), s') ∧ fX6_look r = some ((), r') ∧ TC s s' ∧ TR r r' ∧ TK s' r' n k := by
  have hn := h.1
  have t1 : TC s (wrI s 0 3 (i32 k)) := TC.rf.wr (by decide) (by decide)
  obtain ⟨s', r', q1, q2, q3, q4, q5⟩ := skip_loop (n - k) k FU FU (wrI s 0 3 (i32 k)) r (h.of t1 .rf) (by omega) (by unfold FU; omega) (by unfold FU; omega) rfl e2
  refine ⟨s', r', ?_, q2, t1.tr q3, q4, q5⟩
  unfold fX1_advance fX1_advance_0
  rw [e1]
  exact q1
end TOKEN
