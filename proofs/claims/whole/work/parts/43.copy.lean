/-! PURE MATHEMATICS, 25: set and copy. -/
def fitV (o : Nat) (v : Int64) : Int64 := if o = 0 then v.toInt32.toInt8.toInt32.toInt64 else if o = 1 then v.toInt32.toInt16.toInt32.toInt64 else if o = 2 then v.toInt32.toInt64 else if o = 3 then v else if v = 0 then 0 else 1
section SHELF
variable {L : Int} {S S' : SS} {T : TF} {s s' : SS} {q n : Nat} {x y z : Int32} {v : Int64}
theorem okS_put {o i : Nat} {s : SS} (ho : o ≤ 4) (hi : i < 40) (h : s.1 0 0 = i32 o) : fX3_put (i32 i) v s = some ((), wrL s 1 i (fitV o v)) := by
  have ix : ixB (i32 i) 40 := gix hi (by decide)
  have g : (i32 i).toNatClampNeg = i := gnat (by omega)
  unfold fX3_put fX3_put_0 fX3_put_100 fitV
  simp only [h, if_pos ix, g, eq_l (a := o) (n := 0) (by unfold B31; omega) (by decide), eq_l (a := o) (n := 1) (by unfold B31; omega) (by decide), eq_l (a := o) (n := 2) (by unfold B31; omega) (by decide), eq_l (a := o) (n := 3) (by unfold B31; omega) (by decide), cmp_eq]
  repeat' split
  all_goals rfl
theorem okR_fit {o : Nat} {s : SS} (ho : o ≤ 4) : fX6_fit (i32 o) v s = some (fitV o v, s) := by
  unfold fX6_fit fX6_fit_0 fitV
  simp only [eq_l (a := o) (n := 0) (by unfold B31; omega) (by decide), eq_l (a := o) (n := 1) (by unfold B31; omega) (by decide), eq_l (a := o) (n := 2) (by unfold B31; omega) (by decide), eq_l (a := o) (n := 3) (by unfold B31; omega) (by decide), cmp_eq]
  repeat' split
  all_goals rfl
theorem both_set (h : RR L S T) : Both L (fX5_set x y v S) (fX6_set x y v (T.2 [])) T := by
  have hh := h
  have bad2 := bad_of (a := 2) h (by decide) (by decide)
  have bad3 := bad_of (a := 3) h (by decide) (by decide)
  have bad4 := bad_of (a := 4) h (by decide) (by decide)
  obtain ⟨h0, c, N, t, M, h⟩ := h
  unfold fX5_set fX5_set_0 fX6_set fX6_set_0
  have pass : ∀ (f g : Option (Int32 × SS)) (k : Int32), (∃ S' s' : SS, f = some (k, S') ∧ g = some (k, s') ∧ RR L S' (wrT T [] s')) → Both L f g T := fun f g k ⟨S', s', e1, e2, e3⟩ => ⟨k, S', s', e1, e2, e3⟩
  by_cases h1 : 0 ≤ x ∧ x ≤ 7
  · obtain ⟨q, hq, e⟩ := of_le (b := 7) (by decide) h1
    subst e
    have hq8 : q < 8 := by omega
    have ix : ixB (i32 q) 8 := gix (by omega) (by decide)
    have g : (i32 q).toNatClampNeg = q := gnat (by omega)
    rcases rowF (h.2.2.2.2.2.1 q hq8) hq8 with ⟨_, e1, e2⟩ | ⟨⟨o, m, ho, hm, a1, a2, a3, a4, a5, a6⟩, e1, e2⟩ | ⟨_, e1, e2⟩
    · rw [e1, e2, obind]
      obtain ⟨S', s', r1, r2, r3⟩ := refuse_both (a := 4) hh (by decide) (by decide)
      have r1' : fX5_refuse (-4 : Int32) S = some (-4, S') := r1
      have r2' : fX6_refuse (-4 : Int32) (T.2 []) = some (-4, s') := r2
      simp only [r1', r2', obind]
      rw [if_neg (by decide), if_neg (by decide)]
      exact Both.of rfl rfl r3
    · rw [e1, e2, obind, obind]
      dsimp only
      rw [if_pos rfl, if_pos rfl]
      simp only [if_pos ix, g, a2, a5, okC_within, in0v, obind, iteB]
      by_cases hy : 0 ≤ y ∧ y ≤ i32 m - 1
      · obtain ⟨j, hj, e⟩ := (of_lt (by omega)).mp hy
        subst e
        simp only [if_pos hy, a4, okR_fit ho, obind, if_pos (gix (show j < 40 by omega) (show 40 ≤ 1000 by decide)), gnat (show j ≤ 1000 by omega)]
        have ep : fX3_put (i32 j) v (selS (fun k => 61 + 2 * q + k) S) = some ((), wrL (selS (fun k => 61 + 2 * q + k) S) 1 j (fitV o v)) := okS_put ho (by omega) a1
        rw [ep, obind]
        have mg := mrg2 (A := 61 + 2 * q) (S := S) (s := wrL (selS (fun k => 61 + 2 * q + k) S) 1 j (fitV o v))
        refine Both.of rfl rfl (hh.shelf hq8 mg.1 (fun a b _ hab => rfl) (fun y hy' hyq => ?_) (fun c N t M _ => Or.inr (Or.inl ⟨o, m, ho, hm, ?_, ?_, a3, a4, a5, fun i hi => ?_⟩)))
        · show upd2 (T.2 []).2 (5 + q) j (fitV o v) (5 + y) = _
          rw [upd2_ne (by omega)]
        · rw [mg.2.1.1]; exact a1
        · rw [mg.2.1.1]; exact a2
        · rw [mg.2.2.2]
          show upd2 (fun k => S.2 (61 + 2 * q + k)) 1 j (fitV o v) 1 i = upd2 (T.2 []).2 (5 + q) j (fitV o v) (5 + q) i
          rw [upd2_same, upd2_same]
          by_cases z : i = j
          · rw [if_pos z, if_pos z]
          · rw [if_neg z, if_neg z]
            exact a6 i hi
      · simp only [if_neg hy]
        exact bad2
    · rw [e1, e2, obind]
      obtain ⟨S', s', r1, r2, r3⟩ := refuse_both (a := 3) hh (by decide) (by decide)
      have r1' : fX5_refuse (-3 : Int32) S = some (-3, S') := r1
      have r2' : fX6_refuse (-3 : Int32) (T.2 []) = some (-3, s') := r2
      simp only [r1', r2', obind]
      rw [if_neg (by decide), if_neg (by decide)]
      exact Both.of rfl rfl r3
  · have hb := rowF_bad (S := S) (s := T.2 []) h1
    rw [hb.1, hb.2, obind]
    obtain ⟨S', s', r1, r2, r3⟩ := refuse_both (a := 2) hh (by decide) (by decide)
    have r1' : fX5_refuse (-2 : Int32) S = some (-2, S') := r1
    have r2' : fX6_refuse (-2 : Int32) (T.2 []) = some (-2, s') := r2
    simp only [r1', r2', obind]
    rw [if_neg (by decide), if_neg (by decide)]
    exact Both.of rfl rfl r3
/-- the reference's two loops of copy -/
theorem okR_copy225 {j : Nat} (hq : q < 8) (hjn : j + n ≤ 40) : ∀ (m k f : Nat) (s : SS), k + m = n → m < f → ∃ s2 : SS, fX6_copy_225 f (i32 q) (i32 j) (i32 n) (i32 k) s = some (i32 n, s2) ∧ s2.1 = s.1 ∧ (∀ p : Nat, p ≠ 5 + q → s2.2 p = s.2 p) ∧ ∀ b : Nat, s2.2 (5 + q) b = if j + k ≤ b ∧ b < j + n then s.2 13 (b - j) else s.2 (5 + q) b
  | m, k, 0, s => fun _ h => absurd h (Nat.not_lt_zero _)
  | 0, k, f + 1, s => fun hk _ => by
    have : k = n := by omega
    subst this
    unfold fX6_copy_225
    rw [if_pos (Int32.le_refl _)]
    exact ⟨s, rfl, rfl, fun _ _ => rfl, fun b => by rw [if_neg (by omega)]⟩
  | m + 1, k, f + 1, s => fun hk hf => by
    unfold fX6_copy_225
    rw [if_neg (fun z => absurd ((gle (a := n) (b := k) (by omega) (by omega)).mp z) (by omega)), if_pos (gix hq (by decide)), if_pos (gix (show k < 40 by omega) (by decide)), i32_add, if_pos (gix (show j + k < 40 by omega) (by decide)), gnat (show q ≤ 1000 by omega), gnat (show k ≤ 1000 by omega), gnat (show j + k ≤ 1000 by omega), i32_succ]
    obtain ⟨s2, q1, q2, q3, q4⟩ := okR_copy225 hq hjn m (k + 1) f (wrL s (5 + q) (j + k) (s.2 13 k)) (by omega) (by omega)
    refine ⟨s2, q1, q2, fun p hp => (q3 p hp).trans (by show upd2 s.2 (5 + q) (j + k) _ p = s.2 p; exact upd2_ne hp), fun b => ?_⟩
    rw [q4 b]
    show (if j + (k + 1) ≤ b ∧ b < j + n then upd2 s.2 (5 + q) (j + k) (s.2 13 k) 13 (b - j) else upd2 s.2 (5 + q) (j + k) (s.2 13 k) (5 + q) b) = _
    rw [upd2_ne (show 13 ≠ 5 + q by omega), upd2_same]
    by_cases z1 : j + (k + 1) ≤ b ∧ b < j + n
    · rw [if_pos z1, if_pos (by omega)]
    · rw [if_neg z1]
      by_cases z2 : b = j + k
      · rw [if_pos z2, if_pos (by omega), z2, Nat.add_sub_cancel_left]
      · rw [if_neg z2, if_neg (by omega)]
theorem okR_copy191 {p i j : Nat} (hp : p < 8) (hq : q < 8) (hin : i + n ≤ 40) (hjn : j + n ≤ 40) : ∀ (m k f : Nat) (s : SS), k + m = n → m < f → ∃ s2 : SS, fX6_copy_191 f (i32 p) (i32 q) (i32 i) (i32 j) (i32 n) (i32 k) s = fX6_copy_225 FU (i32 q) (i32 j) (i32 n) (i32 0) s2 ∧ s2.1 = s.1 ∧ (∀ a : Nat, a ≠ 13 → s2.2 a = s.2 a) ∧ (∀ b : Nat, b < k → s2.2 13 b = s.2 13 b) ∧ ∀ b : Nat, k ≤ b → b < n → s2.2 13 b = s.2 (5 + p) (i + b)
  | m, k, 0, s => fun _ h => absurd h (Nat.not_lt_zero _)
  | 0, k, f + 1, s => fun hk _ => by
    have : k = n := by omega
    subst this
    unfold fX6_copy_191
    rw [if_pos (Int32.le_refl _)]
    exact ⟨s, rfl, rfl, fun _ _ => rfl, fun _ _ => rfl, fun b h1 h2 => by omega⟩
  | m + 1, k, f + 1, s => fun hk hf => by
    unfold fX6_copy_191
    rw [if_neg (fun z => absurd ((gle (a := n) (b := k) (by omega) (by omega)).mp z) (by omega)), if_pos (gix hp (by decide)), i32_add, if_pos (gix (show i + k < 40 by omega) (by decide)), if_pos (gix (show k < 40 by omega) (by decide)), gnat (show p ≤ 1000 by omega), gnat (show k ≤ 1000 by omega), gnat (show i + k ≤ 1000 by omega), i32_succ]
    obtain ⟨s2, q1, q2, q3, q4, q5⟩ := okR_copy191 hp hq hin hjn m (k + 1) f (wrL s 13 k (s.2 (5 + p) (i + k))) (by omega) (by omega)
    refine ⟨s2, q1, q2, fun a ha => (q3 a ha).trans (by show upd2 s.2 13 k _ a = s.2 a; exact upd2_ne ha), fun b hb => ?_, fun b h1 h2 => ?_⟩
    · rw [q4 b (by omega)]
      show upd2 s.2 13 k (s.2 (5 + p) (i + k)) 13 b = _
      rw [upd2_same, if_neg (by omega)]
    · by_cases z : b = k
      · subst z
        rw [q4 b (by omega)]
        show upd2 s.2 13 b (s.2 (5 + p) (i + b)) 13 b = _
        rw [upd2_same, if_pos rfl]
      · rw [q5 b (by omega) h2]
        show upd2 s.2 13 k (s.2 (5 + p) (i + k)) (5 + p) (i + b) = _
        rw [upd2_ne (by omega)]
theorem faultA (hq : q < 8) (h1 : S.1 (61 + 2 * q) 0 = -1) : fX5_rowFault (i32 q) S = some (-4, S) := by
  have h7 : (0 ≤ i32 q ∧ i32 q ≤ (7 : Int32)) := ⟨i32_nn (by unfold B31; omega), (le_l (n := 7) (by unfold B31; omega) (by decide)).mpr (by omega)⟩
  unfold fX5_rowFault fX5_rowFault_0
  simp only [okC_isShelf, obind, if_pos h7, if_pos (gix hq (show 8 ≤ 1000 by decide)), gnat (show q ≤ 1000 by omega), h1, i10, if_true, if_false]
theorem faultB {o : Nat} (hq : q < 8) (ho : o ≤ 4) (h1 : S.1 (61 + 2 * q) 0 = i32 o) : fX5_rowFault (i32 q) S = some (0, S) := by
  have h7 : (0 ≤ i32 q ∧ i32 q ≤ (7 : Int32)) := ⟨i32_nn (by unfold B31; omega), (le_l (n := 7) (by unfold B31; omega) (by decide)).mpr (by omega)⟩
  unfold fX5_rowFault fX5_rowFault_0
  simp only [okC_isShelf, obind, if_pos h7, if_pos (gix hq (show 8 ≤ 1000 by decide)), gnat (show q ≤ 1000 by omega), h1, ne_m1 (show o ≤ 1000 by omega), okS_holds (o := o) (s := selS (fun k => 61 + 2 * q + k) S) (by omega) h1, if_pos ho, mrg_sel injA, i10, if_true, if_false]
theorem faultC {l : Nat} (hq : q < 8) (hl : l < 4) (h1 : S.1 (61 + 2 * q) 0 = i32 (10 + l)) : fX5_rowFault (i32 q) S = some (-3, S) := by
  have h7 : (0 ≤ i32 q ∧ i32 q ≤ (7 : Int32)) := ⟨i32_nn (by unfold B31; omega), (le_l (n := 7) (by unfold B31; omega) (by decide)).mpr (by omega)⟩
  unfold fX5_rowFault fX5_rowFault_0
  simp only [okC_isShelf, obind, if_pos h7, if_pos (gix hq (show 8 ≤ 1000 by decide)), gnat (show q ≤ 1000 by omega), h1, ne_m1 (show 10 + l ≤ 1000 by omega), okS_holds (o := 10 + l) (s := selS (fun k => 61 + 2 * q + k) S) (by omega) h1, if_neg (show ¬ 10 + l ≤ 4 by omega), mrg_sel injA, i10, if_true, if_false]
theorem m24 : ((-4 : Int32) = -2) = False := by decide
theorem m34 : ((-4 : Int32) = -3) = False := by decide
theorem m23 : ((-3 : Int32) = -2) = False := by decide
theorem m43 : ((-3 : Int32) = -4) = False := by decide
theorem m02 : ((0 : Int32) = -2) = False := by decide
theorem m03 : ((0 : Int32) = -3) = False := by decide
theorem m04 : ((0 : Int32) = -4) = False := by decide
theorem m20 : ((-2 : Int32) = 0) = False := by decide
theorem m30 : ((-3 : Int32) = 0) = False := by decide
theorem m40 : ((-4 : Int32) = 0) = False := by decide
theorem both_copy {x3 x4 x5 : Int32} (h : RR L S T) : Both L (fX5_copy x y x3 x4 x5 S) (fX6_copy x y x3 x4 x5 (T.2 [])) T := by
  have hh := h
  have bad2 := bad_of (a := 2) h (by decide) (by decide)
  have bad3 := bad_of (a := 3) h (by decide) (by decide)
  have bad4 := bad_of (a := 4) h (by decide) (by decide)
  obtain ⟨h0, c, N, t, M, h⟩ := h
  unfold fX5_copy fX5_copy_0 fX5_copyFault fX5_copyFault_0 fX6_copy fX6_copy_0 fX6_copy_24 fX6_copy_86 fX6_copy_93 fX6_copy_111
  by_cases h1 : 0 ≤ x ∧ x ≤ 7
  · obtain ⟨p, hp, e⟩ := of_le (b := 7) (by decide) h1
    subst e
    have hp8 : p < 8 := by omega
    have ixp : ixB (i32 p) 8 := gix (by omega) (by decide)
    have gp : (i32 p).toNatClampNeg = p := gnat (by omega)
    by_cases h2 : 0 ≤ y ∧ y ≤ 7
    · obtain ⟨q, hq, e⟩ := of_le (b := 7) (by decide) h2
      subst e
      have hq8 : q < 8 := by omega
      have ixq : ixB (i32 q) 8 := gix (by omega) (by decide)
      have gq : (i32 q).toNatClampNeg = q := gnat (by omega)
      simp only [in07, obind, if_pos h1, if_pos h2, if_pos ixp, if_pos ixq, gp, gq]
      rcases h.2.2.2.2.2.1 p hp8 with ⟨a1, a2⟩ | ⟨o, m, a1, a2, a3, a4, a5, a6, a7, a8⟩ | ⟨l, a1, a2, a3, a4, a5⟩
      · rcases h.2.2.2.2.2.1 q hq8 with ⟨b1, b2⟩ | ⟨o', m', b1, b2, b3, b4, b5, b6, b7, b8⟩ | ⟨l', b1, b2, b3, b4, b5⟩
        · simp only [faultA hp8 a1, faultA hq8 b1, obind, a2, b2, m24, m34, m40, z01, z02, i10, if_true, if_false]
          exact bad4
        · simp only [faultA hp8 a1, faultB hq8 b1 b3, obind, a2, b5, m24, m34, m40, m02, m03, m04, z01, z02, i10, z12, if_true, if_false]
          exact bad4
        · simp only [faultA hp8 a1, faultC hq8 b2 b3, obind, a2, b4, m24, m34, m40, m23, m30, z01, z02, i10, if_true, if_false]
          exact bad3
      · rcases h.2.2.2.2.2.1 q hq8 with ⟨b1, b2⟩ | ⟨o', m', b1, b2, b3, b4, b5, b6, b7, b8⟩ | ⟨l', b1, b2, b3, b4, b5⟩
        · simp only [faultB hp8 a1 a3, faultA hq8 b1, obind, a5, b2, m24, m34, m40, m02, m03, m04, z01, z02, i10, z12, if_true, if_false]
          exact bad4
        · simp only [faultB hp8 a1 a3, faultB hq8 b1 b3, obind, a3, b3, a5, b5, a6, b6, a4, b4, a7, b7, m02, m03, m04, z01, z02, i10, z12, if_true, if_false]
          by_cases ho : i32 o = i32 o'
          · rw [if_pos ho, if_pos ho, obind]
            dsimp only
            rw [if_pos rfl, a4, b4]
            unfold fX5_copy_95 fX6_copy_181
            by_cases c5 : x5 < 0
            · rw [if_pos c5, if_pos c5]; exact bad2
            · rw [if_neg c5, if_neg c5]
              by_cases c3 : x3 < 0
              · rw [if_pos c3, if_pos c3]; exact bad2
              · rw [if_neg c3, if_neg c3]
                by_cases c4 : x4 < 0
                · rw [if_pos c4, if_pos c4]; exact bad2
                · rw [if_neg c4, if_neg c4]
                  obtain ⟨n, hn, e5, _⟩ := of_nn (Int32.le_iff_toInt_le.mp (Int32.not_lt.mp c5))
                  obtain ⟨i, hi, e3, _⟩ := of_nn (Int32.le_iff_toInt_le.mp (Int32.not_lt.mp c3))
                  obtain ⟨j, hj, e4, _⟩ := of_nn (Int32.le_iff_toInt_le.mp (Int32.not_lt.mp c4))
                  subst e5; subst e3; subst e4
                  by_cases d1 : i32 m < i32 n
                  · rw [if_pos d1, if_pos d1]; exact bad2
                  · rw [if_neg d1, if_neg d1]
                    have d1' : n ≤ m := Nat.not_lt.mp (fun z => d1 ((i32_lt (by unfold B31; omega) hn).mpr z))
                    by_cases d2 : i32 m' < i32 n
                    · rw [if_pos d2, if_pos d2]; exact bad2
                    · rw [if_neg d2, if_neg d2]
                      have d2' : n ≤ m' := Nat.not_lt.mp (fun z => d2 ((i32_lt (by unfold B31; omega) hn).mpr z))
                      rw [i32_sub d1', i32_sub d2']
                      by_cases d3 : i32 (m - n) < i32 i
                      · rw [if_pos d3, if_pos d3]; exact bad2
                      · rw [if_neg d3, if_neg d3]
                        have d3' : i ≤ m - n := Nat.not_lt.mp (fun z => d3 ((i32_lt (by unfold B31; omega) hi).mpr z))
                        by_cases d4 : i32 j ≤ i32 (m' - n)
                        · have d4' : j ≤ m' - n := (i32_le hj (by unfold B31; omega)).mp d4
                          have gn : (i32 n).toNatClampNeg = n := gnat (by omega)
                          have gi : (i32 i).toNatClampNeg = i := gnat (by omega)
                          have gj : (i32 j).toNatClampNeg = j := gnat (by omega)
                          have hac : acOK (i32 i) (i32 j) (i32 n) 40 40 := by
                            refine ⟨c3, c4, c5, ?_, ?_⟩
                            · rw [gi, gn]; omega
                            · rw [gj, gn]; omega
                          rw [if_pos d4, if_pos d4, if_pos hac, gn, gi, gj]
                          obtain ⟨s1, p1, p2, p3, p4, p5⟩ := okR_copy191 (n := n) (i := i) (j := j) hp8 hq8 (by omega) (by omega) n 0 FU (T.2 []) (by omega) (by unfold FU; omega)
                          obtain ⟨s2, r1, r2, r3, r4⟩ := okR_copy225 (n := n) (j := j) hq8 (by omega) n 0 FU s1 (by omega) (by unfold FU; omega)
                          have hg : fX6_copy_191 FU (i32 p) (i32 q) (i32 i) (i32 j) (i32 n) 0 (T.2 []) = some (i32 n, s2) := p1.trans r1
                          refine Both.of rfl hg (hh.shelf hq8 (fun x hx1 hx2 => ⟨rfl, ?_⟩) (fun a b _ _ => ?_) (fun x hx hxq => ?_) (fun c' N' t' M' _ => Or.inr (Or.inl ⟨o', m', b1, b2, b3, b4, ?_, ?_, ?_, fun b hb => ?_⟩)))
                          · show updA S.2 (61 + 2 * q + 1) _ x = S.2 x
                            exact updA_ne hx2
                          · rw [r2, p2]
                          · rw [r3 _ (by omega), p3 _ (by omega)]
                          · rw [r2, p2]; exact b5
                          · rw [r2, p2]; exact b6
                          · rw [r2, p2]; exact b7
                          · show updA S.2 (61 + 2 * q + 1) _ (61 + 2 * q + 1) b = _
                            rw [updA_same, r4 b]
                            unfold va_cpy
                            by_cases z : j ≤ b ∧ b < j + n
                            · rw [if_pos z, if_pos (by omega), p5 (b - j) (Nat.zero_le _) (by omega)]
                              exact a8 _ (by omega)
                            · rw [if_neg z, if_neg (by omega), p3 _ (by omega)]
                              exact b8 b hb
                        · rw [if_neg d4, if_neg d4]; exact bad2
          · rw [if_neg ho, if_neg ho, obind]
            dsimp only
            rw [if_neg (by decide)]
            exact bad3
        · simp only [faultB hp8 a1 a3, faultC hq8 b2 b3, obind, a5, b4, m23, m30, m02, m03, m04, z01, z02, i10, z12, if_true, if_false]
          exact bad3
      · rcases h.2.2.2.2.2.1 q hq8 with ⟨b1, b2⟩ | ⟨o', m', b1, b2, b3, b4, b5, b6, b7, b8⟩ | ⟨l', b1, b2, b3, b4, b5⟩
        · simp only [faultC hp8 a2 a3, faultA hq8 b1, obind, a4, b2, m23, m24, m34, m30, i10, if_true, if_false]
          exact bad3
        · simp only [faultC hp8 a2 a3, faultB hq8 b1 b3, obind, a4, b5, m23, m02, m30, i10, if_true, if_false]
          exact bad3
        · simp only [faultC hp8 a2 a3, faultC hq8 b2 b3, obind, a4, b4, m23, m30, i10, if_true, if_false]
          exact bad3
    · have hb := rowF_bad (S := S) (s := T.2 []) h2
      simp only [in07, obind, if_pos h1, if_neg h2, i10, if_true, if_false]
      rcases rowF (h.2.2.2.2.2.1 p hp8) hp8 with ⟨_, e1, e2⟩ | ⟨_, e1, e2⟩ | ⟨_, e1, e2⟩
      · simp only [e1, hb.1, obind, m24, m20, if_true, if_false]
        exact bad2
      · simp only [e1, hb.1, obind, m02, m20, if_true, if_false]
        exact bad2
      · simp only [e1, hb.1, obind, m23, m20, if_true, if_false]
        exact bad2
  · have hb := rowF_bad (S := S) (s := T.2 []) h1
    have hy : ∃ k : Int32, fX5_rowFault y S = some (k, S) := by
      by_cases h2 : 0 ≤ y ∧ y ≤ 7
      · obtain ⟨q, hq, e⟩ := of_le (b := 7) (by decide) h2
        subst e
        rcases rowF (h.2.2.2.2.2.1 q (by omega)) (by omega) with ⟨_, e1, e2⟩ | ⟨_, e1, e2⟩ | ⟨_, e1, e2⟩
        · exact ⟨_, e1⟩
        · exact ⟨_, e1⟩
        · exact ⟨_, e1⟩
      · exact ⟨_, (rowF_bad (s := T.2 []) h2).1⟩
    obtain ⟨k, hk⟩ := hy
    simp only [in07, hb.1, hk, obind, if_neg h1, m20, if_true, if_false]
    exact bad2
end SHELF
