/-! PURE MATHEMATICS, 53: a licker and a lick read. -/
section READ
variable {φ : Nat → Nat → Option (Nat × Nat)} {c c' d : CN} {N t M n lo lo' i : Nat} {L : Int} {s r s1 r1 s2 r2 : SS} {x y : Int32}
theorem φW2_lo : ∀ k j : Nat, k < 2 → atL 2 φW k j = none := fun k j hk => by unfold atL; rw [if_neg (by omega)]
theorem world_op {ρ : Type} {f : SS → Option (ρ × SS)} {q : ρ} (h : Hold (atL 2 φW) c s.1) (e : ∀ (u : CN) (w : Nat → Nat → Int64), f (put φW c u, w) = some (q, (put φW c' u, w))) : ∃ z : SS, f (selS (fun k => 2 + k) s) = some (q, z) ∧ mrgS (fun k => 2 + k) 9 s z = (put (atL 2 φW) c' s.1, s.2) := by
  obtain ⟨v, w⟩ := s
  exact ⟨_, by rw [sel_at h]; exact e _ _, by rw [mrg_W]⟩
theorem read_licker {nl : Nat} (h : KS (atL 2 φW) c N t M L s r n lo) (en : c 5 3 = i32 nl) (hM : nl < 4) (hw : ∃ i : Nat, i < 7 ∧ Wd r i) (hL : L + 1000 ≤ 1999000000) : KB (atL 2 φW) (LkLe c) c L s r n (lo + 1) (fX1_readLicker s) ((fX6_tells (0 : Int32) (5 : Int32) r).bind fun z4 => if z4.1 = 0 then (fX6_statement_249 z4.2) else (((fX6_number (1 : Int32) (0 : Int32) (9 : Int32) z4.2).bind fun z6 => if z6.1 = 0 then (fX6_statement_249 z6.2) else (fX6_statement_250 (1 : Int32) z6.2)))) := by
  obtain ⟨i, hi, hwi⟩ := hw
  obtain ⟨hT, hO, hW, hs, hr⟩ := h
  have e11 : s.1 2 3 = i32 nl := (hs 2 3 5 3 rfl).trans en
  have lt3 : i32 nl < 4 := (lt_l (n := 4) (by unfold B31; omega) (by decide)).mpr hM
  obtain ⟨z, r1, q1, q2, q3, q4, q5, q6⟩ := T_adv hT (hwi.on hT hi)
  have k1 : KS (atL 2 φW) c N t M L (mrgS (fun k => 0 + k) 2 s z) r1 n (lo + 1) := ⟨q3, hO, hW, hold_ge2 φW2_lo hs q6, q5.hold hr⟩
  have e249 : ∀ q : SS, fX6_statement_249 q = some (0, q) := fun q => by
    unfold fX6_statement_249 fX6_statement_250
    rw [if_pos rfl, nb0]
  unfold fX1_readLicker fX1_readLicker_0 fX6_tells fX6_tells_0
  rw [e11, if_pos lt3, q1, q2, obind, obind]
  dsimp only
  generalize hs1 : mrgS (fun k => 0 + k) 2 s z = s1 at *
  rcases K_num (x := 0) (y := 5) (i := 0) k1 (by decide) (by decide) with ⟨p1, r', p2, p3⟩ | ⟨p1, p2, p3, p4⟩
  · have p2' : fX6_number (0 : Int32) (0 : Int32) (5 : Int32) r1 = some (0, r') := p2
    rw [p1, p2', obind, obind, obind]
    dsimp only
    rw [nb0, if_pos rfl, if_pos rfl, mrg_sel injA, e249]
    exact Or.inl ⟨_, _, rfl, rfl, q4.tr p3.1, q5.fr.tr p3.2.1, p3.2.2⟩
  · have p4' : fX6_number (0 : Int32) (0 : Int32) (5 : Int32) r1 = (fX6_look (wrI r1 29 0 (s1.1 0 5))).bind fun z => some ((1 : Int32), z.2) := p4
    rw [p1, p4', obind]
    dsimp only
    rw [if_neg (by decide), mrg_sel injA]
    obtain ⟨a, ha, ea⟩ := of_le (b := 5) (by decide) ⟨p2, p3⟩
    rw [ea]
    have k2 := k1.r29 (i := 0) (z := i32 a)
    obtain ⟨z4, r2, u1, u2, u3, u4, u5, u6⟩ := T_adv k2.1 stay
    have k3 : KS (atL 2 φW) c N t M L (mrgS (fun k => 0 + k) 2 s1 z4) r2 n (lo + 1) := ⟨u3, hO, hW, hold_ge2 φW2_lo k1.2.2.2.1 u6, u5.hold k2.2.2.2.2⟩
    rw [u1, u2, obind, obind, obind, obind]
    dsimp only
    rw [nb1, if_neg (by decide)]
    have e29 : r2.1 29 0 = i32 a := (u5.2 29 0 (fun z => by omega)).trans (by rw [wrI_1, if_pos ⟨rfl, rfl⟩])
    generalize hs2 : mrgS (fun k => 0 + k) 2 s1 z4 = s2 at *
    have f2 : FC s s2 := q4.tr u4
    have g2 : FR r r2 := q5.fr.tr (FR29.tr u5.fr)
    rcases K_num (x := 0) (y := 9) (i := 1) k3 (by decide) (by decide) with ⟨p1, r', p2, p3⟩ | ⟨p1, p2, p3, p4⟩
    · have p2' : fX6_number (1 : Int32) (0 : Int32) (9 : Int32) r2 = some (0, r') := p2
      rw [p1, p2', obind, obind]
      dsimp only
      rw [if_pos rfl, if_pos rfl, mrg_sel injA, e249]
      exact Or.inl ⟨_, _, rfl, rfl, f2.tr p3.1, g2.tr p3.2.1, p3.2.2⟩
    · have p4' : fX6_number (1 : Int32) (0 : Int32) (9 : Int32) r2 = (fX6_look (wrI r2 29 1 (s2.1 0 5))).bind fun z => some ((1 : Int32), z.2) := p4
      rw [p1, p4', obind]
      dsimp only
      rw [if_neg (by decide), mrg_sel injA]
      obtain ⟨b, hb, eb⟩ := of_le (b := 9) (by decide) ⟨p2, p3⟩
      rw [eb]
      have k4 := k3.r29 (i := 1) (z := i32 b)
      obtain ⟨z5, o1, o2⟩ := world_op (c' := mAddL nl (i32 a) (i32 b) c) k3.2.2.2.1 (fun u w => okW_add (x := i32 a) (y := i32 b) hM en)
      rw [o1, obind]
      dsimp only
      rw [o2]
      obtain ⟨z6, r3, v1, v2, v3, v4, v5, v6⟩ := T_adv (tk_put (c' := mAddL nl (i32 a) (i32 b) c) φW2_lo k4.1) stay
      rw [v1, v2, obind, obind, obind]
      dsimp only
      rw [if_neg (by decide)]
      have e290 : r3.1 29 0 = i32 a := (v5.2 29 0 (fun z => by omega)).trans (by rw [wrI_1, if_neg (by decide)]; exact e29)
      have e291 : r3.1 29 1 = i32 b := (v5.2 29 1 (fun z => by omega)).trans (by rw [wrI_1, if_pos ⟨rfl, rfl⟩])
      have hr3 : Hold φR c r3.1 := v5.hold k4.2.2.2.2
      unfold fX6_statement_250
      rw [if_neg (by decide), e290, e291, refR_op hr3 (fun u w => okR_add' (x := i32 a) (y := i32 b) hM en), obind, nb1]
      have hO2 : OK (mAddL nl (i32 a) (i32 b) c) N t M (L + 1000) := (mAddL_OK hO).mono (by omega) hL
      exact Or.inr ⟨_, _, mAddL nl (i32 a) (i32 b) c, N, t, M, rfl, rfl, ⟨tk_putR v3, hO2, mAddL_WI hW hM ha hb, hold_ge2 φW2_lo Hold_put v6, Hold_put⟩, (f2.tr (FC_put φW2_lo)).tr v4, g2.tr (FR29.tr (v5.fr.tr FR_put)), by unfold LkLe lk; rw [en, show mAddL nl (i32 a) (i32 b) c 5 3 = i32 (nl + 1) from rfl, gnat (by omega), gnat (by omega)]; omega⟩
theorem hold_W3 {v : CN} (h : Hold (atL 2 φW) c v) : Hold (atL 3 φC) c v := fun k j a b e => by
  unfold atL at e
  by_cases hk : 3 ≤ k
  · rw [if_pos hk] at e
    refine h k j a b ?_
    unfold atL
    rw [if_pos (by omega), show k - 2 = 1 + (k - 3) by omega]
    have h5 : k - 3 < 5 := Nat.not_le.mp (fun q => by rw [φC_5 (k - 3) j q] at e; exact absurd e (by simp))
    rw [fW_cone h5]
    exact e
  · rw [if_neg hk] at e
    exact absurd e (by simp)
theorem lick_num (h : TK s r n lo) : (fX1_isNumber 0 6 s = some (0, s) ∧ (r.1 0 32 ≠ 2 ∨ (r.1 0 32 = 2 ∧ ¬ (0 ≤ r.1 0 34 ∧ r.1 0 34 ≤ 6)))) ∨ (fX1_isNumber 0 6 s = some (1, s) ∧ r.1 0 32 = 2 ∧ (0 ≤ r.1 0 34 ∧ r.1 0 34 ≤ 6) ∧ s.1 0 5 = r.1 0 34) := by
  obtain ⟨hb, fr, to, _, _, c1, c2, c3, c4, c5, c6, c7, c8, c9⟩ := h
  have hn := hb.1
  have ed : i32 to - i32 fr = i32 (to - fr) := i32_sub (by omega)
  unfold fX1_isNumber fX1_isNumber_0
  rw [c3, c5, ed]
  by_cases k2 : s.1 0 2 = 2
  · have k3 := c7.symm.trans k2
    rw [if_pos k2]
    by_cases z : to - fr ≤ 2
    · have z' : ¬ (2 : Int32) < i32 (to - fr) := fun q => by have := (l_lt (n := 2) (by unfold B31; omega) (by decide)).mp q; omega
      have ev := c8 k2 z
      rw [if_neg z', ev]
      by_cases h1 : 0 ≤ r.1 0 34
      · rw [if_neg (Int32.not_lt.mpr h1)]
        by_cases h2 : r.1 0 34 ≤ 6
        · rw [if_neg (Int32.not_lt.mpr h2)]
          exact Or.inr ⟨rfl, k3, ⟨h1, h2⟩, rfl⟩
        · rw [if_pos (Int32.not_le.mp h2)]
          exact Or.inl ⟨rfl, Or.inr ⟨k3, fun q => h2 q.2⟩⟩
      · rw [if_pos (Int32.not_le.mp h1)]
        exact Or.inl ⟨rfl, Or.inr ⟨k3, fun q => h1 q.1⟩⟩
    · have z' : (2 : Int32) < i32 (to - fr) := (l_lt (n := 2) (by unfold B31; omega) (by decide)).mpr (by omega)
      have ev := c9 k2 (by omega)
      rw [if_pos z']
      exact Or.inl ⟨rfl, Or.inr ⟨k3, fun q => by rw [ev] at q; exact absurd q.2 (by decide)⟩⟩
  · rw [if_neg k2]
    exact Or.inl ⟨rfl, Or.inl (fun q => k2 (c7.trans q))⟩
theorem read_lick (h : KS (atL 2 φW) c N t M L s r n lo) (hw : ∃ i : Nat, i < 7 ∧ Wd r i) (hL : L + 1000 ≤ 1999000000) : KB (atL 2 φW) (LkLe c) c L s r n (lo + 1) (fX1_readLick s) (fX6_lickTold r) := by
  obtain ⟨i, hi, hwi⟩ := hw
  obtain ⟨hT, hO, hW, hs, hr⟩ := h
  obtain ⟨z, r1, q1, q2, q3, q4, q5, q6⟩ := T_adv hT (hwi.on hT hi)
  have k1 : KS (atL 2 φW) c N t M L (mrgS (fun k => 0 + k) 2 s z) r1 n (lo + 1) := ⟨q3, hO, hW, hold_ge2 φW2_lo hs q6, q5.hold hr⟩
  obtain ⟨fr, f1, f2, f3⟩ := k1.1.from
  have e24 : fX6_lickTold_24 r1 = some (0, wrI r1 0 35 (r1.1 0 33)) := by
    have e : fX6_wrong r1 = some ((0 : Int32), wrI r1 0 35 (r1.1 0 33)) := rfl
    unfold fX6_lickTold_24
    rw [e, obind, nb0]
  unfold fX1_readLick fX1_readLick_0 fX6_lickTold fX6_lickTold_0
  rw [q1, q2, obind, obind]
  dsimp only
  generalize hs1 : mrgS (fun k => 0 + k) 2 s z = s1 at *
  have bad : KB (atL 2 φW) (LkLe c) c L s r n (lo + 1) (some (0, s1)) (fX6_lickTold_24 r1) := by
    rw [e24]
    exact Or.inl ⟨_, _, rfl, rfl, q4, q5.fr.tr FR35, fr, f1, f2, by rw [wrI_1, if_pos ⟨rfl, rfl⟩]; exact f3⟩
  have hM := hO.1.m3
  have e10 : r1.1 0 10 = i32 M := (k1.2.2.2.2 0 10 0 11 rfl).trans hO.1.2.2.1
  have hT' : TK (selS (fun k => 0 + k) s1) r1 n (lo + 1) := k1.1.of rfl rfl (fun _ _ => rfl) rfl
  rcases lick_num hT' with ⟨p1, p2⟩ | ⟨p1, p2, p3, p4⟩
  · rw [p1, obind]
    dsimp only
    rw [if_pos rfl, mrg_sel injA]
    rcases p2 with p2 | ⟨p2, p3⟩
    · rw [if_neg p2]
      exact bad
    · have g0 : (0 : Int64) = (0 : Int32).toInt64 := by decide
      have g6 : (6 : Int64) = (6 : Int32).toInt64 := by decide
      rw [if_pos p2, okR_canAct_out (fun q => p3 ⟨t64_le.mp (by rw [← g0]; exact q.1), t64_le.mp (by rw [← g6]; exact q.2)⟩), obind]
      dsimp only
      rw [if_pos rfl]
      exact bad
  · obtain ⟨a, ha, ea⟩ := of_le (b := 6) (by decide) p3
    have p4' : s1.1 0 5 = i32 a := p4.trans ea
    have ed : fX0_canDo (i32 a) (selS (fun k => 3 + k) s1) = some (if 1 ≤ a ∧ a < 4 ∧ M < a then 0 else 1, selS (fun k => 3 + k) s1) := by
      obtain ⟨v, w⟩ := s1
      rw [sel_at (hold_W3 k1.2.2.2.1), okC_canDo hO.1 ha]
    rw [p1, obind]
    dsimp only
    rw [if_neg (by decide), mrg_sel injA, p4', ed, obind, if_pos p2, ea, okR_canAct hO.1 e10 ha, obind]
    dsimp only
    rw [mrg_sel injA]
    by_cases zz : 1 ≤ a ∧ a < 4 ∧ M < a
    · rw [if_pos zz, if_neg (show ¬ canB M a by unfold canB; omega), if_pos rfl, if_pos rfl]
      exact bad
    · rw [if_neg zz, if_pos (show canB M a by unfold canB; omega), if_neg (by decide), if_neg (by decide), p4', ea]
      have hc : canA M a := ⟨ha, fun _ _ => by omega⟩
      have km := mTruth_OK hO hW hL hc
      obtain ⟨z5, o1, o2⟩ := world_op (c' := mTruth N t M a c) k1.2.2.2.1 (fun u w => okW_act hO.1 hO.2.1.Nn hO.eat hc hW.2.1)
      have g1 := goes_hold (y := 1) k1.2.2.2.2 hO hc hW.2.1
      have e : dropS 1 (c 0 8) (mPass N t M a c) = mTruth N t M a c := if_neg (by decide)
      rw [e] at g1
      rw [o1, g1, obind, obind]
      dsimp only
      rw [o2]
      obtain ⟨z6, r3, v1, v2, v3, v4, v5, v6⟩ := T_adv (tk_putR (c' := mTruth N t M a c) (tk_put (c' := mTruth N t M a c) φW2_lo k1.1)) stay
      rw [v1, v2, obind, obind]
      exact Or.inr ⟨_, _, mTruth N t M a c, N, newT N t a, M, rfl, rfl, ⟨v3, km.1, km.2.1, hold_ge2 φW2_lo Hold_put v6, v5.hold Hold_put⟩, (q4.tr (FC_put φW2_lo)).tr v4, q5.fr.tr (FR_put.tr v5.fr), Nat.le_of_eq km.2.2.symm⟩
end READ
