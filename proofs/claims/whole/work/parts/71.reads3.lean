/-! PURE MATHEMATICS, 52: a scoop read. -/
section READ
variable {φ : Nat → Nat → Option (Nat × Nat)} {c c' d : CN} {N t M n lo lo' i : Nat} {L : Int} {s r s1 r1 s2 r2 : SS} {x y : Int32}
theorem read_scoop (h : KS (atL 2 φC) c N t M L s r n lo) (hM : M < 3) (hw : ∃ i : Nat, i < 7 ∧ Wd r i) (hL : L + 1000 ≤ 1999000000) : KB (atL 2 φC) (Cone5 c) c L s r n (lo + 1) (fX1_readScoop s) ((fX6_tells (0 : Int32) (9 : Int32) r).bind fun z4 => if z4.1 = 0 then (fX6_statement_82 z4.2) else (((fX6_number (1 : Int32) (0 : Int32) (99 : Int32) z4.2).bind fun z6 => if z6.1 = 0 then (fX6_statement_82 z6.2) else (fX6_statement_83 (1 : Int32) z6.2)))) := by
  obtain ⟨i, hi, hwi⟩ := hw
  obtain ⟨hT, hO, hW, hs, hr⟩ := h
  have e11 : s.1 2 11 = i32 M := (hs 2 11 0 11 rfl).trans hO.1.2.2.1
  have lt3 : i32 M < 3 := (lt_l (n := 3) (by unfold B31; omega) (by decide)).mpr hM
  obtain ⟨z, r1, q1, q2, q3, q4, q5, q6⟩ := T_adv hT (hwi.on hT hi)
  have k1 : KS (atL 2 φC) c N t M L (mrgS (fun k => 0 + k) 2 s z) r1 n (lo + 1) := ⟨q3, hO, hW, hold_ge2 φC2_lo hs q6, q5.hold hr⟩
  have e82 : ∀ q : SS, fX6_statement_82 q = some (0, q) := fun q => by
    unfold fX6_statement_82 fX6_statement_83
    rw [if_pos rfl, nb0]
  unfold fX1_readScoop fX1_readScoop_0 fX6_tells fX6_tells_0
  rw [e11, if_pos lt3, q1, q2, obind, obind]
  dsimp only
  generalize hs1 : mrgS (fun k => 0 + k) 2 s z = s1 at *
  rcases K_num (x := 0) (y := 9) (i := 0) k1 (by decide) (by decide) with ⟨p1, r', p2, p3⟩ | ⟨p1, p2, p3, p4⟩
  · have p2' : fX6_number (0 : Int32) (0 : Int32) (9 : Int32) r1 = some (0, r') := p2
    rw [p1, p2', obind, obind, obind]
    dsimp only
    rw [nb0, if_pos rfl, if_pos rfl, mrg_sel injA, e82]
    exact Or.inl ⟨_, _, rfl, rfl, q4.tr p3.1, q5.fr.tr p3.2.1, p3.2.2⟩
  · have p4' : fX6_number (0 : Int32) (0 : Int32) (9 : Int32) r1 = (fX6_look (wrI r1 29 0 (s1.1 0 5))).bind fun z => some ((1 : Int32), z.2) := p4
    rw [p1, p4', obind]
    dsimp only
    rw [if_neg (by decide), mrg_sel injA]
    obtain ⟨a, ha, ea⟩ := of_le (b := 9) (by decide) ⟨p2, p3⟩
    rw [ea]
    have k2 := k1.r29 (i := 0) (z := i32 a)
    obtain ⟨z4, r2, u1, u2, u3, u4, u5, u6⟩ := T_adv k2.1 stay
    have k3 : KS (atL 2 φC) c N t M L (mrgS (fun k => 0 + k) 2 s1 z4) r2 n (lo + 1) := ⟨u3, hO, hW, hold_ge2 φC2_lo k1.2.2.2.1 u6, u5.hold k2.2.2.2.2⟩
    rw [u1, u2, obind, obind, obind, obind]
    dsimp only
    rw [nb1, if_neg (by decide)]
    have e29 : r2.1 29 0 = i32 a := (u5.2 29 0 (fun z => by omega)).trans (by rw [wrI_1, if_pos ⟨rfl, rfl⟩])
    generalize hs2 : mrgS (fun k => 0 + k) 2 s1 z4 = s2 at *
    have f2 : FC s s2 := q4.tr u4
    have g2 : FR r r2 := q5.fr.tr (FR29.tr u5.fr)
    rcases K_num (x := 0) (y := 99) (i := 1) k3 (by decide) (by decide) with ⟨p1, r', p2, p3⟩ | ⟨p1, p2, p3, p4⟩
    · have p2' : fX6_number (1 : Int32) (0 : Int32) (99 : Int32) r2 = some (0, r') := p2
      rw [p1, p2', obind, obind]
      dsimp only
      rw [if_pos rfl, if_pos rfl, mrg_sel injA, e82]
      exact Or.inl ⟨_, _, rfl, rfl, f2.tr p3.1, g2.tr p3.2.1, p3.2.2⟩
    · have p4' : fX6_number (1 : Int32) (0 : Int32) (99 : Int32) r2 = (fX6_look (wrI r2 29 1 (s2.1 0 5))).bind fun z => some ((1 : Int32), z.2) := p4
      rw [p1, p4', obind]
      dsimp only
      rw [if_neg (by decide), mrg_sel injA]
      obtain ⟨b, hb, eb⟩ := of_le (b := 99) (by decide) ⟨p2, p3⟩
      rw [eb]
      have k4 := k3.r29 (i := 1) (z := i32 b)
      obtain ⟨z5, o1, o2⟩ := cone_op (c' := mTop M (i32 a) (i32 b) c) k3.2.2.2.1 (fun u w => okC_top (x := i32 a) (y := i32 b) hO.1 hM)
      rw [o1, obind]
      dsimp only
      rw [o2]
      obtain ⟨z6, r3, v1, v2, v3, v4, v5, v6⟩ := T_adv (tk_put (c' := mTop M (i32 a) (i32 b) c) φC2_lo k4.1) stay
      rw [v1, v2, obind, obind, obind]
      dsimp only
      rw [if_neg (by decide)]
      have e290 : r3.1 29 0 = i32 a := (v5.2 29 0 (fun z => by omega)).trans (by rw [wrI_1, if_neg (by decide)]; exact e29)
      have e291 : r3.1 29 1 = i32 b := (v5.2 29 1 (fun z => by omega)).trans (by rw [wrI_1, if_pos ⟨rfl, rfl⟩])
      have hr3 : Hold φR c r3.1 := v5.hold k4.2.2.2.2
      unfold fX6_statement_83
      rw [if_neg (by decide), e290, e291, refR_op hr3 (fun u w => okR_add (x := i32 a) (y := i32 b) hO.1 hM), obind, nb1]
      have hO2 : OK (mTop M (i32 a) (i32 b) c) N t (M + 1) (L + 1000) := (mTop_OK hO hM ha hb).mono (by omega) hL
      exact Or.inr ⟨_, _, mTop M (i32 a) (i32 b) c, N, t, M + 1, rfl, rfl, ⟨tk_putR v3, hO2, hW.of (fun p hp => mTop_p hp), hold_ge2 φC2_lo Hold_put v6, Hold_put⟩, (f2.tr (FC_put φC2_lo)).tr v4, g2.tr (FR29.tr (v5.fr.tr FR_put)), fun p hp => mTop_p hp⟩
end READ
