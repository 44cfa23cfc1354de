/-! PURE MATHEMATICS, 54: the sun read. -/
section READ
variable {φ : Nat → Nat → Option (Nat × Nat)} {c c' d : CN} {N t M n lo lo' i : Nat} {L : Int} {s r s1 r1 s2 r2 : SS} {x y : Int32}
theorem num_gen (hy : y < 1000) (h : TK s r n lo) : (fX1_isNumber 0 y s = some (0, s) ∧ (r.1 0 32 ≠ 2 ∨ (r.1 0 32 = 2 ∧ ¬ (0 ≤ r.1 0 34 ∧ r.1 0 34 ≤ y)))) ∨ (fX1_isNumber 0 y s = some (1, s) ∧ r.1 0 32 = 2 ∧ (0 ≤ r.1 0 34 ∧ r.1 0 34 ≤ y) ∧ s.1 0 5 = r.1 0 34) := by
  obtain ⟨hb, fr, to, _, _, c1, c2, c3, c4, c5, c6, c7, c8, c9⟩ := h
  have hn := hb.1
  have ed : i32 to - i32 fr = i32 (to - fr) := i32_sub (by omega)
  unfold fX1_isNumber fX1_isNumber_0
  rw [c3, c5, ed]
  by_cases k2 : s.1 0 2 = 2
  · have k3 := c7.symm.trans k2
    rw [if_pos k2]
    by_cases z : to - fr ≤ 2
    · have z' : ¬ (2 : Int32) < i32 (to - fr) := fun q => by have := (l_lt (n := 2) (by unfold B31; omega) (by decide)).mp q; omega
      have ev := c8 k2 z
      rw [if_neg z', ev]
      by_cases h1 : 0 ≤ r.1 0 34
      · rw [if_neg (Int32.not_lt.mpr h1)]
        by_cases h2 : r.1 0 34 ≤ y
        · rw [if_neg (Int32.not_lt.mpr h2)]
          exact Or.inr ⟨rfl, k3, ⟨h1, h2⟩, rfl⟩
        · rw [if_pos (Int32.not_le.mp h2)]
          exact Or.inl ⟨rfl, Or.inr ⟨k3, fun q => h2 q.2⟩⟩
      · rw [if_pos (Int32.not_le.mp h1)]
        exact Or.inl ⟨rfl, Or.inr ⟨k3, fun q => h1 q.1⟩⟩
    · have z' : (2 : Int32) < i32 (to - fr) := (l_lt (n := 2) (by unfold B31; omega) (by decide)).mpr (by omega)
      have ev := c9 k2 (by omega)
      rw [if_pos z']
      exact Or.inl ⟨rfl, Or.inr ⟨k3, fun q => by rw [ev] at q; exact absurd hy (Int32.not_lt.mpr q.2)⟩⟩
  · rw [if_neg k2]
    exact Or.inl ⟨rfl, Or.inl (fun q => k2 (c7.trans q))⟩
theorem okR_isSide' (hs : s.1 0 9 = i32 N) : fX6_isSide x s = some (if 0 ≤ x ∧ x ≤ i32 N - 1 then 1 else 0, s) := by
  unfold fX6_isSide fX6_isSide_0
  rw [in0v, obind, hs]
  dsimp only
  rw [nbZ_b]
def pc (b : Nat) : Nat := b % 2 + b / 2 % 2 + b / 4 % 2 + b / 8 % 2 + b / 16 % 2 + b / 32 % 2 + b / 64 % 2 + b / 128 % 2
theorem bits8 : ∀ bm : Nat, bm < 256 → ∀ b : Nat, b < 8 → (((i32 bm >>> (i32 b &&& 31)) &&& (1 : Int32)) = 0) → (i32 bm ||| ((1 : Int32) <<< (i32 b &&& 31))) = i32 (bm ||| 2 ^ b) ∧ bm ||| 2 ^ b < 256 ∧ pc (bm ||| 2 ^ b) = pc bm + 1 := by decide +kernel
theorem pc_le (bm : Nat) : pc bm ≤ 8 := by unfold pc; omega
theorem sun_loop (hO : OK c N t M L) (hW : WI c) (hL : L + 1000 ≤ 1999000000) : ∀ (m bm f g : Nat) (s r : SS), pc bm + m = 8 → bm < 256 → m + 1 < f → m + 1 < g → TK s r n lo → Hold (atL 2 φC) c s.1 → Hold φR c r.1 → KB (atL 2 φC) (Cone5 c) c L s r n lo (fX1_readSun_29 (fX1_readSun_8 f) (i32 bm) (i32 (pc bm)) s) (fX6_sunTold_6 g (i32 bm) r)
  | m, bm, 0, g, s, r => fun _ _ h => absurd h (Nat.not_lt_zero _)
  | m, bm, f + 1, 0, s, r => fun _ _ _ h => absurd h (Nat.not_lt_zero _)
  | m, bm, f + 1, g + 1, s, r => fun hm hbm hf hg hT hs hr => by
    have hN := hO.1.2.2.2.2.1
    have hN3 := hO.1.2.2.2.1
    have eN : s.1 2 0 = i32 N := (hs 2 0 0 0 rfl).trans hO.1.1
    have e9 : r.1 0 9 = i32 N := (hr 0 9 0 0 rfl).trans hO.1.1
    have eN1 : i32 N - 1 = i32 (N - 1) := i32_sub (b := 1) (by omega)
    have hy : i32 (N - 1) < 1000 := (lt_l (n := 1000) (by unfold B31; omega) (by decide)).mpr (by omega)
    obtain ⟨fr, f1, f2, f3⟩ := hT.from
    have hT' : TK (selS (fun k => 0 + k) s) r n lo := hT.of rfl rfl (fun _ _ => rfl) rfl
    have e36 : fX6_sunTold_36 r = some (0, wrI r 0 35 (r.1 0 33)) := by
      have e : fX6_wrong r = some ((0 : Int32), wrI r 0 35 (r.1 0 33)) := rfl
      unfold fX6_sunTold_36
      rw [e, obind, nb0]
    have bad : KB (atL 2 φC) (Cone5 c) c L s r n lo (some (0, s)) (fX6_sunTold_36 r) := by
      rw [e36]
      exact Or.inl ⟨_, _, rfl, rfl, .rf, FR35, fr, f1, f2, by rw [wrI_1, if_pos ⟨rfl, rfl⟩]; exact f3⟩
    unfold fX1_readSun_29 fX6_sunTold_6
    rw [eN, eN1]
    rcases num_gen hy hT' with ⟨p1, p2⟩ | ⟨p1, p2, p3, p4⟩
    · rw [p1, obind]
      dsimp only
      rw [if_pos rfl, mrg_sel injA]
      rcases p2 with p2 | ⟨p2, p3⟩
      · rw [if_neg p2]
        exact bad
      · rw [if_pos p2, okR_isSide' e9, obind, eN1, if_neg p3]
        dsimp only
        rw [if_pos rfl]
        exact bad
    · obtain ⟨b, hb, eb⟩ := of_le (b := N - 1) (by omega) p3
      have p4' : s.1 0 5 = i32 b := p4.trans eb
      rw [p1, obind]
      dsimp only
      rw [if_neg (by decide), mrg_sel injA, p4', if_pos p2, okR_isSide' e9, obind, eN1, if_pos p3]
      dsimp only
      rw [if_neg (show ¬ (1 : Int32) = 0 by decide), eb]
      by_cases z : ((i32 bm >>> (i32 b &&& 31)) &&& (1 : Int32)) = 0
      · rw [if_pos z, if_pos z]
        obtain ⟨u1, u2, u3⟩ := bits8 bm hbm b (by omega) z
        have h8 := pc_le (bm ||| 2 ^ b)
        obtain ⟨z4, r2, q1, q2, q3, q4, q5, q6⟩ := T_adv hT stay
        rw [q1, q2, obind, obind]
        dsimp only
        rw [u1, i32_succ, ← u3]
        have hs2 := hold_ge2 φC2_lo hs q6
        have hr2 := q5.hold hr
        generalize mrgS (fun k => 0 + k) 2 s z4 = s2 at *
        generalize hbm' : bm ||| 2 ^ b = bm' at *
        have kind : s2.1 0 2 = r2.1 0 32 := by
          obtain ⟨_, _, _, _, _, _, _, _, _, _, _, k, _⟩ := q3
          exact k
        unfold fX1_readSun_8
        rw [if_neg (fun q => by have := (l_lt (n := 8) (by unfold B31; omega) (by decide)).mp q; omega), kind]
        by_cases k2 : r2.1 0 32 = 2
        · rw [if_pos k2, if_pos k2]
          obtain ⟨m', em⟩ : ∃ m' : Nat, m = m' + 1 := ⟨m - 1, by omega⟩
          subst em
          rcases sun_loop hO hW hL m' bm' f g s2 r2 (by omega) u2 (by omega) (by omega) q3 hs2 hr2 with ⟨s', r', a1, a2, a3⟩ | ⟨s', r', c', N', t', M', a1, a2, a3, a4, a5, a6⟩
          · exact Or.inl ⟨s', r', a1, a2, q4.tr a3.1, q5.fr.tr a3.2.1, a3.2.2⟩
          · exact Or.inr ⟨s', r', c', N', t', M', a1, a2, a3, q4.tr a4, q5.fr.tr a5, a6⟩
        · rw [if_neg k2, if_neg k2, if_neg (fun q => by have := (le_l (n := 0) (by unfold B31; omega) (by decide)).mp q; omega)]
          have t3 : TK (wrI s2 2 2 (i32 bm')) (put φR (upd2 c 0 2 (i32 bm')) r2.1, r2.2) n lo := tk_putR (tk_w q3 (by decide))
          have t4 : FR r2 (put φR (upd2 c 0 2 (i32 bm')) r2.1, r2.2) := FR_put
          rw [wr_R hr2 (show φR 0 16 = some (0, 2) from rfl)]
          refine Or.inr ⟨_, _, upd2 c 0 2 (i32 bm'), N, t, M, rfl, rfl, ⟨t3, (upd_OK hO (Or.inl rfl)).mono (by omega) hL, hW.of upd_5, ?_, Hold_put⟩, q4.tr (FC_w .rf (by decide)), q5.fr.tr t4, upd_5⟩
          show Hold _ _ (upd2 s2.1 2 2 (i32 bm'))
          rw [← hs2.eq, put_upd (atL_ok φC_ok) (show atL 2 φC 2 2 = some (0, 2) from rfl)]
          exact Hold_put
      · rw [if_neg z, if_neg z]
        exact bad
theorem read_sun (h : KS (atL 2 φC) c N t M L s r n lo) (hw : ∃ i : Nat, i < 7 ∧ Wd r i) (hL : L + 1000 ≤ 1999000000) : KB (atL 2 φC) (Cone5 c) c L s r n (lo + 1) (fX1_readSun s) (fX6_sunTold r) := by
  obtain ⟨i, hi, hwi⟩ := hw
  obtain ⟨hT, hO, hW, hs, hr⟩ := h
  obtain ⟨z, r1, q1, q2, q3, q4, q5, q6⟩ := T_adv hT (hwi.on hT hi)
  have hs1 := hold_ge2 φC2_lo hs q6
  unfold fX1_readSun fX1_readSun_0 fX6_sunTold fX6_sunTold_0
  rw [q1, q2, obind, obind]
  dsimp only
  generalize mrgS (fun k => 0 + k) 2 s z = s1 at *
  have eF : FU = (FU - 1) + 1 := by unfold FU; omega
  have e8 : fX1_readSun_8 FU (0 : Int32) (0 : Int32) s1 = fX1_readSun_29 (fX1_readSun_8 (FU - 1)) (i32 0) (i32 (pc 0)) s1 := by
    rw [eF, fX1_readSun_8, if_neg (by decide)]
    split
    · rfl
    · rw [if_pos (by decide)]; rfl
  rw [e8]
  rcases sun_loop hO hW hL 8 0 (FU - 1) FU s1 r1 rfl (by decide) (by unfold FU; omega) (by unfold FU; omega) q3 hs1 (q5.hold hr) with ⟨s', r', a1, a2, a3⟩ | ⟨s', r', c', N', t', M', a1, a2, a3, a4, a5, a6⟩
  · exact Or.inl ⟨s', r', a1, a2, q4.tr a3.1, q5.fr.tr a3.2.1, a3.2.2⟩
  · exact Or.inr ⟨s', r', c', N', t', M', a1, a2, a3, q4.tr a4, q5.fr.tr a5, a6⟩
end READ
