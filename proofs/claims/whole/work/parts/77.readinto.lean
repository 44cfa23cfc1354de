/-! PURE MATHEMATICS, 58: the whole tape read. -/
section READ
variable {c c' d : CN} {N t M n lo lo' i : Nat} {L : Int} {s s' r s1 r1 s2 r2 : SS} {x y : Int32}
theorem both_read (hB : TB s r n) (hO : OK c N t M L) (hW : WI c) (hs : Hold (atL 2 φW) c s.1) (hr : Hold φR c r.1) (hL : L + 300000 ≤ 1999000000) : KA c (L + 200000) s r n (fX1_readInto s) (fX6_readAll r) := by
  have t1 : TC s (wrI s 0 4 0) := TC.rf.wr (by decide) (by decide)
  have t0 : FR0 r (wrI (wrI r 0 37 1) 0 31 0) := FR37.tr (TR.fr (TR.rf.wr (by decide) (by decide))).z
  have hB0 : TB (wrI s 0 4 0) (wrI r 0 37 1) n := ⟨hB.1, (t1.2.2 1 (by decide)).trans hB.2.1, by rw [wrI_1, if_neg (by decide)]; exact hB.2.2.1, fun j hj => by rw [t1.2.1 1 (by decide), wrI_1, if_neg (fun z => absurd z.1 (by decide))]; exact hB.2.2.2 j hj⟩
  have hB1 : TB (selS (fun k => 0 + k) (wrI s 0 4 0)) (wrI (wrI r 0 37 1) 0 31 0) n := TB.of (s := wrI s 0 4 0) (s1 := wrI s 0 4 0) hB0 .rf (TR.rf.wr (by decide) (by decide))
  obtain ⟨z, r1, q1, q2, q3, q4, q5⟩ := both_look (k := 0) hB1 (Nat.zero_le _) rfl rfl
  obtain ⟨m0, m1, m2, m3, m4⟩ := mrg0 q3
  have hr0 : Hold φR c (wrI (wrI r 0 37 1) 0 31 0).1 := fun k j a b e => by
    have := φR_rel e
    rw [wrI_1, if_neg (fun z => by have := this.1 z.1; omega), wrI_1, if_neg (fun z => by have := this.1 z.1; omega)]
    exact hr k j a b e
  have hs0 : Hold (atL 2 φW) c (wrI s 0 4 0).1 := hold_ge2 φW2_lo hs (fun p hp => t1.2.1 p (by omega))
  have k : KS (atL 2 φW) c N t M L (mrgS (fun k => 0 + k) 2 (wrI s 0 4 0) z) r1 n 0 := ⟨q5.of m0 (m1.trans m2.symm) (fun _ _ => rfl) rfl, hO, hW, hold_ge2 φW2_lo hs0 m3, q4.hold hr0⟩
  have fc : FC s (mrgS (fun k => 0 + k) 2 (wrI s 0 4 0) z) := ⟨m4, m1.trans (t1.2.1 1 (by decide)), fun j hj => by rw [m0]; exact (q3.2.2 j hj).trans (t1.2.2 j hj)⟩
  have fr : FR0 r r1 := t0.tr q4.fr.z
  have e37 : r1.1 0 37 = i32 1 := (q4.2 0 37 (by omega)).trans rfl
  have g := read_loop 199 1 FU FU false c N t M L _ r1 0 (by decide) (by decide) (by decide) (by unfold FU; omega) (by unfold FU; omega) k (by omega) (by rw [e37]; rfl)
  rw [show L + 1000 * ((199 : Nat) : Int) + 1000 = L + 200000 by omega] at g
  have eg : fX6_readAll r = ((fX6_statement r1).bind fun z4 => if z4.1 = 0 then some ((0 : Int32), z4.2) else fX6_readAll_23 FU (cnt false z4.2)) := by
    unfold fX6_readAll fX6_readAll_0
    rw [q2, obind]
    rfl
  have ef : fX1_readInto s = fX1_readInto_11 FU (i32 1) (mrgS (fun k => 0 + k) 2 (wrI s 0 4 0) z) := by
    unfold fX1_readInto fX1_readInto_0
    rw [q1, obind]
    rfl
  rw [ef, eg]
  rcases g with ⟨s3, r3, fr', b1, b2, b3, b4, b5⟩ | ⟨s3, r3, c3, N3, t3, M3, k3, b1, b2, b3, b4, b5, b6, b7, b8⟩
  · exact Or.inl ⟨s3, r3, fr', b1, b2, fc.tr b3, fr.tr b4, b5⟩
  · exact Or.inr ⟨s3, r3, c3, N3, t3, M3, k3, b1, b2, b3, b4, b5, fc.tr b6, fr.tr b7, b8⟩
end READ
