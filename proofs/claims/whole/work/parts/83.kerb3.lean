/-! PURE MATHEMATICS, 64: kerb, both. -/
section READ
variable {c : CN} {N t M : Nat} {L : Int} {S : SS} {T : TF}
theorem both_kerb (h : RR L S T) (hL : L + 600000 ≤ 1999000000) : BothT (L + 300000) (fX5_kerb S) (fX6_kerb [] T) := by
  obtain ⟨h0, c, N, t, M, h⟩ := h
  obtain ⟨z, T2, e1, e2, f1, f2, f3, f4, f5, f6, n, g⟩ := kerb_read h (by omega)
  have hv : ∀ p : Nat, p < 19 ∨ 28 ≤ p → put (atL 19 φW) c S.1 p = S.1 p := fun p hp => funext fun j => put_off (atW_off (by omega))
  have tU : ∀ r' : SS, wTI (wrT T2 [] r') [] 0 7 0 = wrT T2 [] (wrI r' 0 7 0) := fun r' => by
    show wrT _ [] (wrI ((wrT T2 [] r').2 []) 0 7 0) = _
    rw [wrT_same, wrT_wrT]
  unfold fX5_kerb fX5_kerb_0 fX6_kerb fX6_kerb_0
  rw [e1, obind, f1, obind]
  dsimp only
  rw [e2]
  rcases g with ⟨s', r', fr, a1, a2, a3, a4, a5, a6⟩ | ⟨s', r', c', N', t', M', k', a1, a2, a3, a4, a5, a6, a7, a8⟩
  · have nn := neg20 fr (by omega)
    obtain ⟨z4, k1, k2⟩ := kerb_bad h0 h hv Hold_put f2 f3 f4 f5 a3 a4 a6
    have t9 : (wrT T2 [] (wrI r' 0 7 0)).2 [9] = T2.2 [9] := wrT_ne (by decide)
    have k3 := k2.cut (s := T2.2 [9])
    rw [wrT_same, wrT_wrT] at k3
    obtain ⟨S5, s5, r1, r2, r3⟩ := refuse_both (a := 2) k3 (by decide) (by decide)
    rw [show (-i32 2 : Int32) = -2 by decide, wrT_same] at r2
    rw [show (-i32 2 : Int32) = -2 by decide] at r1
    have e35 := refuse_keeps r2
    rw [a1, a2, obind, obind]
    dsimp only
    rw [if_neg nn, if_pos rfl, k1, obind, tU, wrT_same, t9, okR_take f6, obind]
    dsimp only
    rw [snS_pr, wrT_wrT, back9 rfl, wrT_same, r1, r2, obind, obind]
    dsimp only
    rw [wrT_same, e35, (prS_lo (show 0 < 33 by decide)).1]
    have e5 : put φR c (wrI r' 0 7 0).1 0 35 = i32 fr := (put_off (φ := φR) (c := c) (u := (wrI r' 0 7 0).1) (φR_31 (b := 35) (by decide))).trans ((wrI_1.trans (if_neg (by decide))).trans a6)
    dsimp only
    rw [e5]
    exact ⟨_, S5, _, rfl, rfl, r3.mono (by omega) (by omega)⟩
  · rw [a1, a2, obind, obind]
    dsimp only
    rw [if_pos (i32_nn (by unfold B31; omega)), if_neg (show ¬ (1 : Int32) = 0 by decide)]
    have er : ((wTI (wrT T2 [] r') [] 0 7 0).2 []).1 0 37 = i32 k' := by
      rw [rd_wr, if_neg (by decide), wrT_same]
      exact a3
    rw [er]
    exact ⟨_, _, _, rfl, rfl, RR.mono (L := L + 200000) (kerb_ok h0 h hv f2 f3 f4 f5 a5 (by omega) a6 a7 a8) (by omega) (by omega)⟩
end READ
