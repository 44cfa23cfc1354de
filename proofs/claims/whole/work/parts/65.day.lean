/-! PURE MATHEMATICS, 45: day. -/
section TRUTH
variable {c d : CN} {N t M a l q n : Nat} {L L' L1 : Int} {v v1 u : CN} {w : Nat → Nat → Int64} {S : SS} {T T1 : TF} {x y z : Int32}
def nxt (x : Int32) : Int32 := x * (1103515245 : Int32) + (12345 : Int32)
def byt (x : Int32) : Int32 := (((nxt x).toUInt32 >>> ((16 : Int32).toUInt32 &&& Int32.toUInt32 31)).toInt32) - (((nxt x).toUInt32 >>> ((16 : Int32).toUInt32 &&& Int32.toUInt32 31)).toInt32) / (256 : Int32) * (256 : Int32)
theorem okW_draw : fX4_drawByte (put φW c u, w) = some (byt (c 5 6), (put φW (upd2 c 5 6 (nxt (c 5 6))) u, w)) := by
  have e : put φW c u 0 6 = c 5 6 := rW rfl
  have e2 : fX4_drawByte (put φW c u, w) = some (byt (put φW c u 0 6), wrI (put φW c u, w) 0 6 (nxt (put φW c u 0 6))) := rfl
  rw [e2, e, wW (show φW 0 6 = some (5, 6) from rfl)]
theorem okR_draw {s : SS} : fX6_below (256 : Int32) s = some (byt (s.1 0 27), wrI s 0 27 (nxt (s.1 0 27))) := by
  unfold fX6_below fX6_below_0
  rw [if_pos (by decide)]
  rfl
theorem draw_both (h : RC c N t M L S T) : ∃ (b : Int32) (c1 : CN) (z1 : SS), fX4_drawByte (selS (fun k => 1 + k) S) = some (b, z1) ∧ mrgS (fun k => 1 + k) 9 S z1 = (put (atL 1 φW) c1 S.1, S.2) ∧ fX6_below (256 : Int32) (T.2 []) = some (b, (put φR c1 (T.2 []).1, (T.2 []).2)) ∧ RC c1 N t M L (put (atL 1 φW) c1 S.1, S.2) (wrT T [] (put φR c1 (T.2 []).1, (T.2 []).2)) ∧ c1 0 8 = c 0 8 := by
  obtain ⟨v, w⟩ := S
  have e27 : (T.2 []).1 0 27 = c 5 6 := h.2.2.2.1 0 27 5 6 rfl
  have k : ∀ z : Int32, OK (upd2 c 5 6 z) N t M L ∧ WI (upd2 c 5 6 z) ∧ lk c ≤ lk (upd2 c 5 6 z) ∧ upd2 c 5 6 z 0 8 = c 0 8 := fun z => ⟨⟨⟨h.1.1.1, h.1.1.2.1, h.1.1.2.2.1, h.1.1.2.2.2⟩, ⟨h.1.2.1.1, h.1.2.1.2.1, h.1.2.1.2.2.1, h.1.2.1.2.2.2.1, h.1.2.1.2.2.2.2⟩, h.1.2.2.1, h.1.2.2.2⟩, ⟨h.2.1.1, h.2.1.2.1, h.2.1.2.2⟩, Nat.le_refl _, rfl⟩
  obtain ⟨z1, q1, q2⟩ := okM_atW (d := upd2 c 5 6 (nxt (c 5 6))) (f := fX4_drawByte) (r := byt (c 5 6)) (w := w) h.2.2.1 (fun u w => okW_draw)
  have kk := k (nxt (c 5 6))
  have r1 : fX6_below (256 : Int32) (T.2 []) = some (byt (c 5 6), (put φR (upd2 c 5 6 (nxt (c 5 6))) (T.2 []).1, (T.2 []).2)) := by
    rw [okR_draw, e27, wr_R h.2.2.2.1 (show φR 0 27 = some (5, 6) from rfl)]
  generalize nxt (c 5 6) = zz at *
  exact ⟨_, _, z1, q1, q2, r1, h.truthC kk.1 kk.2.1 (Int.le_refl _) kk.2.2.1, kk.2.2.2⟩
theorem sun_both (h : RC c N t M L S T) : ∃ (p : Int32) (z2 : SS), fX0_allPlaces (selS (fun k => 2 + k) S) = some (p, z2) ∧ mrgS (fun k => 2 + k) 5 S z2 = S ∧ ((1 : Int32) <<< (((T.2 []).1 0 9) &&& 31)) - (1 : Int32) = p ∧ ∀ sun : Int32, ∃ c2 : CN, RC c2 N t M L (wrI S 2 2 sun) (wTI T [] 0 16 sun) := by
  obtain ⟨v, w⟩ := S
  obtain ⟨z2, q3, q4⟩ := okM_rd (w := w) h.2.2.1 (fun u w => okC_all (u := u) (w := w) h.1.1)
  refine ⟨_, z2, q3, q4, by rw [h.cells.2.2.2.1], fun sun => ⟨upd2 c 0 2 sun, ?_⟩⟩
  have hw : wrI (v, w) 2 2 sun = (put (atL 1 φW) (upd2 c 0 2 sun) v, w) := by
    unfold wrI
    rw [wr_M h.2.2.1 (show atL 1 φW 2 2 = some (0, 2) from rfl)]
  have hx : wTI T [] 0 16 sun = wrT T [] (put φR (upd2 c 0 2 sun) (T.2 []).1, (T.2 []).2) := by
    rw [← wr_R h.2.2.2.1 (show φR 0 16 = some (0, 2) from rfl)]
  rw [hw, hx]
  exact h.truthC (d := upd2 c 0 2 sun) (upd_OK h.1 (Or.inl rfl)) (h.2.1.of upd_5) (Int.le_refl _) (Nat.le_refl _)
theorem both_day (h : RR L S T) (hL : L + 600000 ≤ 1999000000) : BothT (L + 300000) (fX5_day x y S) (fX6_day [] x y T) := by
  have bad2 := bad_T (a := 2) (h.mono (L' := L + 300000) (by omega) (by omega)) (by decide) (by decide)
  obtain ⟨h0, c, N, t, M, h⟩ := h
  have hl := h.licker.2.2.2
  unfold fX5_day fX5_day_0 fX5_day_18 fX6_day fX6_day_0 fX6_day_20
  simp only [okM_isLicker h, okR_isLicker h, okC_within, in160, obind, iteB, wrT_id]
  by_cases h1 : 0 ≤ x ∧ x ≤ i32 (lk c) - 1
  · obtain ⟨l, hl', e⟩ := (of_lt (by omega)).mp h1
    subst e
    rw [if_pos h1, if_pos h1]
    by_cases h2 : 1 ≤ y ∧ y ≤ 60
    · obtain ⟨n, hn, e⟩ := of_le (b := 60) (by decide) ⟨Int32.le_trans (by decide) h2.1, h2.2⟩
      subst e
      rw [if_pos h2, if_pos h2]
      obtain ⟨b, c1, z1, q1, q2, r1, h1', hc⟩ := draw_both h
      obtain ⟨p, z2, q3, q4, q5, q6⟩ := sun_both h1'
      rw [q1, r1, obind, obind]
      dsimp only
      rw [q2, q3, obind]
      dsimp only
      rw [q4, q5]
      obtain ⟨c2, h3⟩ := q6 (b &&& p)
      generalize b &&& p = sun at *
      have s1 := h.scores.2.2.1
      have s2 := h1'.scores.1
      dsimp only at s2
      rw [hc] at s2
      obtain ⟨S', T', c', t', p1, p2, p3, p4⟩ := licks_loop (n := n) (show l < 4 by omega) n 0 FU c2 t L _ _ (by exact h0) h3 (by omega) (by omega) hn (by unfold FU; omega)
      have p1' : fX5_lickInTruth (i32 l) (i32 n) (wrI (put (atL 1 φW) c1 S.1, S.2) 2 2 sun) = some ((), S') := p1
      have p2' : fX6_licksTruly [] (i32 l) (i32 n) (wTI (wrT T [] (put φR c1 (T.2 []).1, (T.2 []).2)) [] 0 16 sun) = some ((), T') := p2
      rw [p1', p2', obind, obind]
      dsimp only
      rw [p4.scores.1, p4.scores.2.2.1, s1, s2]
      exact ⟨_, _, _, rfl, rfl, RR.mono (L := L + 1000 * n) (p4.rr p3) (by omega) (by omega)⟩
    · rw [if_neg h2, if_neg h2]
      exact bad2
  · rw [if_neg h1, if_neg h1]
    exact bad2
end TRUTH
