/-! PURE MATHEMATICS, 16: the class's search for the plan. -/
/-- the best of before, bettered by x -/
def Best (d r : Nat) (v v' : CN) (x : PV) : Prop := if btr x (v 0 3, v 0 4, []) then (v' 0 3 = x.1 ∧ v' 0 4 = x.2.1 ∧ (∀ j : Nat, j < d → v' 3 j = v 2 j) ∧ ∀ j : Nat, j < r → v' 3 (d + j) = i32 (x.2.2.getD j 0)) else (v' 0 3 = v 0 3 ∧ v' 0 4 = v 0 4 ∧ ∀ j : Nat, j < 3 → v' 3 j = v 3 j)
def FrD (d : Nat) (v v' : CN) : Prop := (∀ p : Nat, p ≠ 0 → p ≠ 2 → p ≠ 3 → p < 4 + 5 * (d + 1) ∨ 24 ≤ p → v' p = v p) ∧ ∀ j : Nat, j < d → v' 2 j = v 2 j
theorem FrD.rf {d : Nat} {v : CN} : FrD d v v := ⟨fun _ _ _ _ _ => rfl, fun _ _ => rfl⟩
theorem FrD.tr {d : Nat} {v1 v2 v3 : CN} (h : FrD d v1 v2) (k : FrD d v2 v3) : FrD d v1 v3 := ⟨fun p h0 h2 h3 hp => (k.1 p h0 h2 h3 hp).trans (h.1 p h0 h2 h3 hp), fun j hj => (k.2 j hj).trans (h.2 j hj)⟩
section DEEP
variable {c : CN} {w : Nat → Nat → Int64} {N t M a : Nat} {L : Int}
theorem Best.same {d r : Nat} {v : CN} {x : PV} (h : ¬ btr x (v 0 3, v 0 4, [])) : Best d r v v x := by
  unfold Best
  rw [if_neg h]
  exact ⟨rfl, rfl, fun _ _ => rfl⟩
theorem weigh_ok {d : Nat} {v : CN} (hd : d ≤ 3) (hl : (c 0 8).toInt ≤ (v 0 3).toInt) (h : Hold (atL (4 + 5 * d) φC) c v) : ∃ v' : CN, fX2_weigh d (v, w) = some ((), (v', w)) ∧ FrD d v v' ∧ Best d 0 v v' (c 0 8, c 0 9, []) := by
  have h8 : v (4 + 5 * d) 8 = c 0 8 := h (4 + 5 * d) 8 0 8 (atL_at 0 8)
  have h9 : v (4 + 5 * d) 9 = c 0 9 := h (4 + 5 * d) 9 0 9 (atL_at 0 9)
  have a3 : acOK (0 : Int32) (0 : Int32) (3 : Int32) 3 3 := acok 3 3 3 (by decide) (by decide) (by decide)
  have key : ∃ v' : CN, fX2_weigh_22 d (v, w) = some ((), (v', w)) ∧ FrD d v v' ∧ v' 0 3 = c 0 8 ∧ v' 0 4 = c 0 9 ∧ ∀ j : Nat, j < 3 → v' 3 j = v 2 j := by
    unfold fX2_weigh_22
    rw [if_pos a3]
    refine ⟨updA (upd2 (upd2 v 0 3 (c 0 8)) 0 4 (c 0 9)) 3 (va_cpy (v 2) (v 3) 0 0 3), ?_, ⟨fun p h0 h2 h3 _ => by rw [updA_ne h3, upd2_ne h0, upd2_ne h0], fun j _ => by rw [updA_ne (by decide), upd2_ne (by decide), upd2_ne (by decide)]⟩, ?_, ?_, fun j hj => ?_⟩
    · have e9 : (wrI (v, w) 0 3 (c 0 8)).1 (4 + 5 * d) 9 = c 0 9 := by
        show upd2 v 0 3 (c 0 8) (4 + 5 * d) 9 = c 0 9
        rw [upd2_ne (by omega), h9]
      simp only [h8, e9]
      rfl
    · rw [updA_ne (by decide), upd2_same, if_neg (by decide), upd2_same, if_pos rfl]
    · rw [updA_ne (by decide), upd2_same, if_pos rfl]
    · rw [updA_same, cpy0]
      dsimp only
      rw [if_pos hj]
  obtain ⟨v', k1, k2, k3, k4, k5⟩ := key
  have hit : btr (c 0 8, c 0 9, []) (v 0 3, v 0 4, []) → Best d 0 v v' (c 0 8, c 0 9, []) := fun hb => by
    unfold Best
    rw [if_pos hb]
    exact ⟨k3, k4, fun j hj => k5 j (by omega), fun j hj => by omega⟩
  unfold fX2_weigh fX2_weigh_0
  rw [if_pos (show d < 4 by omega)]
  simp only [h8, h9]
  by_cases z : c 0 8 < v 0 3
  · rw [if_pos z]
    exact ⟨v', k1, k2, hit (Or.inl (Int32.lt_iff_toInt_lt.mp z))⟩
  · rw [if_neg z]
    have z' : ¬ (c 0 8).toInt < (v 0 3).toInt := fun y => z (Int32.lt_iff_toInt_lt.mpr y)
    by_cases y : c 0 9 ≤ v 0 4
    · rw [if_pos y]
      have y' := Int32.le_iff_toInt_le.mp y
      refine ⟨v, rfl, FrD.rf, Best.same (fun q => ?_)⟩
      rcases q with q | q
      · exact z' q
      · have := q.2; dsimp only at this; omega
    · rw [if_neg y]
      have y' : (v 0 4).toInt < (c 0 9).toInt := Int.not_le.mp (fun q => y (Int32.le_iff_toInt_le.mpr q))
      exact ⟨v', k1, k2, hit (Or.inr ⟨by dsimp only; omega, y'⟩)⟩
/-- behind some acts, one more -/
theorem Best.step {d r : Nat} {v v1 v2 : CN} {y x : PV} {a : Nat} (hd : d < 3) (hr : d + (r + 1) ≤ 3) (h1 : Best d (r + 1) v v1 y) (f1 : ∀ j : Nat, j < d → v1 2 j = v 2 j) (t1 : v1 2 d = i32 a) (h2 : Best (d + 1) r v1 v2 x) : Best d (r + 1) v v2 (imp y (x.1, x.2.1, a :: x.2.2)) := by
  unfold Best at h1 h2 ⊢
  by_cases b2 : btr x (v1 0 3, v1 0 4, [])
  · rw [if_pos b2] at h2
    obtain ⟨q1, q2, q3, q4⟩ := h2
    have rows : (∀ j : Nat, j < d → v2 3 j = v 2 j) ∧ ∀ j : Nat, j < r + 1 → v2 3 (d + j) = i32 ((a :: x.2.2).getD j 0) := by
      refine ⟨fun j hj => (q3 j (by omega)).trans (f1 j hj), fun j hj => ?_⟩
      cases j with
      | zero => exact (q3 d (Nat.lt_succ_self d)).trans t1
      | succ j =>
        have := q4 j (by omega)
        rw [show d + (j + 1) = d + 1 + j by omega, this]
        rfl
    by_cases b1 : btr y (v 0 3, v 0 4, [])
    · rw [if_pos b1] at h1
      have e : btr (x.1, x.2.1, a :: x.2.2) y := by
        unfold btr at b2 ⊢
        rw [h1.1, h1.2.1] at b2
        exact b2
      rw [imp_t e, if_pos ?_]
      · exact ⟨q1, q2, rows.1, rows.2⟩
      · unfold btr at *
        dsimp only at *
        omega
    · rw [if_neg b1] at h1
      have b0 : btr (x.1, x.2.1, a :: x.2.2) (v 0 3, v 0 4, []) := by
        unfold btr at b2 ⊢
        rw [h1.1, h1.2.1] at b2
        exact b2
      have e : btr (x.1, x.2.1, a :: x.2.2) y := by
        unfold btr at *
        dsimp only at *
        omega
      rw [imp_t e, if_pos b0]
      exact ⟨q1, q2, rows.1, rows.2⟩
  · rw [if_neg b2] at h2
    obtain ⟨q1, q2, q3⟩ := h2
    by_cases b1 : btr y (v 0 3, v 0 4, [])
    · rw [if_pos b1] at h1
      have e : ¬ btr (x.1, x.2.1, a :: x.2.2) y := by
        unfold btr at b2 ⊢
        rw [h1.1, h1.2.1] at b2
        exact b2
      rw [imp_f e, if_pos b1]
      exact ⟨q1.trans h1.1, q2.trans h1.2.1, fun j hj => (q3 j (by omega)).trans (h1.2.2.1 j hj), fun j hj => (q3 (d + j) (by omega)).trans (h1.2.2.2 j hj)⟩
    · rw [if_neg b1] at h1
      have b0 : ¬ btr (x.1, x.2.1, a :: x.2.2) (v 0 3, v 0 4, []) := by
        unfold btr at b2 ⊢
        rw [h1.1, h1.2.1] at b2
        exact b2
      have e : ¬ btr (imp y (x.1, x.2.1, a :: x.2.2)) (v 0 3, v 0 4, []) := by
        by_cases b3 : btr (x.1, x.2.1, a :: x.2.2) y
        · rw [imp_t b3]; exact b0
        · rw [imp_f b3]; exact b1
      rw [if_neg e]
      exact ⟨q1.trans h1.1, q2.trans h1.2.1, fun j hj => (q3 j hj).trans (h1.2.2 j hj)⟩
/-- the first act's -/
theorem Best.first {d r : Nat} {v v1 v2 : CN} {x : PV} {a : Nat} (hr : d + (r + 1) ≤ 3) (e3 : v1 0 3 = v 0 3) (e4 : v1 0 4 = v 0 4) (e33 : v1 3 = v 3) (f1 : ∀ j : Nat, j < d → v1 2 j = v 2 j) (t1 : v1 2 d = i32 a) (h2 : Best (d + 1) r v1 v2 x) : Best d (r + 1) v v2 (x.1, x.2.1, a :: x.2.2) := by
  unfold Best at h2 ⊢
  rw [e3, e4] at h2
  by_cases b2 : btr x (v 0 3, v 0 4, [])
  · rw [if_pos b2] at h2
    rw [if_pos (show btr (x.1, x.2.1, a :: x.2.2) (v 0 3, v 0 4, []) from b2)]
    obtain ⟨q1, q2, q3, q4⟩ := h2
    refine ⟨q1, q2, fun j hj => (q3 j (by omega)).trans (f1 j hj), fun j hj => ?_⟩
    cases j with
    | zero => exact (q3 d (Nat.lt_succ_self d)).trans t1
    | succ j =>
      have := q4 j (by omega)
      rw [show d + (j + 1) = d + 1 + j by omega, this]
      rfl
  · rw [if_neg b2] at h2
    rw [if_neg (show ¬ btr (x.1, x.2.1, a :: x.2.2) (v 0 3, v 0 4, []) from b2)]
    rw [e33] at h2
    exact h2
theorem lvl_off {d p j : Nat} (h : p < 4 + 5 * d ∨ 4 + 5 * d + 5 ≤ p) : atL (4 + 5 * d) φC p j = none := atL_off φC_5 p j h
theorem lvl_p {d p : Nat} {c v : CN} (h : p < 4 + 5 * d ∨ 4 + 5 * d + 5 ≤ p) : put (atL (4 + 5 * d) φC) c v p = v p := by
  funext j
  exact put_off (lvl_off h)
theorem Hold.of_p {d : Nat} {v v' : CN} (h : Hold (atL (4 + 5 * d) φC) c v) (e : ∀ p : Nat, 4 + 5 * d ≤ p → p < 4 + 5 * d + 5 → v' p = v p) : Hold (atL (4 + 5 * d) φC) c v' := fun k j a b q => by
  have hk : ¬ (k < 4 + 5 * d ∨ 4 + 5 * d + 5 ≤ k) := fun z => by rw [lvl_off z] at q; cases q
  rw [e k (by omega) (by omega)]
  exact h k j a b q
/-- what a call from a level does -/
def DeepOK (self : Int32 → Int32 → SS → Option (Unit × SS)) (N M d r k : Nat) : Prop := ∀ (v : CN) (w : Nat → Nat → Int64) (c : CN) (t : Nat) (L : Int), OK c N t M L → L + 1000 * r ≤ 1999000000 → Hold (atL (4 + 5 * d) φC) c v → ∃ v' : CN, self (i32 d) (i32 k) (v, w) = some ((), (v', w)) ∧ FrD d v v' ∧ Best d r v v' (PL N M r t c)
theorem visit_ok {self : Int32 → Int32 → SS → Option (Unit × SS)} {rec_48 : Int32 → Int32 → Nat → Nat → Int32 → SS → Option (Unit × SS)} {d r k : Nat} {v : CN} (S : DeepOK self N M (d + 1) r k) (hd : d < 3) (hk : d + (r + 1) = k) (h : OK c N t M L) (hL : L + 1000 * ((r + 1 : Nat) : Int) ≤ 1999000000) (hc : canA M a) (hv : Hold (atL (4 + 5 * d) φC) c v) :
    ∃ v1 v2 : CN, fX2_deepen_72 self rec_48 (i32 d) (i32 k) d (d + 1) (i32 a) (v, w) = rec_48 (i32 d) (i32 k) d (d + 1) (i32 (a + 1)) (v2, w) ∧ FrD d v v2 ∧ (v1 0 3 = v 0 3 ∧ v1 0 4 = v 0 4 ∧ v1 3 = v 3 ∧ (∀ j : Nat, j < d → v1 2 j = v 2 j) ∧ v1 2 d = i32 a) ∧ Best (d + 1) r v1 v2 (PL N M r (newT N t a) (mPass N t M a c)) := by
  have hdis : 4 + 5 * (d + 1) + 5 ≤ 4 + 5 * d ∨ 4 + 5 * d + 5 ≤ 4 + 5 * (d + 1) := Or.inr (by omega)
  have hv1 : Hold (atL (4 + 5 * d) φC) c (upd2 v 2 d (i32 a)) := hv.of_p (fun p h1 _ => by rw [upd2_ne (by omega)])
  have p1 := okM_take (A := 4 + 5 * (d + 1)) (w := w) (Or.inr (by omega)) hv1
  have p2 := sel_at (A := 4 + 5 * (d + 1)) (w := w) (Hold_put (φ := atL (4 + 5 * (d + 1)) φC) (c := c) (u := upd2 v 2 d (i32 a)))
  have p3 := okC_pass (u := fun k => put (atL (4 + 5 * (d + 1)) φC) c (upd2 v 2 d (i32 a)) (4 + 5 * (d + 1) + k)) (w := fun k => w (4 + 5 * (d + 1) + k)) h.1 h.2.1.Nn h.eat hc
  have hq := Hold_put (φ := atL (4 + 5 * (d + 1)) φC) (c := mPass N t M a c) (u := upd2 v 2 d (i32 a))
  obtain ⟨v2, s1, s2, s3⟩ := S (put (atL (4 + 5 * (d + 1)) φC) (mPass N t M a c) (upd2 v 2 d (i32 a))) w (mPass N t M a c) (newT N t a) (L + 1000) (h.pass (by omega) hc) (by omega) hq
  refine ⟨put (atL (4 + 5 * (d + 1)) φC) (mPass N t M a c) (upd2 v 2 d (i32 a)), v2, ?_, ?_, ?_, s3⟩
  · unfold fX2_deepen_72
    have ew : wrI (v, w) 2 d (i32 a) = (upd2 v 2 d (i32 a), w) := rfl
    rw [if_pos (gix hd (by decide)), if_pos (show d + 1 ≠ d by omega), gnat (by omega), ew, p1, obind]
    dsimp only
    rw [mrg_take (Or.inr (by omega)), p2, p3, obind]
    dsimp only
    rw [mrg_C, put_put, i32_succ, s1, obind, i32_succ]
  · refine ⟨fun p h0 h2 h3 hp => ?_, fun j hj => ?_⟩
    · rw [s2.1 p h0 h2 h3 (by omega), lvl_p (by omega), upd2_ne h2]
    · rw [s2.2 j (by omega), lvl_p (by omega), upd2_same, if_neg (by omega)]
  · refine ⟨?_, ?_, ?_, fun j hj => ?_, ?_⟩
    · rw [lvl_p (by omega), upd2_ne (by decide)]
    · rw [lvl_p (by omega), upd2_ne (by decide)]
    · rw [lvl_p (by omega), upd2_ne (by decide)]
    · rw [lvl_p (by omega), upd2_same, if_neg (by omega)]
    · rw [lvl_p (by omega), upd2_same, if_pos rfl]
theorem cnd_idle {r : Nat} (hi : idl c M t a) (h : OK c N t M L) (hc : canA M a) : (cnd N M r t c a).1 = (cnd N M r t c 0).1 ∧ (cnd N M r t c a).2.1 = (cnd N M r t c 0).2.1 := by
  have h1 := mPass_idle (N := N) hi hc h.eat
  have e0 : newT N t 0 = t := by unfold newT; rw [if_neg (by decide), if_neg (by decide)]
  unfold cnd
  rw [h1.1, h1.2, e0]
  exact ⟨rfl, rfl⟩
theorem loop48_ok {self : Int32 → Int32 → SS → Option (Unit × SS)} {d r k : Nat} {v0 : CN} (S : DeepOK self N M (d + 1) r k) (hd : d < 3) (hk : d + (r + 1) = k) (hk3 : k ≤ 3) (h : OK c N t M L) (hL : L + 1000 * ((r + 1 : Nat) : Int) ≤ 1999000000) : ∀ (m a f : Nat) (v : CN) (y : PV), a + m = 7 → 1 ≤ a → m < f → Hold (atL (4 + 5 * d) φC) c v → FrD d v0 v → Best d (r + 1) v0 v y → ¬ btr (cnd N M r t c 0) y → ∃ v' : CN, fX2_deepen_48 self f (i32 d) (i32 k) d (d + 1) (i32 a) (v, w) = some ((), (v', w)) ∧ FrD d v0 v' ∧ Best d (r + 1) v0 v' (plF (cnd N M r t c) M m a y)
  | m, a, 0, v, y => fun _ _ h => absurd h (Nat.not_lt_zero _)
  | 0, a, f + 1, v, y => fun ha _ _ hv hf hb _ => by
    have : a = 7 := by omega
    subst this
    unfold fX2_deepen_48
    rw [if_pos (show (6 : Int32) < i32 7 by decide)]
    exact ⟨v, rfl, hf, hb⟩
  | m + 1, a, f + 1, v, y => fun ha h1 hm hv hf hb hy => by
    have hM := h.1.m3
    have n6 : ¬ (6 : Int32) < i32 a := fun z => absurd ((l_lt (n := 6) (by unfold B31; omega) (by decide)).mp z) (by omega)
    have n0 : ¬ i32 a = 0 := ne_l (n := 0) (by unfold B31; omega) (by decide) (by omega)
    have e1 := sel_at (w := w) hv
    have e2 := okC_isIdle (u := fun k => v (4 + 5 * d + k)) (w := fun k => w (4 + 5 * d + k)) h.1 (show a ≤ 6 by omega)
    unfold fX2_deepen_48
    rw [if_neg n6, if_neg n0, e1, e2, obind]
    dsimp only
    rw [mrg_C, hv.eq]
    unfold plF
    by_cases hi : idl c M t a
    · rw [if_pos hi, if_neg (by decide), i32_succ]
      by_cases hcb : canB M a
      · have hc := canA_of (show a ≤ 6 by omega) hcb
        have hq := cnd_idle (r := r) hi h hc
        have : ¬ btr (cnd N M r t c a) y := by
          unfold btr at hy ⊢
          rw [hq.1, hq.2]
          exact hy
        rw [if_pos hcb, imp_f this]
        exact loop48_ok S hd hk hk3 h hL m (a + 1) f v y (by omega) (by omega) (by omega) hv hf hb hy
      · rw [if_neg hcb]
        exact loop48_ok S hd hk hk3 h hL m (a + 1) f v y (by omega) (by omega) (by omega) hv hf hb hy
    · rw [if_neg hi, if_pos rfl]
      have hcb : canB M a := by
        by_cases q : a < 4
        · refine Or.inl (Nat.not_lt.mp (fun z => hi (Or.inr (Or.inl ⟨h1, q, Or.inl z⟩))))
        · exact Or.inr (by omega)
      have hc := canA_of (show a ≤ 6 by omega) hcb
      obtain ⟨v1, v2, q1, q2, q3, q4⟩ := visit_ok (rec_48 := fX2_deepen_48 self f) (w := w) S hd hk h hL hc hv
      rw [if_pos hcb, q1]
      have hb2 : Best d (r + 1) v0 v2 (imp y (cnd N M r t c a)) := by
        refine Best.step (v1 := v1) hd (by omega) ?_ (fun j hj => (q3.2.2.2.1 j hj).trans (hf.2 j hj)) q3.2.2.2.2 q4
        unfold Best at hb ⊢
        rw [q3.1, q3.2.1, q3.2.2.1]
        exact hb
      refine loop48_ok S hd hk hk3 h hL m (a + 1) f v2 _ (by omega) (by omega) (by omega) (hv.of_p (fun p p1 p2 => q2.1 p (by omega) (by omega) (by omega) (by omega))) (hf.tr q2) hb2 ?_
      by_cases b : btr (cnd N M r t c a) y
      · rw [imp_t b]
        unfold btr at *
        omega
      · rw [imp_f b]; exact hy
theorem deep_ok : ∀ (r n d k : Nat), d + r = k → k ≤ 3 → r < n → DeepOK (fX2_deepen_r n) N M d r k
  | r, 0, d, k => fun _ _ h => absurd h (Nat.not_lt_zero _)
  | r, n + 1, d, k => fun hdk hk hn => by
    intro v w c t L h hL hv
    have h8 : v (4 + 5 * d) 8 = c 0 8 := hv (4 + 5 * d) 8 0 8 (atL_at 0 8)
    have hmono := (PL_B r t c L h hL).1
    show ∃ v' : CN, fX2_deepen_0 (fX2_deepen_r n) (i32 d) (i32 k) (v, w) = some ((), (v', w)) ∧ _
    unfold fX2_deepen_0
    rw [if_pos (gix (show d < 4 by omega) (by decide)), gnat (show d ≤ 1000 by omega)]
    simp only [h8]
    by_cases hg : c 0 8 ≤ v 0 3
    · rw [if_pos hg]
      have hg' := Int32.le_iff_toInt_le.mp hg
      cases r with
      | zero =>
        have : d = k := by omega
        subst this
        rw [if_pos (Int32.le_refl _)]
        obtain ⟨v', q1, q2, q3⟩ := weigh_ok (w := w) (show d ≤ 3 by omega) hg' hv
        refine ⟨v', ?_, q2, q3⟩
        unfold fX2_deepen_29
        rw [q1, obind]
      | succ r =>
        have hd3 : d < 3 := by omega
        rw [if_neg (fun z => absurd ((gle (a := k) (b := d) (by omega) (by omega)).mp z) (by omega)), if_pos ((lt_l (n := 3) (by unfold B31; omega) (by decide)).mpr hd3), i32_succ, if_pos (gix (show d + 1 < 4 by omega) (by decide)), gnat (show d + 1 ≤ 1000 by omega)]
        have S := deep_ok r n (d + 1) k (by omega) hk (by omega)
        obtain ⟨v1, v2, q1, q2, q3, q4⟩ := visit_ok (rec_48 := fX2_deepen_48 (fX2_deepen_r n) 999) (w := w) (a := 0) S hd3 (by omega) h hL canA_0 hv
        have hb := Best.first (by omega) q3.1 q3.2.1 q3.2.2.1 q3.2.2.2.1 q3.2.2.2.2 q4
        obtain ⟨v3, p1, p2, p3⟩ := loop48_ok (w := w) (v0 := v) S hd3 (by omega) hk h hL 6 1 999 v2 (cnd N M r t c 0) (by decide) (by decide) (by decide) (hv.of_p (fun p p1 p2 => q2.1 p (by omega) (by omega) (by omega) (by omega))) q2 hb (by unfold btr; omega)
        refine ⟨v3, ?_, p2, p3⟩
        rw [show FU = 999 + 1 from rfl]
        unfold fX2_deepen_48
        rw [if_neg (show ¬ (6 : Int32) < 0 by decide), if_pos (show (0 : Int32) = 0 from rfl)]
        exact q1.trans p1
    · rw [if_neg hg]
      have hg' : (v 0 3).toInt < (c 0 8).toInt := Int.not_le.mp (fun z => hg (Int32.le_iff_toInt_le.mpr z))
      refine ⟨v, rfl, FrD.rf, Best.same ?_⟩
      unfold btr
      dsimp only
      omega
end DEEP
