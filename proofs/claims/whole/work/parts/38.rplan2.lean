/-! PURE MATHEMATICS, 20: the reference's search comes to the best plan. -/
theorem φR_33 {k j : Nat} (h : 33 ≤ k) : φR k j = none := by
  unfold φR φR1
  rw [if_neg (by omega)]
  repeat rw [if_neg (by omega)]
theorem Hold_prS {c : CN} {s1 s2 : SS} (h : Hold φR c s1.1) : Hold φR c (prS s1 s2).1 := fun k j a b e => by
  have hk : k < 33 := Nat.not_le.mp (fun z => by rw [φR_33 z] at e; cases e)
  unfold prS
  dsimp only
  rw [if_pos hk]
  exact h k j a b e
theorem UF_le {k : Nat} {p : List Nat} (h : (k + 1) :: p ∈ UF) : k + 1 ≤ 9 := by
  have : ∀ q ∈ UF, q.headD 0 ≤ 9 := by decide
  exact this _ h
section RPLAN
variable {c : CN} {N τ M a : Nat} {L : Int} {p : List Nat}
theorem goes_hold {y : Int32} {X : SS} (hX : Hold φR c X.1) (h : OK c N τ M L) (hc : canA M a) (hD : ∃ D : Nat, D ≤ 20 ∧ c 5 5 = i32 D) : fX6_goes (i32 a) y X = some ((), (put φR (dropS y (c 0 8) (mPass N τ M a c)) X.1, X.2)) := by
  have := okR_goes (u := X.1) (w := X.2) (y := y) h.1 hc h.2.1 hD
  rw [← hX.mk] at this
  exact this
/-- the reference looks at one act -/
theorem visitR {self : List Nat → Int32 → TF → Option (Unit × TF)} {k : Nat} {G : Unit × TF → Option (Unit × TF)} (S : PlanOK self N M k ((k + 1) :: p)) (hk : k < 3) {t : TF} (ht : Hold φR c (t.2 p).1) (h : OK c N τ M L) (hL : L + 1000 * ((k + 1 : Nat) : Int) ≤ 1999000000) (hD : ∃ D : Nat, D ≤ 20 ∧ c 5 5 = i32 D) (hc : canA M a) :
    ∃ t3 : TF, ((fX6_takeFrom (prS (t.2 ((i32 (k + 1)).toNatClampNeg :: p)) (t.2 p))).bind fun z4 => ((fX6_goes (i32 a) (0 : Int32) ((wrT (wrT t ((i32 (k + 1)).toNatClampNeg :: p) z4.2) p (snS z4.2)).2 ((i32 (k + 1)).toNatClampNeg :: p))).bind fun z5 => ((self ((i32 (k + 1)).toNatClampNeg :: p) (i32 (k + 1) - (1 : Int32)) (wrT (wrT (wrT t ((i32 (k + 1)).toNatClampNeg :: p) z4.2) p (snS z4.2)) ((i32 (k + 1)).toNatClampNeg :: p) z5.2)).bind G))) = G ((), t3) ∧ FrP p t t3 ∧ t3.2 p = t.2 p ∧ Fnd t3 ((k + 1) :: p) k (PL N M k (newT N τ a) (mPass N τ M a c)) := by
  have ne : (k + 1) :: p ≠ p := cons_ne
  have e5 : mPass N τ M a c 5 5 = c 5 5 := by rw [mPass_p (Nat.le_refl 5)]
  have hX : Hold φR c (prS (put φR c (t.2 ((k + 1) :: p)).1, (t.2 ((k + 1) :: p)).2) (t.2 p)).1 := Hold_prS Hold_put
  have g := goes_hold (y := 0) hX h hc hD
  obtain ⟨t3, q1, q2, q3⟩ := S (wrT (wrT (wrT t ((k + 1) :: p) (prS (put φR c (t.2 ((k + 1) :: p)).1, (t.2 ((k + 1) :: p)).2) (t.2 p))) p (t.2 p)) ((k + 1) :: p) (put φR (mPass N τ M a c) (prS (put φR c (t.2 ((k + 1) :: p)).1, (t.2 ((k + 1) :: p)).2) (t.2 p)).1, (prS (put φR c (t.2 ((k + 1) :: p)).1, (t.2 ((k + 1) :: p)).2) (t.2 p)).2)) (mPass N τ M a c) (newT N τ a) (L + 1000) (by rw [wrT_same]; exact Hold_put) (h.pass (by omega) hc) (by omega) (by rw [e5]; exact hD)
  have rp : t3.2 p = t.2 p := by
    have := (q2.2.1 p (fun z => absurd (bel_ne z) (by rw [List.length_cons]; omega))).2 ne.symm
    rw [this, wrT_ne ne.symm, wrT_same]
  refine ⟨t3, ?_, ⟨fun q hq => q2.1 q hq, fun q hq => ?_, by rw [rp], fun _ _ _ _ => by rw [rp]⟩, rp, q3⟩
  · rw [gnat (show k + 1 ≤ 1000 by omega), okR_take ht, obind]
    dsimp only
    rw [snS_pr, wrT_ne ne, wrT_same, g, obind]
    dsimp only
    rw [i32_pred]
    unfold dropS
    rw [if_pos rfl, q1, obind]
  · have hq' : ¬ bel ((k + 1) :: p) q := fun z => hq (bel_tr (by omega) z)
    have hqk : q ≠ (k + 1) :: p := fun z => hq (by rw [z]; exact bel_one (by omega))
    have := q2.2.1 q hq'
    refine ⟨this.1, fun y => ?_⟩
    rw [this.2 hqk, wrT_ne hqk, wrT_ne y, wrT_ne hqk]
theorem Fnd.frame {t t3 : TF} {k : Nat} {x : PV} (h : Fnd t p k x) (e : t3.2 p = t.2 p) : Fnd t3 p k x := by
  unfold Fnd at h ⊢
  rw [e]; exact h
/-- no act is before the first -/
theorem i32_ne1 {n : Nat} (h : n ≤ 1000) : ¬ i32 n = (-1 : Int32) := fun z => by
  have := congrArg Int32.toInt z
  rw [i32_toInt (by unfold B31; omega), show (-1 : Int32).toInt = -1 from rfl] at this
  omega
theorem loop57 {self : List Nat → Int32 → TF → Option (Unit × TF)} {k : Nat} (S : PlanOK self N M k ((k + 1) :: p)) (hk : k < 3) (h : OK c N τ M L) (hL : L + 1000 * ((k + 1 : Nat) : Int) ≤ 1999000000) (hD : ∃ D : Nat, D ≤ 20 ∧ c 5 5 = i32 D) : ∀ (m a f : Nat) (t : TF) (y : PV), a + m = 7 → m < f → Hold φR c (t.2 p).1 → Fnd t p (k + 1) y → y.2.2.getD 0 0 ≤ 6 → ∃ t' : TF, fX6_findPlan_57 p self f (i32 (k + 1)) (i32 a) t = some ((), t') ∧ FrP p t t' ∧ Fnd t' p (k + 1) (plF (cnd N M k τ c) M m a y)
  | m, a, 0, t, y => fun _ h => absurd h (Nat.not_lt_zero _)
  | 0, a, f + 1, t, y => fun ha _ _ hy _ => by
    have : a = 7 := by omega
    subst this
    unfold fX6_findPlan_57
    rw [if_pos (show (6 : Int32) < i32 7 by decide)]
    exact ⟨t, rfl, FrP.rf, hy⟩
  | m + 1, a, f + 1, t, y => fun ha hf ht hy hy6 => by
    have hM := h.1.m3
    have e10 : (t.2 p).1 0 10 = i32 M := (ht 0 10 0 11 rfl).trans h.1.2.2.1
    unfold fX6_findPlan_57
    rw [if_neg (fun z => absurd ((l_lt (n := 6) (by unfold B31; omega) (by decide)).mp z) (by omega)), okR_canAct h.1 e10 (show a ≤ 6 by omega), obind]
    dsimp only
    rw [wrT_id]
    unfold plF
    by_cases hb : canB M a
    · have hc := canA_of (show a ≤ 6 by omega) hb
      obtain ⟨t3, q1, q2, q3, q4⟩ := visitR (a := a) (G := fun z6 => if ((z6.2.2 p).1 0 38) = (-1 : Int32) then (fX6_findPlan_109 p self (fX6_findPlan_57 p self f) (i32 (k + 1)) (i32 a) z6.2) else (if ((z6.2.2 p).1 0 39) ≤ ((z6.2.2 ((i32 (k + 1)).toNatClampNeg :: p)).1 0 39) then (fX6_findPlan_114 p self (fX6_findPlan_57 p self f) (i32 (k + 1)) (i32 a) (0 : Int32) z6.2) else (fX6_findPlan_109 p self (fX6_findPlan_57 p self f) (i32 (k + 1)) (i32 a) z6.2))) S hk ht h hL hD hc
      rw [if_pos hb, if_neg (show ¬ (1 : Int32) = 0 by decide), if_pos hb, q1]
      dsimp only
      have hy3 := hy.frame q3
      rw [gnat (show k + 1 ≤ 1000 by omega), hy3.2.2.1 (by omega), if_neg (i32_ne1 (by omega)), hy3.1, q4.1]
      have over : ∃ t' : TF, fX6_findPlan_143 p self (fX6_findPlan_57 p self f) (i32 (k + 1)) (i32 a) t3 = some ((), t') ∧ FrP p t t' ∧ Fnd t' p (k + 1) (plF (cnd N M k τ c) M m (a + 1) (cnd N M k τ c a)) := by
        obtain ⟨t4, r1, r2, r3⟩ := takeover (self := self) (rec_57 := fX6_findPlan_57 p self f) hk (show a ≤ 6 by omega) q4
        obtain ⟨t5, s1, s2, s3⟩ := loop57 S hk h hL hD m (a + 1) f t4 (cnd N M k τ c a) (by omega) (by omega) (r2.hold (q2.hold ht)) r3 (show a ≤ 6 by omega)
        exact ⟨t5, r1.trans s1, (q2.tr r2).tr s2, s3⟩
      have stay : ∃ t' : TF, fX6_findPlan_57 p self f (i32 (k + 1)) (i32 a + 1) t3 = some ((), t') ∧ FrP p t t' ∧ Fnd t' p (k + 1) (plF (cnd N M k τ c) M m (a + 1) y) := by
        rw [i32_succ]
        obtain ⟨t5, s1, s2, s3⟩ := loop57 S hk h hL hD m (a + 1) f t3 y (by omega) (by omega) (q2.hold ht) hy3 hy6
        exact ⟨t5, s1, q2.tr s2, s3⟩
      unfold fX6_findPlan_109 fX6_findPlan_114
      rw [gnat (show k + 1 ≤ 1000 by omega), hy3.1, hy3.2.1, q4.1, q4.2.1, if_neg (show ¬ (1 : Int32) = 0 by decide), if_pos (show (0 : Int32) = 0 from rfl)]
      have hbt : btr (cnd N M k τ c a) y ↔ ((PL N M k (newT N τ a) (mPass N τ M a c)).1 < y.1 ∨ ((PL N M k (newT N τ a) (mPass N τ M a c)).1 = y.1 ∧ y.2.1 < (PL N M k (newT N τ a) (mPass N τ M a c)).2.1)) := btr_iff
      by_cases z : y.1 ≤ (PL N M k (newT N τ a) (mPass N τ M a c)).1
      · rw [if_pos z]
        by_cases v : (PL N M k (newT N τ a) (mPass N τ M a c)).1 = y.1
        · rw [if_pos v]
          by_cases r : (PL N M k (newT N τ a) (mPass N τ M a c)).2.1 ≤ y.2.1
          · rw [if_pos r, imp_f (fun q => ?_)]
            · exact stay
            · rcases hbt.mp q with q | q
              · exact absurd z (Int32.not_le.mpr q)
              · exact absurd r (Int32.not_le.mpr q.2)
          · rw [if_neg r, imp_t (hbt.mpr (Or.inr ⟨v, Int32.not_le.mp r⟩))]
            exact over
        · rw [if_neg v, imp_f (fun q => ?_)]
          · exact stay
          · rcases hbt.mp q with q | q
            · exact absurd z (Int32.not_le.mpr q)
            · exact v q.1
      · rw [if_neg z, imp_t (hbt.mpr (Or.inl (Int32.not_le.mp z)))]
        exact over
    · rw [if_neg hb, if_pos rfl, if_neg hb, i32_succ]
      exact loop57 S hk h hL hD m (a + 1) f t y (by omega) (by omega) ht hy hy6
theorem planR_ok : ∀ (k n : Nat) (p : List Nat), k < n → k ≤ 3 → okP k p → PlanOK (fX6_findPlan_r n) N M k p
  | k, 0, p => fun h => absurd h (Nat.not_lt_zero _)
  | 0, n + 1, p => fun _ _ _ => by
    intro t c τ L ht h hL hD
    have e19 : (t.2 p).1 0 19 = c 0 8 := ht 0 19 0 8 rfl
    have e20 : (t.2 p).1 0 20 = c 0 9 := ht 0 20 0 9 rfl
    show ∃ t' : TF, fX6_findPlan_0 p (fX6_findPlan_r n) (i32 0) t = some ((), t') ∧ _
    unfold fX6_findPlan_0
    rw [if_pos (show i32 0 = 0 from rfl), rd_wr, if_neg (by omega), e19, e20]
    refine ⟨_, rfl, (FrP.wr (Or.inl ⟨rfl, by decide, by decide⟩)).tr (FrP.wr (Or.inl ⟨rfl, by decide, by decide⟩)), ?_, ?_, fun z => by omega, fun j hj => by omega⟩
    · rw [rd_wr, if_neg (by omega), rd_wr, if_pos ⟨rfl, rfl⟩]; rfl
    · rw [rd_wr, if_pos ⟨rfl, rfl⟩]; rfl
  | k + 1, n + 1, p => fun hn hk hp => by
    intro t c τ L ht h hL hD
    have hM := h.1.m3
    have S := planR_ok k n ((k + 1) :: p) (by omega) (by omega) hp.2
    have hx4 : ixB (i32 (k + 1)) 4 := gix (by omega) (by decide)
    -- behind the making of the one ahead
    have go : ∀ t : TF, Hold φR c (t.2 p).1 → t.1 ((k + 1) :: p) = true → ∃ t' : TF, fX6_findPlan_43 p (fX6_findPlan_r n) (i32 (k + 1)) t = some ((), t') ∧ FrP p t t' ∧ Fnd t' p (k + 1) (PL N M (k + 1) τ c) := by
      intro t ht hf
      unfold fX6_findPlan_43
      rw [if_pos hx4, gnat (show k + 1 ≤ 1000 by omega), if_pos hf]
      have fr1 : FrP p t (wTI t p 0 38 (-1 : Int32)) := FrP.wr (Or.inl ⟨rfl, by decide, by decide⟩)
      have ht1 := fr1.hold ht
      have e10 : ((wTI t p 0 38 (-1 : Int32)).2 p).1 0 10 = i32 M := (ht1 0 10 0 11 rfl).trans h.1.2.2.1
      obtain ⟨t3, q1, q2, q3, q4⟩ := visitR (a := 0) (G := fun z6 => if ((z6.2.2 p).1 0 38) = (-1 : Int32) then (fX6_findPlan_109 p (fX6_findPlan_r n) (fX6_findPlan_57 p (fX6_findPlan_r n) 999) (i32 (k + 1)) (i32 0) z6.2) else (if ((z6.2.2 p).1 0 39) ≤ ((z6.2.2 ((i32 (k + 1)).toNatClampNeg :: p)).1 0 39) then (fX6_findPlan_114 p (fX6_findPlan_r n) (fX6_findPlan_57 p (fX6_findPlan_r n) 999) (i32 (k + 1)) (i32 0) (0 : Int32) z6.2) else (fX6_findPlan_109 p (fX6_findPlan_r n) (fX6_findPlan_57 p (fX6_findPlan_r n) 999) (i32 (k + 1)) (i32 0) z6.2))) S (by omega) ht1 h hL hD canA_0
      obtain ⟨t4, r1, r2, r3⟩ := takeover (self := fX6_findPlan_r n) (rec_57 := fX6_findPlan_57 p (fX6_findPlan_r n) 999) (by omega) (show 0 ≤ 6 by decide) q4
      obtain ⟨t5, s1, s2, s3⟩ := loop57 S (by omega) h hL hD 6 1 999 t4 (cnd N M k τ c 0) (by decide) (by decide) (r2.hold (q2.hold ht1)) r3 (Nat.zero_le 6)
      have e38 : (t3.2 p).1 0 38 = (-1 : Int32) := by rw [q3, rd_wr, if_pos ⟨rfl, rfl⟩]
      refine ⟨t5, ?_, ((fr1.tr q2).tr r2).tr s2, s3⟩
      rw [show FU = 999 + 1 from rfl, show (0 : Int32) = i32 0 from rfl]
      unfold fX6_findPlan_57
      rw [if_neg (by decide), okR_canAct h.1 e10 (show 0 ≤ 6 by decide), obind]
      dsimp only
      rw [wrT_id, if_pos (Or.inl (Nat.zero_le _)), if_neg (show ¬ (1 : Int32) = 0 by decide)]
      refine q1.trans ?_
      dsimp only
      rw [e38, if_pos rfl]
      unfold fX6_findPlan_109 fX6_findPlan_114
      rw [if_neg (by decide)]
      exact r1.trans s1
    show ∃ t' : TF, fX6_findPlan_0 p (fX6_findPlan_r n) (i32 (k + 1)) t = some ((), t') ∧ _
    unfold fX6_findPlan_0
    rw [if_neg (ne_l (n := 0) (by unfold B31; omega) (by decide) (by omega)), if_pos hx4]
    simp only [gnat (show k + 1 ≤ 1000 by omega)]
    by_cases hf : t.1 ((k + 1) :: p) = true
    · rw [if_pos hf]
      exact go t ht hf
    · rw [if_neg hf, if_pos hp.1, if_pos hx4]
      have ne : (k + 1) :: p ≠ p := cons_ne
      have em : (mkT t ((k + 1) :: p) S0R).2 p = t.2 p := if_neg ne.symm
      obtain ⟨t', q1, q2, q3⟩ := go (mkT t ((k + 1) :: p) S0R) (by rw [em]; exact ht) mkT_at
      refine ⟨t', q1, FrP.tr ⟨fun q hq => mkT_le q hq, fun q hq => ?_, by rw [em], fun _ _ _ _ => by rw [em]⟩ q2, q3⟩
      have hqk : q ≠ (k + 1) :: p := fun z => hq (by rw [z]; exact bel_one (by omega))
      refine ⟨?_, fun _ => if_neg hqk⟩
      unfold mkT
      simp [hqk]
end RPLAN
