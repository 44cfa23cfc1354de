/-! PURE MATHEMATICS, 19: the reference's search for the plan. -/
theorem wrT_at {t : TF} {p : List Nat} {s : SS} : (wrT t p s).2 p = s := if_pos rfl
theorem wrT_id {t : TF} {p : List Nat} : wrT t p (t.2 p) = t := by
  unfold wrT
  refine Prod.ext rfl ?_
  funext q
  dsimp only
  by_cases h : q = p
  · rw [if_pos h, h]
  · rw [if_neg h]
theorem wrT_wrT {t : TF} {p : List Nat} {s s' : SS} : wrT (wrT t p s) p s' = wrT t p s' := by
  unfold wrT
  refine Prod.ext rfl ?_
  funext q
  dsimp only
  by_cases h : q = p
  · rw [if_pos h, if_pos h]
  · rw [if_neg h, if_neg h, if_neg h]
theorem snS_pr {s1 s2 : SS} : snS (prS s1 s2) = s2 := by
  unfold snS prS
  refine Prod.ext ?_ ?_
  · funext k
    dsimp only
    rw [if_neg (by omega), Nat.add_sub_cancel]
  · funext k
    dsimp only
    rw [if_neg (by omega), Nat.add_sub_cancel]
/-- the paths of plans in thought, behind p -/
def bel (p q : List Nat) : Prop := ∃ (l : List Nat) (x : Nat), q = l ++ x :: p ∧ x ≤ 3
theorem bel_ne {p q : List Nat} (h : bel p q) : p.length < q.length := by
  obtain ⟨l, x, e, _⟩ := h
  rw [e, List.length_append, List.length_cons]
  omega
theorem bel_self {p : List Nat} : ¬ bel p p := fun h => Nat.lt_irrefl _ (bel_ne h)
theorem bel_one {p : List Nat} {x : Nat} (h : x ≤ 3) : bel p (x :: p) := ⟨[], x, rfl, h⟩
theorem bel_tr {p q : List Nat} {x : Nat} (hx : x ≤ 3) (h : bel (x :: p) q) : bel p q := by
  obtain ⟨l, y, e, _⟩ := h
  exact ⟨l ++ [y], x, by rw [e, List.append_assoc]; rfl, hx⟩
def okP : Nat → List Nat → Prop
  | 0, _ => True
  | k + 1, p => (k + 1) :: p ∈ UF ∧ okP k ((k + 1) :: p)
/-- what a plan in thought at p leaves alone -/
def FrP (p : List Nat) (t t' : TF) : Prop := (∀ q : List Nat, t.1 q = true → t'.1 q = true) ∧ (∀ q : List Nat, ¬ bel p q → t'.1 q = t.1 q ∧ (q ≠ p → t'.2 q = t.2 q)) ∧ (t'.2 p).2 = (t.2 p).2 ∧ ∀ a b : Nat, ¬ (a = 0 ∧ 38 ≤ b ∧ b ≤ 40) → a ≠ 30 → (t'.2 p).1 a b = (t.2 p).1 a b
theorem FrP.rf {p : List Nat} {t : TF} : FrP p t t := ⟨fun _ h => h, fun _ _ => ⟨rfl, fun _ => rfl⟩, rfl, fun _ _ _ _ => rfl⟩
theorem FrP.tr {p : List Nat} {t1 t2 t3 : TF} (h : FrP p t1 t2) (k : FrP p t2 t3) : FrP p t1 t3 :=
  ⟨fun q z => k.1 q (h.1 q z), fun q z => ⟨(k.2.1 q z).1.trans (h.2.1 q z).1, fun y => ((k.2.1 q z).2 y).trans ((h.2.1 q z).2 y)⟩, k.2.2.1.trans h.2.2.1, fun a b h1 h2 => (k.2.2.2 a b h1 h2).trans (h.2.2.2 a b h1 h2)⟩
theorem φR_plan {a b : Nat} (h : (a = 0 ∧ 38 ≤ b ∧ b ≤ 40) ∨ a = 30) : φR a b = none := by
  cases e : φR a b with
  | none => rfl
  | some q =>
    exfalso
    rcases h with h | h
    · obtain ⟨h1, h2, h3⟩ := h
      subst h1
      unfold φR φR0 at e
      rw [if_pos rfl] at e
      repeat rw [if_neg (by omega)] at e
      cases e
    · subst h
      unfold φR φR1 at e
      rw [if_neg (by decide)] at e
      repeat rw [if_neg (by omega)] at e
      cases e
theorem FrP.hold {p : List Nat} {t t' : TF} {c : CN} (h : FrP p t t') (hc : Hold φR c (t.2 p).1) : Hold φR c (t'.2 p).1 := fun a b x y e => by
  rw [h.2.2.2 a b (fun z => by rw [φR_plan (Or.inl z)] at e; cases e) (fun z => by rw [φR_plan (Or.inr z)] at e; cases e)]
  exact hc a b x y e
theorem Hold.mk {c : CN} {s : SS} (h : Hold φR c s.1) : s = (put φR c s.1, s.2) := Prod.ext h.eq.symm rfl
/-- what the reference has found at p -/
def Fnd (t : TF) (p : List Nat) (k : Nat) (x : PV) : Prop := (t.2 p).1 0 39 = x.1 ∧ (t.2 p).1 0 40 = x.2.1 ∧ (1 ≤ k → (t.2 p).1 0 38 = i32 (x.2.2.getD 0 0)) ∧ ∀ j : Nat, j < k → (t.2 p).1 30 j = i32 (x.2.2.getD j 0)
def PlanOK (self : List Nat → Int32 → TF → Option (Unit × TF)) (N M k : Nat) (p : List Nat) : Prop := ∀ (t : TF) (c : CN) (τ : Nat) (L : Int), Hold φR c (t.2 p).1 → OK c N τ M L → L + 1000 * k ≤ 1999000000 → (∃ D : Nat, D ≤ 20 ∧ c 5 5 = i32 D) → ∃ t' : TF, self p (i32 k) t = some ((), t') ∧ FrP p t t' ∧ Fnd t' p k (PL N M k τ c)
section RPLAN
variable {c : CN} {N τ M a : Nat} {L : Int} {p : List Nat}
/-- a write into the plan's own cells -/
theorem FrP.wr {t : TF} {a b : Nat} {x : Int32} (h : (a = 0 ∧ 38 ≤ b ∧ b ≤ 40) ∨ a = 30) : FrP p t (wTI t p a b x) := by
  refine ⟨fun _ h => h, fun q _ => ⟨rfl, fun z => wrT_ne z⟩, ?_, fun i j h1 h2 => ?_⟩
  · rw [wrT_at]; rfl
  · rw [wrT_at]
    unfold wrI
    dsimp only
    by_cases z : i = a
    · subst z
      rw [upd2_same, if_neg]
      intro y
      subst y
      rcases h with h | h
      · exact h1 h
      · exact h2 h
    · rw [upd2_ne z]
theorem rd_wr {t : TF} {a b i j : Nat} {x : Int32} : ((wTI t p a b x).2 p).1 i j = if i = a ∧ j = b then x else (t.2 p).1 i j := by
  rw [wrT_at]
  unfold wrI
  dsimp only
  by_cases z : i = a
  · subst z
    rw [upd2_same]
    by_cases y : j = b
    · rw [if_pos y, if_pos ⟨rfl, y⟩]
    · rw [if_neg y, if_neg (fun q => y q.2)]
  · rw [upd2_ne z, if_neg (fun q => z q.1)]
theorem cons_ne {x : Nat} {p : List Nat} : x :: p ≠ p := fun h => by
  have := congrArg List.length h
  rw [List.length_cons] at this
  omega
/-- the copy of the row, from place i on -/
theorem rowcopy {self : List Nat → Int32 → TF → Option (Unit × TF)} {rec_57 : Int32 → Int32 → TF → Option (Unit × TF)} {k : Nat} (hk : k < 3) (x3 : Int32) : ∀ (m i f : Nat) (t : TF), i + m = k + 1 → 1 ≤ i → m < f → ∃ t' : TF, fX6_findPlan_174 p self rec_57 f (i32 (k + 1)) x3 (i32 i) t = rec_57 (i32 (k + 1)) (x3 + 1) t' ∧ FrP p t t' ∧ (∀ b : Nat, (t'.2 p).1 0 b = (t.2 p).1 0 b) ∧ ((t'.2 p).1 30 0 = (t.2 p).1 30 0) ∧ (∀ j : Nat, 1 ≤ j → j < i → (t'.2 p).1 30 j = (t.2 p).1 30 j) ∧ (∀ j : Nat, i ≤ j → j < k + 1 → (t'.2 p).1 30 j = (t.2 ((k + 1) :: p)).1 30 (j - 1)) ∧ t'.2 ((k + 1) :: p) = t.2 ((k + 1) :: p)
  | m, i, 0, t => fun _ _ h => absurd h (Nat.not_lt_zero _)
  | 0, i, f + 1, t => fun hi h1 _ => by
    have : i = k + 1 := by omega
    subst this
    unfold fX6_findPlan_174
    rw [if_pos (Int32.le_refl _)]
    exact ⟨t, rfl, FrP.rf, fun _ => rfl, rfl, fun _ _ _ => rfl, fun j h1 h2 => by omega, rfl⟩
  | m + 1, i, f + 1, t => fun hi h1 hf => by
    have hi3 : i < 3 := by omega
    have hi1 : i - 1 < 3 := by omega
    have e1 : i32 i - (1 : Int32) = i32 (i - 1) := i32_sub (b := 1) (by omega)
    obtain ⟨t', q1, q2, q3, q4, q5, q6, q7⟩ := rowcopy (self := self) (rec_57 := rec_57) hk x3 m (i + 1) f (wTI t p 30 i ((t.2 ((k + 1) :: p)).1 30 (i - 1))) (by omega) (by omega) (by omega)
    have e2 : (wTI t p 30 i ((t.2 ((k + 1) :: p)).1 30 (i - 1))).2 ((k + 1) :: p) = t.2 ((k + 1) :: p) := wrT_ne cons_ne
    unfold fX6_findPlan_174
    rw [if_neg (fun z => absurd ((gle (a := k + 1) (b := i) (by omega) (by omega)).mp z) (by omega)), e1, if_pos (gix hi1 (by decide)), if_pos (gix hi3 (by decide)), gnat (show i ≤ 1000 by omega), gnat (show i - 1 ≤ 1000 by omega), gnat (show k + 1 ≤ 1000 by omega), i32_succ]
    refine ⟨t', q1, (FrP.wr (Or.inr rfl)).tr q2, fun b => ?_, ?_, fun j j1 j2 => ?_, fun j j1 j2 => ?_, q7.trans e2⟩
    · rw [q3, rd_wr, if_neg (by omega)]
    · rw [q4, rd_wr, if_neg (by omega)]
    · rw [q5 j j1 (by omega), rd_wr, if_neg (by omega)]
    · by_cases z : j = i
      · subst z
        rw [q5 j (by omega) (by omega), rd_wr, if_pos ⟨rfl, rfl⟩]
      · rw [q6 j (by omega) j2, e2]
/-- the better one is taken over -/
theorem takeover {self : List Nat → Int32 → TF → Option (Unit × TF)} {rec_57 : Int32 → Int32 → TF → Option (Unit × TF)} {k : Nat} (hk : k < 3) {t : TF} {x : PV} (ha : a ≤ 6) (h : Fnd t ((k + 1) :: p) k x) : ∃ t' : TF, fX6_findPlan_143 p self rec_57 (i32 (k + 1)) (i32 a) t = rec_57 (i32 (k + 1)) (i32 (a + 1)) t' ∧ FrP p t t' ∧ Fnd t' p (k + 1) (x.1, x.2.1, a :: x.2.2) := by
  have ne : (k + 1) :: p ≠ p := cons_ne
  unfold fX6_findPlan_143
  rw [gnat (show k + 1 ≤ 1000 by omega)]
  have w1 : (wTI t p 0 38 (i32 a)).2 ((k + 1) :: p) = t.2 ((k + 1) :: p) := wrT_ne ne
  have w2 : (wTI (wTI t p 0 38 (i32 a)) p 0 39 ((t.2 ((k + 1) :: p)).1 0 39)).2 ((k + 1) :: p) = t.2 ((k + 1) :: p) := (wrT_ne ne).trans w1
  simp only [w1, w2]
  obtain ⟨t', q1, q2, q3, q4, q5, q6, q7⟩ := rowcopy (self := self) (rec_57 := rec_57) (p := p) hk (i32 a) k 1 FU (wTI (wTI (wTI (wTI t p 0 38 (i32 a)) p 0 39 ((t.2 ((k + 1) :: p)).1 0 39)) p 0 40 ((t.2 ((k + 1) :: p)).1 0 40)) p 30 0 (i32 a)) (by omega) (by omega) (by unfold FU; omega)
  rw [i32_succ] at q1
  refine ⟨t', q1, ((((FrP.wr (Or.inl ⟨rfl, by decide, by decide⟩)).tr (FrP.wr (Or.inl ⟨rfl, by decide, by decide⟩))).tr (FrP.wr (Or.inl ⟨rfl, by decide, by decide⟩))).tr (FrP.wr (Or.inr rfl))).tr q2, ?_, ?_, fun _ => ?_, fun j hj => ?_⟩
  · rw [q3, rd_wr, if_neg (by omega), rd_wr, if_neg (by omega), rd_wr, if_pos ⟨rfl, rfl⟩]
    exact h.1
  · rw [q3, rd_wr, if_neg (by omega), rd_wr, if_pos ⟨rfl, rfl⟩]
    exact h.2.1
  · rw [q3, rd_wr, if_neg (by omega), rd_wr, if_neg (by omega), rd_wr, if_neg (by omega), rd_wr, if_pos ⟨rfl, rfl⟩]
    rfl
  · cases j with
    | zero =>
      rw [q4, rd_wr, if_pos ⟨rfl, rfl⟩]
      rfl
    | succ j =>
      rw [q6 (j + 1) (by omega) hj]
      have : (wTI (wTI (wTI (wTI t p 0 38 (i32 a)) p 0 39 ((t.2 ((k + 1) :: p)).1 0 39)) p 0 40 ((t.2 ((k + 1) :: p)).1 0 40)) p 30 0 (i32 a)).2 ((k + 1) :: p) = t.2 ((k + 1) :: p) := (wrT_ne ne).trans ((wrT_ne ne).trans w2)
      rw [this]
      exact h.2.2.2 j (by omega)
end RPLAN
