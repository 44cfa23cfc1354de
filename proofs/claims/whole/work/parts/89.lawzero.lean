/-! AT THE START: two new objects are related -/
def T0F : TF := (fun p => p == [], fun _ => S0R)
def c0N : CN := fun a b => S0M.1 (1 + (ψW a b).1) (ψW a b).2
theorem c0_W : Hold (atL 1 φW) c0N S0M.1 := fun k j a b q => by
  unfold atL at q
  split at q
  · rename_i hk
    show S0M.1 k j = S0M.1 (1 + (ψW a b).1) (ψW a b).2
    rw [show ψW a b = (k - 1, j) from ψW_of _ _ _ q]
    show S0M.1 k j = S0M.1 (1 + (k - 1)) j
    rw [show 1 + (k - 1) = k by omega]
  · cases q
theorem φR_j {k j : Nat} {q : Nat × Nat} (h : φR k j = some q) : j < 31 := by
  refine Nat.not_le.mp (fun y => ?_)
  have e : φR k j = none := by
    unfold φR
    split
    · unfold φR0
      repeat rw [if_neg (by omega)]
    · unfold φR1
      repeat' split
      all_goals first
        | rfl
        | omega
  rw [e] at h
  cases h
theorem S0M_at {k j : Nat} : S0M.1 k j = cI M5F k j := by
  unfold S0M s0X
  dsimp only
theorem S0R_at {k j : Nat} : S0R.1 k j = cI X6F k j := by
  unfold S0R
  dsimp only
theorem T0F_at : T0F.2 [] = S0R := by
  unfold T0F
  dsimp only
theorem c0_R0 : ∀ k : Nat, k < 29 → ∀ j : Nat, j < 31 → (φR k j).all (fun q => decide (S0R.1 k j = c0N q.1 q.2)) = true := by decide +kernel
theorem c0_R : Hold φR c0N S0R.1 := fun k j a b q => by
  have h := c0_R0 k (φR_rel q).2 j (φR_j q)
  rw [q] at h
  simp only [Option.all_some, decide_eq_true_eq] at h
  exact h
theorem cI_nil {X : LX} {k : Nat} (h : (X[k]?).map (fun c => c.2.2) = some []) (j : Nat) : cI X k j = 0 := by
  obtain ⟨c, h1, h2⟩ := Option.map_eq_some_iff.mp h
  unfold cI
  rw [h1]
  show ceI c j = 0
  unfold ceI
  rw [h2]
  rfl
theorem c0_OK : OK c0N 6 0 0 0 := by
  refine ⟨⟨by decide +kernel, by decide +kernel, by decide +kernel, by decide, by decide, by decide, by decide⟩, ⟨by decide +kernel, by decide +kernel, ?_, by decide +kernel, by decide +kernel, by decide +kernel, by decide +kernel, by decide +kernel⟩, ?_, by decide⟩
  · have h : ∀ i : Nat, i < 3 → ∀ k : Nat, k < 8 → 0 ≤ wt c0N i k ∧ wt c0N i k ≤ 20 := by decide +kernel
    exact fun i k hi hk => h i hi k hk
  · have h : ∀ j : Nat, j < 11 → 7 ≤ j → 0 ≤ (c0N 0 j).toInt ∧ (c0N 0 j).toInt ≤ 0 := by decide +kernel
    exact fun j h7 h10 => h j (by omega) h7
theorem c0_WI : WI c0N := by
  refine ⟨⟨0, by decide, by decide +kernel⟩, ⟨0, by decide, by decide +kernel⟩, ?_⟩
  have h : ∀ l : Nat, l < 4 → c0N 6 l = i32 0 ∧ c0N 7 l = i32 0 := by decide +kernel
  exact fun l hl => ⟨⟨0, by decide, (h l hl).1⟩, ⟨0, by decide, (h l hl).2⟩⟩
theorem RR_start : RR 0 S0M T0F := by
  refine ⟨rfl, c0N, 6, 0, 0, c0_OK, c0_WI, c0_W, c0_R, Or.inl ⟨by decide +kernel, rfl⟩, ?_, ⟨⟨0, by decide, by decide +kernel, by decide +kernel⟩, fun j hj => ?_⟩, fun j h2 h6 => ?_⟩
  · have h : ∀ q : Nat, q < 8 → S0M.1 (61 + 2 * q) 0 = -1 ∧ S0R.1 1 q = 0 := by decide +kernel
    exact fun q hq => Or.inl (h q hq)
  · rw [T0F_at, S0M_at, S0R_at, cI_nil (X := M5F) (k := 59) (by decide +kernel) j, cI_nil (X := X6F) (k := 15) (by decide +kernel) j]
  · rw [T0F_at, S0M_at, S0R_at, cI_nil (X := M5F) (k := 60) (by decide +kernel) j, cI_nil (X := X6F) (k := 16) (by decide +kernel) j]
