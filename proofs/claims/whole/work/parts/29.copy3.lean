/-! PURE MATHEMATICS, 11: the reference's copy. -/
/-- no reduction: a loop behind it isn't to be opened -/
theorem obind {α β : Type} (x : α) (f : α → Option β) : (some x).bind f = f x := by rw [Option.bind_some]
section COPY
variable {c d u v : CN} {w : Nat → Nat → Int64} {N t M : Nat} {s s1 s2 : SS}
theorem okR_take40_3 {D : Nat → Nat → Bool} {f : Nat} : fX6_takeFrom_40 (f + 1) (i32 3) (cpD D s) = some ((), cpD (fun k j => (k == 0 && j == 27) || ((k == 27 && decide (j < 20)) || ((k == 0 && j == 25) || ((k == 26 && decide (j < 4)) || ((k == 25 && decide (j < 4)) || ((k == 0 && j == 22) || ((k == 0 && j == 21) || ((k == 0 && j == 20) || ((k == 0 && j == 19) || ((k == 0 && j == 18) || ((k == 24 && decide (j < 4)) || ((k == 0 && j == 16) || ((k == 0 && j == 15) || ((k == 23 && decide (j < 8)) || D k j)))))))))))))) s) := by
  have m56 : ∀ (s : SS) (n : Nat), mrgS (fun k => if k < 1 then 56 + k else 23 + (k - 1)) 2 s (cpyP (selS (fun k => if k < 1 then 56 + k else 23 + (k - 1)) s) 0 1 n) = cpyP s 56 23 n := fun s n => mrg_cp rfl rfl (by decide)
  have m57 : ∀ (s : SS) (n : Nat), mrgS (fun k => if k < 1 then 57 + k else 24 + (k - 1)) 2 s (cpyP (selS (fun k => if k < 1 then 57 + k else 24 + (k - 1)) s) 0 1 n) = cpyP s 57 24 n := fun s n => mrg_cp rfl rfl (by decide)
  have m58 : ∀ (s : SS) (n : Nat), mrgS (fun k => if k < 1 then 58 + k else 25 + (k - 1)) 2 s (cpyP (selS (fun k => if k < 1 then 58 + k else 25 + (k - 1)) s) 0 1 n) = cpyP s 58 25 n := fun s n => mrg_cp rfl rfl (by decide)
  have m59 : ∀ (s : SS) (n : Nat), mrgS (fun k => if k < 1 then 59 + k else 26 + (k - 1)) 2 s (cpyP (selS (fun k => if k < 1 then 59 + k else 26 + (k - 1)) s) 0 1 n) = cpyP s 59 26 n := fun s n => mrg_cp rfl rfl (by decide)
  have m60 : ∀ (s : SS) (n : Nat), mrgS (fun k => if k < 1 then 60 + k else 27 + (k - 1)) 2 s (cpyP (selS (fun k => if k < 1 then 60 + k else 27 + (k - 1)) s) 0 1 n) = cpyP s 60 27 n := fun s n => mrg_cp rfl rfl (by decide)
  unfold fX6_takeFrom_40
  rw [if_pos (show (3 : Int32) ≤ i32 3 by decide)]
  simp only [okR_cp8, okR_cp4, okR_cp20, Option.bind_some, m56, m57, m58, m59, m60, cpD_cp (a := 56) (b := 23) rfl (by decide), cpD_cp (a := 57) (b := 24) rfl (by decide), cpD_cp (a := 58) (b := 25) rfl (by decide), cpD_cp (a := 59) (b := 26) rfl (by decide), cpD_cp (a := 60) (b := 27) rfl (by decide), cpD_rd (k := 33) (Nat.le_refl 33), cpD_wr]
theorem okR_take40_i {D : Nat → Nat → Bool} {f i b i' : Nat} (hi : i < 3) (hb : b = 20 + i) (hi' : i' = i + 1) : fX6_takeFrom_40 (f + 1) (i32 i) (cpD D s) = fX6_takeFrom_40 f (i32 i') (cpD (fun k j => (k == b && decide (j < 8)) || D k j) s) := by
  subst hb; subst hi'
  have m : ∀ (s : SS) (n : Nat), mrgS (fun k => if k < 1 then 53 + i + k else 20 + i + (k - 1)) 2 s (cpyP (selS (fun k => if k < 1 then 53 + i + k else 20 + i + (k - 1)) s) 0 1 n) = cpyP s (53 + i) (20 + i) n := fun s n => mrg_cp rfl rfl (by omega)
  rw [fX6_takeFrom_40, if_neg (fun z => absurd ((l_le (n := 3) (by unfold B31; omega) (by decide)).mp z) (by omega)), if_pos (gix hi (by decide)), if_pos (gix hi (by decide))]
  simp only [gnat (a := i) (by omega), okR_cp8, Option.bind_some, m, i32_succ, cpD_cp (a := 53 + i) (b := 20 + i) (by omega) (by omega)]
theorem okR_take40_all {D : Nat → Nat → Bool} {f : Nat} : fX6_takeFrom_40 (f + 1 + 1 + 1 + 1) (i32 0) (cpD D s) = some ((), cpD (fun k j => (k == 0 && j == 27) || ((k == 27 && decide (j < 20)) || ((k == 0 && j == 25) || ((k == 26 && decide (j < 4)) || ((k == 25 && decide (j < 4)) || ((k == 0 && j == 22) || ((k == 0 && j == 21) || ((k == 0 && j == 20) || ((k == 0 && j == 19) || ((k == 0 && j == 18) || ((k == 24 && decide (j < 4)) || ((k == 0 && j == 16) || ((k == 0 && j == 15) || ((k == 23 && decide (j < 8)) || ((k == 22 && decide (j < 8)) || ((k == 21 && decide (j < 8)) || ((k == 20 && decide (j < 8)) || D k j))))))))))))))))) s) := by
  rw [okR_take40_i (i := 0) (b := 20) (i' := 1) (by decide) rfl rfl, okR_take40_i (i := 1) (b := 21) (i' := 2) (by decide) rfl rfl, okR_take40_i (i := 2) (b := 22) (i' := 3) (by decide) rfl rfl, okR_take40_3]
theorem okR_takeD : fX6_takeFrom s = some ((), cpD dR s) := by
  have m50 : ∀ (s : SS) (n : Nat), mrgS (fun k => if k < 1 then 50 + k else 17 + (k - 1)) 2 s (cpyP (selS (fun k => if k < 1 then 50 + k else 17 + (k - 1)) s) 0 1 n) = cpyP s 50 17 n := fun s n => mrg_cp rfl rfl (by decide)
  have m51 : ∀ (s : SS) (n : Nat), mrgS (fun k => if k < 1 then 51 + k else 18 + (k - 1)) 2 s (cpyP (selS (fun k => if k < 1 then 51 + k else 18 + (k - 1)) s) 0 1 n) = cpyP s 51 18 n := fun s n => mrg_cp rfl rfl (by decide)
  have e0 : wrI (wrI s 0 9 (s.1 33 9)) 0 10 (s.1 33 10) = cpD (fun k j => (k == 0 && j == 10) || ((k == 0 && j == 9) || false)) s := by
    have := cpD_wr (D := fun _ _ => false) (s := s) (j := 9)
    rw [cpD_0] at this
    rw [this, cpD_wr]
  have eF : FU = 996 + 1 + 1 + 1 + 1 := rfl
  have eZ : (0 : Int32) = i32 0 := rfl
  unfold fX6_takeFrom fX6_takeFrom_0
  simp only [e0, okR_cp3, obind, m50, m51, cpD_cp (a := 50) (b := 17) rfl (by decide), cpD_cp (a := 51) (b := 18) rfl (by decide)]
  rw [eF, eZ, okR_take40_all]
  rfl
theorem okR_take (h : Hold φR c s2.1) : fX6_takeFrom (prS s1 s2) = some ((), prS (put φR c s1.1, s1.2) s2) := by
  rw [okR_takeD]
  refine congrArg some (Prod.ext rfl (Prod.ext ?_ ?_))
  · funext k j
    unfold cpD prS
    dsimp only
    rw [dR_φ]
    by_cases hk : k < 33
    · rw [if_pos hk]
      cases e : φR k j with
      | none => rw [if_neg (by simp), if_pos hk, put_off e]
      | some q =>
        rw [if_pos (by simp [hk]), if_neg (by omega), if_pos hk, put_at (a := q.1) (b := q.2) e, show 33 + k - 33 = k by omega]
        exact h k j q.1 q.2 e
    · rw [if_neg (fun z => hk z.1), if_neg hk, if_neg hk]
  · rfl
end COPY
