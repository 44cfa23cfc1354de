/-! PURE MATHEMATICS, 9: copies. -/
theorem acok (n n0 n1 : Nat) (h0 : n ≤ n0) (h1 : n ≤ n1) (hn : n ≤ 1000) : acOK (0 : Int32) (0 : Int32) (i32 n) n0 n1 := by
  have e : (0 : Int32).toNatClampNeg = 0 := rfl
  refine ⟨by decide, by decide, Int32.not_lt.mpr (i32_nn (by unfold B31; omega)), ?_, ?_⟩ <;> rw [e, gnat hn] <;> omega
theorem cpy0 {f g : Nat → Int32} {n : Nat} : va_cpy f g 0 0 n = fun j => if j < n then f j else g j := by
  funext j
  unfold va_cpy
  by_cases h : j < n
  · rw [if_pos h, if_pos (by omega)]; exact congrArg f (by omega)
  · rw [if_neg h, if_neg (by omega)]
section COPY
variable {c d u v : CN} {w : Nat → Nat → Int64} {N t M : Nat}
theorem okC_takeFrom (h : Hold φC c (fun k => v (5 + k))) : fX0_takeFrom (v, w) = some ((), (put φC c v, w)) := by
  have h0 : ∀ j : Nat, j < 12 → v 5 j = c 0 j := fun j hj => h 0 j 0 j (if_pos hj)
  have h1 : ∀ j : Nat, j < 3 → v 6 j = c 1 j := fun j hj => h 1 j 1 j (if_pos hj)
  have h2 : ∀ j : Nat, j < 3 → v 7 j = c 2 j := fun j hj => h 2 j 2 j (if_pos hj)
  have h3 : ∀ j : Nat, j < 24 → v 8 j = c 3 j := fun j hj => h 3 j 3 j (if_pos hj)
  have h4 : ∀ j : Nat, j < 8 → v 9 j = c 4 j := fun j hj => h 4 j 4 j (if_pos hj)
  unfold fX0_takeFrom fX0_takeFrom_0
  have a3 : acOK (0 : Int32) (0 : Int32) (3 : Int32) 3 3 := acok 3 3 3 (by decide) (by decide) (by decide)
  have a24 : acOK (0 : Int32) (0 : Int32) (24 : Int32) 24 24 := acok 24 24 24 (by decide) (by decide) (by decide)
  have a8 : acOK (0 : Int32) (0 : Int32) (8 : Int32) 8 8 := acok 8 8 8 (by decide) (by decide) (by decide)
  rw [if_pos a3, if_pos a3, if_pos a24, if_pos a8]
  refine congrArg some (Prod.ext rfl (Prod.ext ?_ rfl))
  unfold wrA wrI
  dsimp only
  rw [show (0 : Int32).toNatClampNeg = 0 from rfl, show (3 : Int32).toNatClampNeg = 3 from rfl, show (24 : Int32).toNatClampNeg = 24 from rfl, show (8 : Int32).toNatClampNeg = 8 from rfl, cpy0, cpy0, cpy0, cpy0, h0 0 (by decide), h0 1 (by decide), h0 2 (by decide), h0 3 (by decide), h0 4 (by decide), h0 5 (by decide), h0 6 (by decide), h0 7 (by decide), h0 8 (by decide), h0 9 (by decide), h0 10 (by decide), h0 11 (by decide)]
  funext k j
  by_cases k0 : k = 0
  · subst k0
    rw [updA_ne (by decide), updA_ne (by decide), updA_ne (by decide), updA_ne (by decide)]
    simp only [upd2_same]
    by_cases hj : j < 12
    · rw [rC (k := 0) hj]
      have : j = 0 ∨ j = 1 ∨ j = 2 ∨ j = 3 ∨ j = 4 ∨ j = 5 ∨ j = 6 ∨ j = 7 ∨ j = 8 ∨ j = 9 ∨ j = 10 ∨ j = 11 := by omega
      rcases this with e | e | e | e | e | e | e | e | e | e | e | e <;> subst e <;> rfl
    · rw [put_off (show φC 0 j = none from if_neg hj)]
      repeat rw [if_neg (by omega)]
  · by_cases k4 : k = 4
    · subst k4
      rw [updA_same]
      by_cases hj : j < 8
      · rw [if_pos hj, rC (k := 4) hj, h4 j hj]
      · rw [if_neg hj, put_off (show φC 4 j = none from if_neg hj)]
    · by_cases k3 : k = 3
      · subst k3
        rw [updA_ne (by decide), updA_same]
        by_cases hj : j < 24
        · rw [if_pos hj, rC (k := 3) hj, h3 j hj]
        · rw [if_neg hj, put_off (show φC 3 j = none from if_neg hj)]
      · by_cases k2 : k = 2
        · subst k2
          rw [updA_ne (by decide), updA_ne (by decide), updA_same]
          by_cases hj : j < 3
          · rw [if_pos hj, rC (k := 2) hj, h2 j hj]
          · rw [if_neg hj, put_off (show φC 2 j = none from if_neg hj)]
        · by_cases k1 : k = 1
          · subst k1
            rw [updA_ne (by decide), updA_ne (by decide), updA_ne (by decide), updA_same]
            by_cases hj : j < 3
            · rw [if_pos hj, rC (k := 1) hj, h1 j hj]
            · rw [if_neg hj, put_off (show φC 1 j = none from if_neg hj)]
          · rw [updA_ne k4, updA_ne k3, updA_ne k2, updA_ne k1]
            repeat rw [upd2_ne k0]
            refine (put_off ?_).symm
            unfold φC szC
            rw [if_neg k0, if_neg k1, if_neg k2, if_neg k3, if_neg k4, if_neg (Nat.not_lt_zero _)]
/-- one copy of the reference's rows: n of place a to place b -/
def cpyP (s : SS) (a b n : Nat) : SS := (fun k j => if k = b ∧ j < n then s.1 a j else s.1 k j, s.2)
theorem cpy_loop {s : SS} {f : Nat → Int32 → SS → Option (Unit × SS)} {n : Nat} (hn : n ≤ 20)
    (e : ∀ (g k : Nat) (s : SS), f (g + 1) (i32 k) s = if i32 n ≤ i32 k then some ((), s) else if ixB (i32 k) n then (if ixB (i32 k) n then f g (i32 k + 1) (wrI s 1 (i32 k).toNatClampNeg (s.1 0 (i32 k).toNatClampNeg)) else none) else none) :
    ∀ (m k g : Nat), k + m = n → m < g → f g (i32 k) (cpyP s 0 1 k) = some ((), cpyP s 0 1 n)
  | m, k, 0 => fun _ h => absurd h (Nat.not_lt_zero _)
  | 0, k, g + 1 => fun hk _ => by
    have : k = n := by omega
    subst this
    rw [e, if_pos (Int32.le_refl _)]
  | m + 1, k, g + 1 => fun hk hg => by
    rw [e, if_neg (fun z => absurd ((gle (a := n) (b := k) (by omega) (by omega)).mp z) (by omega)), if_pos (gix (by omega) (by omega)), if_pos (gix (by omega) (by omega)), gnat (by omega), i32_succ]
    have : wrI (cpyP s 0 1 k) 1 k ((cpyP s 0 1 k).1 0 k) = cpyP s 0 1 (k + 1) := by
      unfold wrI cpyP
      refine Prod.ext ?_ rfl
      funext x y
      dsimp only
      by_cases hx : x = 1
      · subst hx
        rw [upd2_same]
        by_cases hy : y = k
        · subst hy
          rw [if_pos rfl, if_neg (by omega), if_pos (by omega)]
        · rw [if_neg hy]
          by_cases z : y < k
          · rw [if_pos ⟨rfl, z⟩, if_pos ⟨rfl, by omega⟩]
          · rw [if_neg (by omega), if_neg (by omega)]
      · rw [upd2_ne hx, if_neg (by omega), if_neg (by omega)]
    rw [this]
    exact cpy_loop hn e m (k + 1) g (by omega) (by omega)
theorem cpyP_0 {s : SS} : cpyP s 0 1 0 = s := by
  unfold cpyP
  refine Prod.ext ?_ rfl
  funext x y
  dsimp only
  rw [if_neg (by omega)]
theorem okR_cp3 {s : SS} : fX6_copied3 s = some ((), cpyP s 0 1 3) := by
  have := cpy_loop (s := s) (f := fX6_copied3_2) (n := 3) (by decide) (fun _ _ _ => rfl) 3 0 FU (by decide) (by decide)
  rw [cpyP_0] at this
  exact this
theorem okR_cp4 {s : SS} : fX6_copied4 s = some ((), cpyP s 0 1 4) := by
  have := cpy_loop (s := s) (f := fX6_copied4_2) (n := 4) (by decide) (fun _ _ _ => rfl) 4 0 FU (by decide) (by decide)
  rw [cpyP_0] at this
  exact this
theorem okR_cp8 {s : SS} : fX6_copied8 s = some ((), cpyP s 0 1 8) := by
  have := cpy_loop (s := s) (f := fX6_copied8_2) (n := 8) (by decide) (fun _ _ _ => rfl) 8 0 FU (by decide) (by decide)
  rw [cpyP_0] at this
  exact this
theorem okR_cp20 {s : SS} : fX6_copied20 s = some ((), cpyP s 0 1 20) := by
  have := cpy_loop (s := s) (f := fX6_copied20_2) (n := 20) (by decide) (fun _ _ _ => rfl) 20 0 FU (by decide) (by decide)
  rw [cpyP_0] at this
  exact this
theorem mrg_cp {s : SS} {a b n : Nat} {π : Nat → Nat} (h0 : π 0 = a) (h1 : π 1 = b) (hab : a ≠ b) : mrgS π 2 s (cpyP (selS π s) 0 1 n) = cpyP s a b n := by
  unfold mrgS cpyP selS
  refine Prod.ext ?_ ?_
  · funext k j
    dsimp only [mrg]
    rw [h0, h1]
    by_cases kb : k = b
    · rw [if_pos kb]
      by_cases hj : j < n
      · rw [if_pos ⟨rfl, hj⟩, if_pos ⟨kb, hj⟩]
      · rw [if_neg (by omega), if_neg (by omega), kb]
    · rw [if_neg kb]
      by_cases ka : k = a
      · rw [if_pos ka, if_neg (by omega), if_neg (by omega), ka]
      · rw [if_neg ka, if_neg (by omega)]
  · funext k j
    dsimp only [mrg]
    rw [h0, h1]
    by_cases kb : k = b
    · rw [if_pos kb, kb]
    · rw [if_neg kb]
      by_cases ka : k = a
      · rw [if_pos ka, ka]
      · rw [if_neg ka]
/-- of the first object's cells in D, what the second's hold -/
def cpD (D : Nat → Nat → Bool) (s : SS) : SS := (fun k j => if k < 33 ∧ D k j = true then s.1 (33 + k) j else s.1 k j, s.2)
theorem cpD_rd {D : Nat → Nat → Bool} {s : SS} {k j : Nat} (h : 33 ≤ k) : (cpD D s).1 k j = s.1 k j := if_neg (by omega)
theorem cpD_wr {D : Nat → Nat → Bool} {s : SS} {j : Nat} : wrI (cpD D s) 0 j (s.1 33 j) = cpD (fun k i => (k == 0 && i == j) || D k i) s := by
  unfold wrI cpD
  refine Prod.ext ?_ rfl
  funext x y
  dsimp only
  by_cases hx : x = 0
  · subst hx
    rw [upd2_same]
    by_cases hy : y = j
    · subst hy
      rw [if_pos rfl, if_pos (by simp)]
    · rw [if_neg hy]
      simp [hy]
  · rw [upd2_ne hx]
    simp [hx]
theorem cpD_cp {D : Nat → Nat → Bool} {s : SS} {a b n : Nat} (ha : a = 33 + b) (hb : b < 33) : cpyP (cpD D s) a b n = cpD (fun k i => (k == b && decide (i < n)) || D k i) s := by
  subst ha
  unfold cpyP cpD
  refine Prod.ext ?_ rfl
  funext x y
  dsimp only
  by_cases hx : x = b
  · subst hx
    by_cases hy : y < n
    · rw [if_pos ⟨rfl, hy⟩, if_neg (by omega), if_pos (by simp [hb, hy])]
    · rw [if_neg (by omega)]
      simp [hy]
  · rw [if_neg (by omega)]
    simp [hx]
theorem cpD_0 {s : SS} : cpD (fun _ _ => false) s = s := by
  unfold cpD
  refine Prod.ext ?_ rfl
  funext x y
  dsimp only
  rw [if_neg (by simp)]
end COPY
