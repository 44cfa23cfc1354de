/-! PURE MATHEMATICS, 1: numbers, lenses, steps. -/
def i32 (n : Nat) : Int32 := Int32.ofNat n
abbrev B31 (n : Nat) : Prop := n < 2147483648
theorem i32_toInt {n : Nat} (h : B31 n) : (i32 n).toInt = (n : Int) := Int32.toInt_ofNat_of_lt h
theorem i32_le {a b : Nat} (ha : B31 a) (hb : B31 b) : (i32 a ≤ i32 b) ↔ a ≤ b := by
  rw [Int32.le_iff_toInt_le, i32_toInt ha, i32_toInt hb]; omega
theorem i32_lt {a b : Nat} (ha : B31 a) (hb : B31 b) : (i32 a < i32 b) ↔ a < b := by
  rw [Int32.lt_iff_toInt_lt, i32_toInt ha, i32_toInt hb]; omega
theorem i32_inj {a b : Nat} (ha : B31 a) (hb : B31 b) : (i32 a = i32 b) ↔ a = b := by
  refine ⟨fun h => ?_, fun h => by rw [h]⟩
  have := congrArg Int32.toInt h
  rw [i32_toInt ha, i32_toInt hb] at this
  omega
theorem i32_nat {n : Nat} (h : B31 n) : (i32 n).toNatClampNeg = n := Int32.toNatClampNeg_ofNat_of_lt h
theorem i32_add (a b : Nat) : i32 a + i32 b = i32 (a + b) := (Int32.ofNat_add a b).symm
theorem i32_mul (a b : Nat) : i32 a * i32 b = i32 (a * b) := (Int32.ofNat_mul a b).symm
theorem i32_sub {a b : Nat} (h : b ≤ a) : i32 a - i32 b = i32 (a - b) := (Int32.ofNat_sub a b h).symm
theorem i32_succ (a : Nat) : i32 a + (1 : Int32) = i32 (a + 1) := i32_add a 1
theorem i32_ixB {k n : Nat} (h : k < n) (hn : B31 n) : ixB (i32 k) n := by
  have hk : B31 k := Nat.lt_trans h hn
  intro z
  rcases z with z | z
  · rw [Int32.lt_iff_toInt_lt, i32_toInt hk] at z
    have : (0 : Int32).toInt = 0 := rfl
    omega
  · rw [i32_nat hk] at z
    omega
theorem toInt_add' {a b : Int32} (h1 : -2147483648 ≤ a.toInt + b.toInt) (h2 : a.toInt + b.toInt < 2147483648) : (a + b).toInt = a.toInt + b.toInt := by
  rw [Int32.toInt_add]
  exact Int.bmod_eq_of_le (by omega) (by omega)
theorem toInt_sub' {a b : Int32} (h1 : -2147483648 ≤ a.toInt - b.toInt) (h2 : a.toInt - b.toInt < 2147483648) : (a - b).toInt = a.toInt - b.toInt := by
  rw [Int32.toInt_sub]
  exact Int.bmod_eq_of_le (by omega) (by omega)
theorem of_nn {x : Int32} (h : 0 ≤ x.toInt) : ∃ n : Nat, B31 n ∧ x = i32 n ∧ x.toInt = n := by
  have hlt := x.toInt_lt
  have hn : B31 x.toInt.toNat := by unfold B31; omega
  refine ⟨x.toInt.toNat, hn, ?_, by omega⟩
  refine Int32.toInt_inj.mp ?_
  rw [i32_toInt hn]
  omega
theorem mnle {a y : Int32} : (if a ≤ y then a else y) = if a < y then a else y := by
  by_cases h : a < y
  · rw [if_pos h, if_pos (Int32.le_of_lt h)]
  · rw [if_neg h]
    by_cases g : a ≤ y
    · rw [if_pos g]; exact Int32.le_antisymm g (Int32.not_lt.mp h)
    · rw [if_neg g]
theorem mnle2 {a y : Int32} : (if y ≤ a then y else a) = if a < y then a else y := by
  by_cases h : a < y
  · rw [if_pos h, if_neg (by rw [Int32.not_le]; exact h)]
  · rw [if_neg h, if_pos (Int32.not_lt.mp h)]
/-- the smaller of two -/
def mn (a b : Int32) : Int32 := if a < b then a else b
abbrev CN : Type := Nat → Nat → Int32
/-- a lens: of the cells that φ names, what c holds; of the others what u holds -/
def put (φ : Nat → Nat → Option (Nat × Nat)) (c u : CN) : CN := fun k j => (φ k j).elim (u k j) (fun q => c q.1 q.2)
def LensOK (φ : Nat → Nat → Option (Nat × Nat)) : Prop := ∀ (k j k' j' : Nat) (q : Nat × Nat), φ k j = some q → φ k' j' = some q → k = k' ∧ j = j'
/-- v holds c where φ names its cells -/
def Hold (φ : Nat → Nat → Option (Nat × Nat)) (c v : CN) : Prop := ∀ (k j a b : Nat), φ k j = some (a, b) → v k j = c a b
section LENS
variable {φ : Nat → Nat → Option (Nat × Nat)} {c d u v : CN} {k j a b : Nat} {x : Int32}
theorem put_at (h : φ k j = some (a, b)) : put φ c u k j = c a b := by unfold put; rw [h]; rfl
theorem put_off (h : φ k j = none) : put φ c u k j = u k j := by unfold put; rw [h]; rfl
theorem Hold_put : Hold φ c (put φ c u) := fun _ _ _ _ h => put_at h
theorem Hold.eq (h : Hold φ c v) : put φ c v = v := by
  funext k j
  cases e : φ k j with
  | none => exact put_off e
  | some q => rw [put_at (a := q.1) (b := q.2) e]; exact (h k j q.1 q.2 e).symm
theorem put_put : put φ c (put φ d u) = put φ c u := by
  funext k j
  cases e : φ k j with
  | none => rw [put_off e, put_off e, put_off e]
  | some q => rw [put_at (a := q.1) (b := q.2) e, put_at (a := q.1) (b := q.2) e]
theorem put_congr (h : ∀ (k j a b : Nat), φ k j = some (a, b) → c a b = d a b) : put φ c u = put φ d u := by
  funext k j
  cases e : φ k j with
  | none => rw [put_off e, put_off e]
  | some q => rw [put_at (a := q.1) (b := q.2) e, put_at (a := q.1) (b := q.2) e]; exact h k j q.1 q.2 e
theorem put_upd (H : LensOK φ) (h : φ k j = some (a, b)) : upd2 (put φ c u) k j x = put φ (upd2 c a b x) u := by
  funext p i
  by_cases hp : p = k
  · subst hp
    rw [upd2_same]
    by_cases hi : i = j
    · subst hi
      rw [if_pos rfl, put_at h, upd2_same, if_pos rfl]
    · rw [if_neg hi]
      cases e : φ p i with
      | none => rw [put_off e, put_off e]
      | some q =>
        rw [put_at (a := q.1) (b := q.2) e, put_at (a := q.1) (b := q.2) e]
        by_cases z : q = (a, b)
        · subst z; exact absurd (H _ _ _ _ _ e h).2 hi
        · by_cases y : q.1 = a
          · rw [y, upd2_same, if_neg (fun w => z (Prod.ext y w))]
          · rw [upd2_ne y]
  · rw [upd2_ne hp]
    cases e : φ p i with
    | none => rw [put_off e, put_off e]
    | some q =>
      rw [put_at (a := q.1) (b := q.2) e, put_at (a := q.1) (b := q.2) e]
      by_cases z : q = (a, b)
      · subst z; exact absurd (H _ _ _ _ _ e h).1 hp
      · by_cases y : q.1 = a
        · rw [y, upd2_same, if_neg (fun w => z (Prod.ext y w))]
        · rw [upd2_ne y]
theorem upd2_put_off (h : φ k j = none) : upd2 (put φ c u) k j x = put φ c (upd2 u k j x) := by
  funext p i
  by_cases hp : p = k
  · subst hp
    rw [upd2_same]
    by_cases hi : i = j
    · subst hi
      rw [if_pos rfl, put_off h, upd2_same, if_pos rfl]
    · rw [if_neg hi]
      unfold put
      rw [upd2_same, if_neg hi]
  · rw [upd2_ne hp]
    unfold put
    rw [upd2_ne hp]
theorem wrI_put {w : Nat → Nat → Int64} (H : LensOK φ) (h : φ k j = some (a, b)) : wrI (put φ c u, w) k j x = (put φ (upd2 c a b x) u, w) := by
  unfold wrI
  rw [put_upd H h]
end LENS
theorem upd2_id {S : CN} {a i : Nat} : upd2 S a i (S a i) = S := by
  funext q j
  by_cases z : q = a
  · subst z
    rw [upd2_same]
    by_cases y : j = i
    · rw [if_pos y, y]
    · rw [if_neg y]
  · rw [upd2_ne z]
/-- m steps from k on -/
def up (f : Nat → CN → CN) : Nat → Nat → CN → CN
  | 0, _, c => c
  | m + 1, k, c => up f m (k + 1) (f k c)
/-- the cells of a cone by itself: place 0 its numbers, 1 sorts, 2 amounts, 3 wets, 4 rims -/
def szC (k : Nat) : Nat := if k = 0 then 12 else if k = 1 then 3 else if k = 2 then 3 else if k = 3 then 24 else if k = 4 then 8 else 0
def φC (k j : Nat) : Option (Nat × Nat) := if j < szC k then some (k, j) else none
theorem φC_ok : LensOK φC := by
  intro k j k' j' q h h'
  unfold φC at h h'
  split at h
  · split at h'
    · cases h; cases h'; exact ⟨rfl, rfl⟩
    · cases h'
  · cases h
theorem lens_of_inv {φ : Nat → Nat → Option (Nat × Nat)} (ψ : Nat → Nat → Nat × Nat) (h : ∀ (k j : Nat) (q : Nat × Nat), φ k j = some q → ψ q.1 q.2 = (k, j)) : LensOK φ := by
  intro k j k' j' q h1 h2
  have e := (h k j q h1).symm.trans (h k' j' q h2)
  exact ⟨congrArg Prod.fst e, congrArg Prod.snd e⟩
/-- the cells of the world in the reference's object: places 0 .. 4 the cone, 5 the numbers of lickers, drops and the seed, 6 kinds, 7 their a, 8 drops -/
def φR0 (j : Nat) : Option (Nat × Nat) :=
  if j = 9 then some (0, 0) else if j = 10 then some (0, 11) else if j = 15 then some (0, 1) else if j = 16 then some (0, 2) else if j = 18 then some (0, 7) else if j = 19 then some (0, 8) else if j = 20 then some (0, 9) else if j = 21 then some (0, 10) else if j = 22 then some (5, 3) else if j = 25 then some (5, 5) else if j = 27 then some (5, 6) else none
def φR1 (k j : Nat) : Option (Nat × Nat) :=
  if k = 17 then (if j < 3 then some (1, j) else none)
  else if k = 18 then (if j < 3 then some (2, j) else none)
  else if 20 ≤ k ∧ k < 23 then (if j < 8 then some (3, 8 * (k - 20) + j) else none)
  else if k = 23 then (if j < 8 then some (4, j) else none)
  else if k = 24 then (if j < 4 then some (0, 3 + j) else none)
  else if k = 25 then (if j < 4 then some (6, j) else none)
  else if k = 26 then (if j < 4 then some (7, j) else none)
  else if k = 27 then (if j < 20 then some (8, j) else none)
  else none
def φR (k j : Nat) : Option (Nat × Nat) := if k = 0 then φR0 j else φR1 k j
def ψR (a b : Nat) : Nat × Nat :=
  if a = 0 then (if b = 0 then (0, 9) else if b = 11 then (0, 10) else if b = 1 then (0, 15) else if b = 2 then (0, 16) else if b = 7 then (0, 18) else if b = 8 then (0, 19) else if b = 9 then (0, 20) else if b = 10 then (0, 21) else (24, b - 3))
  else if a = 1 then (17, b) else if a = 2 then (18, b) else if a = 3 then (20 + b / 8, b % 8) else if a = 4 then (23, b)
  else if a = 5 then (if b = 3 then (0, 22) else if b = 5 then (0, 25) else (0, 27)) else if a = 6 then (25, b) else if a = 7 then (26, b) else (27, b)
theorem ψR0_of (j : Nat) (q : Nat × Nat) (h : φR0 j = some q) : ψR q.1 q.2 = (0, j) := by
  unfold φR0 at h
  repeat' split at h
  all_goals first
    | (cases h; done)
    | (cases h; subst j; rfl)
    | (cases h; rename_i z; rw [z]; rfl)
theorem ψR1_of (k j : Nat) (q : Nat × Nat) (h : φR1 k j = some q) : ψR q.1 q.2 = (k, j) := by
  unfold φR1 at h
  repeat' split at h
  all_goals first
    | (cases h; done)
    | (cases h; unfold ψR; dsimp only; repeat' split
       all_goals first
         | (exact Prod.ext (by show (_ : Nat) = _; omega) (by show (_ : Nat) = _; omega))
         | (exfalso; omega))
theorem ψR_of (k j : Nat) (q : Nat × Nat) (h : φR k j = some q) : ψR q.1 q.2 = (k, j) := by
  unfold φR at h
  by_cases z : k = 0
  · rw [if_pos z] at h
    rw [ψR0_of j q h, z]
  · rw [if_neg z] at h
    exact ψR1_of k j q h
theorem φR_ok : LensOK φR := lens_of_inv ψR ψR_of
/-- the cells of a world of the class: 0 its numbers, 1 .. 5 its cone, 6 kinds, 7 their a, 8 drops -/
def φW (k j : Nat) : Option (Nat × Nat) :=
  if k = 0 then (if j = 3 then some (5, 3) else if j = 5 then some (5, 5) else if j = 6 then some (5, 6) else none)
  else if k ≤ 5 then (if j < szC (k - 1) then some (k - 1, j) else none)
  else if k = 6 then (if j < 4 then some (6, j) else none)
  else if k = 7 then (if j < 4 then some (7, j) else none)
  else if k = 8 then (if j < 20 then some (8, j) else none)
  else none
def ψW (a b : Nat) : Nat × Nat := if a < 5 then (a + 1, b) else if a = 5 then (0, b) else (a, b)
theorem ψW_of (k j : Nat) (q : Nat × Nat) (h : φW k j = some q) : ψW q.1 q.2 = (k, j) := by
  unfold φW at h
  repeat' split at h
  all_goals first
    | (cases h; done)
    | (cases h; unfold ψW; dsimp only; repeat' split
       all_goals first
         | (exact Prod.ext (by show (_ : Nat) = _; omega) (by show (_ : Nat) = _; omega))
         | (exfalso; omega))
theorem φW_ok : LensOK φW := lens_of_inv ψW ψW_of
