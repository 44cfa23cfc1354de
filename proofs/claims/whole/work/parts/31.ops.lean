/-! PURE MATHEMATICS, 13: scoops put on top, moved, taken in orders; sides. -/
def zeroW (M : Nat) (c : CN) : CN := up (fun k d => upd2 d 3 (8 * M + k) 0) 8 0 c
def mTop (M : Nat) (x y : Int32) (c : CN) : CN := upd2 (zeroW M (upd2 (upd2 c 1 M x) 2 M y)) 0 11 (c 0 11 + 1)
def mSides (n : Int32) (c : CN) : CN := upd2 (upd2 (upd2 c 0 0 n) 0 1 0) 0 2 (c 0 2 &&& (((1 : Int32) <<< (n &&& 31)) - 1))
def zeroR (c : CN) : CN := up (fun k d => upd2 d 4 k 0) 8 0 c
def mEmpty (c : CN) : CN := zeroR (upd2 (upd2 c 0 11 0) 0 10 0)
/-- row s of c's wet comes to place i -/
def mRow3 (i s : Nat) (c e : CN) : CN := fun p j => if p = 3 ∧ 8 * i ≤ j ∧ j < 8 * i + 8 then c 3 (8 * s + (j - 8 * i)) else e p j
def mRow (i s : Nat) (c d : CN) : CN := mRow3 i s c (upd2 (upd2 d 1 i (c 1 s)) 2 i (c 2 s))
def ordL : List Nat := [0, 1, 2, 0, 2, 1, 1, 0, 2, 1, 2, 0, 2, 0, 1, 2, 1, 0]
def ordN (o i : Nat) : Nat := ordL.getD (o * 3 + i) 0
def mOrd (o M : Nat) (c : CN) : CN := up (fun i d => mRow i (ordN o i) c d) M 0 c
def mSwap (i o : Nat) (c : CN) : CN := mRow o i c (mRow i o c c)
section OPS
variable {c d u v : CN} {w : Nat → Nat → Int64} {N t M i s : Nat} {x y : Int32}
theorem okC_top31 (hM : M < 3) : ∀ (m k f : Nat) (c : CN), k + m = 8 → m < f → c 0 11 = i32 M → fX0_putOnTop_31 f (i32 k) (put φC c u, w) = some ((), (put φC (upd2 (up (fun k d => upd2 d 3 (8 * M + k) 0) m k c) 0 11 (c 0 11 + 1)) u, w))
  | m, k, 0, c => fun _ h => absurd h (Nat.not_lt_zero _)
  | 0, k, f + 1, c => fun hk _ h0 => by
    have : k = 8 := by omega
    subst this
    unfold fX0_putOnTop_31
    rw [if_pos (show (8 : Int32) ≤ i32 8 by decide)]
    simp only [rC (k := 0) (j := 11) (show 11 < szC 0 by decide), wC (k := 0) (j := 11) (show 11 < szC 0 by decide)]
    rfl
  | m + 1, k, f + 1, c => fun hk hf h0 => by
    have h24 : 8 * M + k < 24 := by omega
    unfold fX0_putOnTop_31
    rw [if_neg (fun z => absurd ((l_le (n := 8) (by unfold B31; omega) (by decide)).mp z) (by omega))]
    simp only [rC (k := 0) (j := 11) (show 11 < szC 0 by decide), h0, ix8, if_pos (gix h24 (by decide)), gnat (a := 8 * M + k) (by omega), wC (k := 3) h24, i32_succ]
    have := okC_top31 hM m (k + 1) f (upd2 c 3 (8 * M + k) 0) (by omega) (by omega) h0
    rw [this, show upd2 c 3 (8 * M + k) 0 0 11 = c 0 11 from rfl, h0, i32_succ]
    rfl
theorem okC_top (H : Hd c N t M) (hM : M < 3) : fX0_putOnTop x y (put φC c u, w) = some ((), (put φC (mTop M x y c) u, w)) := by
  unfold fX0_putOnTop fX0_putOnTop_0
  simp only [eC11 H, if_pos ((lt_l (n := 3) (by unfold B31; omega) (by decide)).mpr hM), if_pos (gix hM (by decide)), gnat (a := M) (by omega), wC (k := 1) (j := M) hM, wC (k := 2) (j := M) hM]
  exact okC_top31 hM 8 0 FU _ (by decide) (by decide) H.2.2.1
theorem okR_add22 (hM : M < 3) : ∀ (m k f : Nat) (c : CN), k + m = 8 → m < f → c 0 11 = i32 M → fX6_addScoop_22 f (i32 k) (put φR c u, w) = some ((), (put φR (upd2 (up (fun k d => upd2 d 3 (8 * M + k) 0) m k c) 0 11 (c 0 11 + 1)) u, w))
  | m, k, 0, c => fun _ h => absurd h (Nat.not_lt_zero _)
  | 0, k, f + 1, c => fun hk _ h0 => by
    have : k = 8 := by omega
    subst this
    have e10 : φR 0 10 = some (0, 11) := rfl
    unfold fX6_addScoop_22
    rw [if_pos (show (8 : Int32) ≤ i32 8 by decide)]
    simp only [rR e10, wR e10]
    rfl
  | m + 1, k, f + 1, c => fun hk hf h0 => by
    have hk8 : k < 8 := by omega
    have e10 : φR 0 10 = some (0, 11) := rfl
    unfold fX6_addScoop_22
    rw [if_neg (fun z => absurd ((l_le (n := 8) (by unfold B31; omega) (by decide)).mp z) (by omega))]
    simp only [rR e10, h0, if_pos (gix hM (by decide)), if_pos (gix hk8 (by decide)), gnat (a := M) (by omega), gnat (a := k) (by omega), wR (fR_wet hM hk8), i32_succ]
    have := okR_add22 hM m (k + 1) f (upd2 c 3 (8 * M + k) 0) (by omega) (by omega) h0
    rw [this, show upd2 c 3 (8 * M + k) 0 0 11 = c 0 11 from rfl, h0, i32_succ]
    rfl
theorem okR_add (H : Hd c N t M) (hM : M < 3) : fX6_addScoop x y (put φR c u, w) = some ((), (put φR (mTop M x y c) u, w)) := by
  unfold fX6_addScoop fX6_addScoop_0
  simp only [eR11 H, if_pos (gix hM (by decide)), gnat (a := M) (by omega), wR (fR_sort hM), wR (fR_amt hM)]
  exact okR_add22 hM 8 0 FU _ (by decide) (by decide) H.2.2.1
theorem okC_all (H : Hd c N t M) : fX0_allPlaces (put φC c u, w) = some (((1 : Int32) <<< (i32 N &&& 31)) - 1, (put φC c u, w)) := by
  unfold fX0_allPlaces fX0_allPlaces_0
  simp only [eC0 H]
theorem okC_sides : fX0_becomeSides x (put φC c u, w) = some ((), (put φC (mSides x c) u, w)) := by
  unfold fX0_becomeSides fX0_becomeSides_0 fX0_allPlaces fX0_allPlaces_0 mSides
  simp only [wC (k := 0) (j := 0) (show 0 < szC 0 by decide), wC (k := 0) (j := 1) (show 1 < szC 0 by decide), rC (k := 0) (j := 0) (show 0 < szC 0 by decide), rC (k := 0) (j := 2) (show 2 < szC 0 by decide), wC (k := 0) (j := 2) (show 2 < szC 0 by decide), obind]
  rfl
theorem okR_sides : fX6_becomeSides x (put φR c u, w) = some ((), (put φR (mSides x c) u, w)) := by
  have e9 : φR 0 9 = some (0, 0) := rfl
  have e15 : φR 0 15 = some (0, 1) := rfl
  have e16 : φR 0 16 = some (0, 2) := rfl
  unfold fX6_becomeSides fX6_becomeSides_0 mSides
  simp only [wR e9, wR e15, rR e16, wR e16]
theorem okC_empty12 : ∀ (m k f : Nat) (c : CN), k + m = 8 → m < f → fX0_becomeEmpty_12 f (i32 k) (put φC c u, w) = some ((), (put φC (up (fun k d => upd2 d 4 k 0) m k c) u, w))
  | m, k, 0, c => fun _ h => absurd h (Nat.not_lt_zero _)
  | 0, k, f + 1, c => fun hk _ => by
    have : k = 8 := by omega
    subst this
    unfold fX0_becomeEmpty_12
    rw [if_pos (show (8 : Int32) ≤ i32 8 by decide)]
    rfl
  | m + 1, k, f + 1, c => fun hk hf => by
    have hk8 : k < 8 := by omega
    unfold fX0_becomeEmpty_12
    rw [if_neg (fun z => absurd ((l_le (n := 8) (by unfold B31; omega) (by decide)).mp z) (by omega))]
    simp only [if_pos (gix hk8 (by decide)), gnat (a := k) (by omega), wC (k := 4) (j := k) hk8, i32_succ]
    exact okC_empty12 m (k + 1) f _ (by omega) (by omega)
theorem okC_empty : fX0_becomeEmpty (put φC c u, w) = some ((), (put φC (mEmpty c) u, w)) := by
  unfold fX0_becomeEmpty fX0_becomeEmpty_0
  simp only [wC (k := 0) (j := 11) (show 11 < szC 0 by decide), wC (k := 0) (j := 10) (show 10 < szC 0 by decide)]
  exact okC_empty12 8 0 FU _ (by decide) (by decide)
theorem put_row3 (hi : i < 3) {e : CN} : (fun k j => if k = 20 + i ∧ j < 8 then c 3 (8 * s + j) else put φR e u k j) = put φR (mRow3 i s c e) u := by
  funext k j
  by_cases z : k = 20 + i ∧ j < 8
  · rw [if_pos z, z.1, rR (fR_wet hi z.2)]
    unfold mRow3
    rw [if_pos (by omega), show 8 * i + j - 8 * i = j by omega]
  · rw [if_neg z]
    cases q : φR k j with
    | none => rw [put_off q, put_off q]
    | some b =>
      rw [put_at (a := b.1) (b := b.2) q, put_at (a := b.1) (b := b.2) q]
      unfold mRow3
      rw [if_neg (fun y => z ?_)]
      have := ψR_of k j b q
      rw [y.1] at this
      have e1 := congrArg Prod.fst this
      have e2 := congrArg Prod.snd this
      simp only [ψR] at e1 e2
      simp at e1 e2
      omega
theorem okR_putFrom (hi : i < 3) (hs : s < 3) {s2 : SS} (h : Hold φR c s2.1) : fX6_putFrom (i32 i) (i32 s) (prS (put φR d u, w) s2) = some ((), prS (put φR (mRow i s c d) u, w) s2) := by
  have m : ∀ (q : SS) (n : Nat), mrgS (fun k => if k < 1 then 53 + s + k else 20 + i + (k - 1)) 2 q (cpyP (selS (fun k => if k < 1 then 53 + s + k else 20 + i + (k - 1)) q) 0 1 n) = cpyP q (53 + s) (20 + i) n := fun q n => mrg_cp rfl rfl (by omega)
  have e50 : (prS (put φR d u, w) s2).1 50 s = c 1 s := h 17 s 1 s (fR_sort hs)
  have e51 : (prS (put φR d u, w) s2).1 51 s = c 2 s := h 18 s 2 s (fR_amt hs)
  have wp : ∀ (q : SS) (k j : Nat) (z : Int32), k < 33 → wrI (prS q s2) k j z = prS (wrI q k j z) s2 := by
    intro q k j z hk
    unfold wrI prS
    refine Prod.ext ?_ rfl
    funext a b
    dsimp only
    by_cases ha : a = k
    · subst ha
      rw [upd2_same, if_pos hk, if_pos hk, upd2_same]
    · rw [upd2_ne ha, upd2_ne ha]
  unfold fX6_putFrom fX6_putFrom_0
  simp only [if_pos (gix hi (by decide)), if_pos (gix hs (by decide)), gnat (a := i) (by omega), gnat (a := s) (by omega), e50, e51, okR_cp8, obind, m]
  rw [wp _ 17 i _ (by decide), wR (fR_sort hi), wp _ 18 i _ (by decide), wR (fR_amt hi)]
  refine congrArg some (Prod.ext rfl ?_)
  unfold mRow
  rw [← put_row3 (u := u) (c := c) (s := s) hi]
  unfold cpyP prS
  refine Prod.ext ?_ rfl
  funext a b
  dsimp only
  by_cases z : a = 20 + i ∧ b < 8
  · have hq := h (20 + s) b 3 (8 * s + b) (fR_wet hs z.2)
    rw [if_pos z, if_neg (by omega), if_pos (show a < 33 by omega), if_pos z, show 53 + s - 33 = 20 + s by omega]
    exact hq
  · rw [if_neg z]
    by_cases ha : a < 33
    · rw [if_pos ha, if_pos ha, if_neg z]
    · rw [if_neg ha, if_neg ha]
theorem okC_sio {o : Nat} (ho : o < 6) (hi : i < 3) {q : SS} : fX0_scoopInOrder (i32 o) (i32 i) q = some (i32 (ordN o i), q) := by
  have h18 : o * 3 + i < 18 := by omega
  have e1 : i32 o * (3 : Int32) + i32 i = i32 (o * 3 + i) := by rw [show (3 : Int32) = i32 3 from rfl, i32_mul, i32_add]
  have key : ∀ j : Nat, j < 18 → orderRows.getD j 0 = i32 (ordL.getD j 0) := by decide +kernel
  unfold fX0_scoopInOrder fX0_scoopInOrder_0
  rw [e1, if_neg (Int32.not_lt.mpr (i32_nn (by unfold B31; omega))), if_neg (fun z => absurd ((l_le (n := 18) (by unfold B31; omega) (by decide)).mp z) (by omega)), if_pos (gix h18 (by decide)), gnat (by omega), key _ h18]
  rfl
theorem ordN_lt {o : Nat} (ho : o < 6) (hi : i < 3) : ordN o i < 3 := by
  have key : ∀ j : Nat, j < 18 → ordL.getD j 0 < 3 := by decide
  exact key _ (by omega)
theorem put_row3C (hi : i < 3) (hs : s < 3) {e : CN} (h : Hold φC c (fun k => v (5 + k))) : wrA (put φC e v, w) 3 (va_cpy (put φC e v 8) (put φC e v 3) (8 * s) (8 * i) 8) = (put φC (mRow3 i s c e) v, w) := by
  unfold wrA
  refine Prod.ext ?_ rfl
  funext k j
  dsimp only
  by_cases k3 : k = 3
  · subst k3
    rw [updA_same]
    unfold va_cpy
    by_cases z : 8 * i ≤ j ∧ j < 8 * i + 8
    · rw [if_pos z, rC (k := 3) (j := j) (show j < 24 by omega)]
      unfold mRow3
      rw [if_pos (by omega), put_off (φC_5 _ _ (by decide))]
      exact h 3 _ 3 _ (if_pos (show _ < 24 by omega))
    · rw [if_neg z]
      by_cases hj : j < 24
      · rw [rC (k := 3) (show j < szC 3 from hj), rC (k := 3) (show j < szC 3 from hj)]
        unfold mRow3
        rw [if_neg (fun y => z y.2)]
      · rw [put_off (show φC 3 j = none from if_neg hj), put_off (show φC 3 j = none from if_neg hj)]
  · rw [updA_ne k3]
    cases q : φC k j with
    | none => rw [put_off q, put_off q]
    | some b =>
      have hb : b = (k, j) := by unfold φC at q; split at q; cases q; rfl; cases q
      subst hb
      rw [put_at q, put_at q]
      unfold mRow3
      rw [if_neg (fun y => k3 y.1)]
theorem okC_ord7 {o : Nat} (ho : o < 6) (h : Hold φC c (fun k => v (5 + k))) : ∀ (m i f : Nat) (d : CN), i + m = M → M ≤ 3 → m < f → d 0 11 = i32 M → fX0_takeInOrder_7 f (i32 o) (i32 i) (put φC d v, w) = some ((), (put φC (up (fun i d => mRow i (ordN o i) c d) m i d) v, w))
  | m, i, 0, d => fun _ _ h => absurd h (Nat.not_lt_zero _)
  | 0, i, f + 1, d => fun hi hM _ h0 => by
    have e0 : put φC d v 0 11 = i32 M := (rC (by decide)).trans h0
    unfold fX0_takeInOrder_7
    simp only [e0, if_pos ((gle (a := M) (b := i) (by omega) (by omega)).mpr (by omega))]
    rfl
  | m + 1, i, f + 1, d => fun hi hM hf h0 => by
    have e0 : put φC d v 0 11 = i32 M := (rC (by decide)).trans h0
    have hi3 : i < 3 := by omega
    have hs := ordN_lt (i := i) ho hi3
    have a8 : acOK (i32 (8 * ordN o i)) (i32 (8 * i)) (8 : Int32) 24 24 := by
      refine ⟨Int32.not_lt.mpr (i32_nn (by unfold B31; omega)), Int32.not_lt.mpr (i32_nn (by unfold B31; omega)), by decide, ?_, ?_⟩
      · rw [gnat (by omega), show (8 : Int32).toNatClampNeg = 8 from rfl]; omega
      · rw [gnat (by omega), show (8 : Int32).toNatClampNeg = 8 from rfl]; omega
    have m8 : ∀ q : Nat, i32 q * (8 : Int32) = i32 (8 * q) := fun q => by rw [show (8 : Int32) = i32 8 from rfl, i32_mul, Nat.mul_comm]
    have e6 : put φC d v 6 (ordN o i) = c 1 (ordN o i) := (put_off (φC_5 _ _ (by decide))).trans (h 1 _ 1 _ (if_pos hs))
    have e7 : put φC d v 7 (ordN o i) = c 2 (ordN o i) := (put_off (φC_5 _ _ (by decide))).trans (h 2 _ 2 _ (if_pos hs))
    have ec : ∀ q : CN, put φC q v 8 = put φC d v 8 := fun q => by funext z; rw [put_off (φC_5 _ _ (by decide)), put_off (φC_5 _ _ (by decide))]
    have e3 : put φC (upd2 (upd2 d 1 i (c 1 (ordN o i))) 2 i (c 2 (ordN o i))) v 3 = put φC d v 3 := by
      funext z
      by_cases hz : z < szC 3
      · rw [rC hz, rC hz]; rfl
      · rw [put_off (show φC 3 z = none from if_neg hz), put_off (show φC 3 z = none from if_neg hz)]
    unfold fX0_takeInOrder_7
    simp only [e0, if_neg (fun z => absurd ((gle (a := M) (b := i) (by omega) (by omega)).mp z) (by omega)), okC_sio ho hi3, obind, if_pos (gix hs (by decide)), if_pos (gix hi3 (by decide)), m8, if_pos a8, gnat (a := ordN o i) (by omega), gnat (a := i) (by omega), gnat (a := 8 * ordN o i) (by omega), gnat (a := 8 * i) (by omega), show (8 : Int32).toNatClampNeg = 8 from rfl, e6, e7, wC (k := 1) (j := i) hi3, wC (k := 2) (j := i) hi3, i32_succ]
    have key := put_row3C (w := w) (e := upd2 (upd2 d 1 i (c 1 (ordN o i))) 2 i (c 2 (ordN o i))) hi3 hs h
    rw [ec, e3] at key
    rw [key]
    exact okC_ord7 ho h m (i + 1) f (mRow i (ordN o i) c d) (by omega) hM (by omega) h0
theorem okC_takeOrd {o : Nat} (ho : o < 6) (h : Hold φC c (fun k => v (5 + k))) (H : Hd c N t M) : fX0_takeInOrder (i32 o) (v, w) = some ((), (put φC (mOrd o M c) v, w)) := by
  have hM := H.m3
  unfold fX0_takeInOrder fX0_takeInOrder_0
  rw [okC_takeFrom h, obind]
  exact okC_ord7 ho h M 0 FU c (by omega) hM (by unfold FU; omega) H.2.2.1
end OPS
