/-! PURE MATHEMATICS, 7: what is read off a cone, by the class and by the reference. -/
theorem gle {a b : Nat} (ha : a ≤ 1000) (hb : b ≤ 1000) : (i32 a ≤ i32 b) ↔ a ≤ b := i32_le (by unfold B31; omega) (by unfold B31; omega)
theorem glt {a b : Nat} (ha : a ≤ 1000) (hb : b ≤ 1000) : (i32 a < i32 b) ↔ a < b := i32_lt (by unfold B31; omega) (by unfold B31; omega)
theorem gnat {a : Nat} (ha : a ≤ 1000) : (i32 a).toNatClampNeg = a := i32_nat (by unfold B31; omega)
theorem gix {k n : Nat} (h : k < n) (hn : n ≤ 1000) : ixB (i32 k) n := i32_ixB h (by unfold B31; omega)
def allW (c : CN) (i : Nat) : Nat → Nat → Int32 → Int32
  | 0, _, a => a
  | m + 1, k, a => allW c i m (k + 1) (a + c 3 (8 * i + k))
def allR (c : CN) : Nat → Nat → Int32 → Int32
  | 0, _, a => a
  | m + 1, k, a => allR c m (k + 1) (a + c 4 k)
def leftS (c : CN) (N : Nat) : Nat → Nat → Int32 → Int32
  | 0, _, a => allR c N 0 a
  | m + 1, i, a => leftS c N m (i + 1) (a + (c 2 i + allW c i N 0 0))
def mLeft (N M : Nat) (c : CN) : Int32 := leftS c N M 0 0
def anyM (c : CN) : Nat → Nat → Int32
  | 0, _ => 0
  | m + 1, i => if c 2 i = 0 then 1 else anyM c m (i + 1)
/-- all that is wet at a side, from scoop i on added to a -/
def atS (c : CN) (k : Nat) : Nat → Nat → Int32 → Int32
  | 0, _, a => a
  | m + 1, i, a => atS c k m (i + 1) (a + c 3 (8 * i + k))
def mAt (c : CN) (M k : Nat) : Int32 := atS c k M 0 (c 4 k)
def wetB (c : CN) (M : Nat) : Nat → Nat → Nat → Nat
  | 0, _, b => b
  | m + 1, k, b => wetB c M m (k + 1) (if mAt c M k ≤ mAt c M b then b else k)
def mWet (N M : Nat) (c : CN) : Nat := wetB c M (N - 1) 1 0
def lowS (c : CN) (k o : Nat) : Nat → Nat → Int32
  | 0, _ => 0
  | m + 1, i => if c 3 (8 * i + k) = c 3 (8 * i + o) then lowS c k o m (i + 1) else if c 3 (8 * i + k) ≤ c 3 (8 * i + o) then 0 else 1
def mLow (c : CN) (M k o : Nat) : Int32 := if c 4 k = c 4 o then lowS c k o M 0 else if c 4 k ≤ c 4 o then 0 else 1
def lowB (c : CN) (M : Nat) : Nat → Nat → Nat → Nat
  | 0, _, b => b
  | m + 1, k, b => lowB c M m (k + 1) (if mLow c M k b = 0 then b else k)
def mLowest (N M : Nat) (c : CN) : Nat := lowB c M (N - 1) 1 0
def lickS (c : CN) (t : Nat) : Nat → Nat → Nat
  | 0, _ => 0
  | m + 1, i => if c 3 (8 * i + t) = 0 then lickS c t m (i + 1) else i + 1
/-- rim, then scoops from below -/
def mLick (t M : Nat) (c : CN) : Nat := if c 4 t = 0 then lickS c t M 0 else 4
def mRound (t M : Nat) (c : CN) : Nat := if mLick t M c = 0 then 5 else mLick t M c
def lwS (c : CN) (t : Nat) : Nat → Nat → Nat → Int32 → Nat
  | 0, _, a, _ => a
  | m + 1, i, a, v => if c 3 (8 * i + t) ≤ v then lwS c t m (i + 1) a v else lwS c t m (i + 1) (i + 1) (c 3 (8 * i + t))
def mLickW (t M : Nat) (c : CN) : Nat := lwS c t M 0 (if c 4 t ≤ 0 then 0 else 4) (c 4 t)
def mTo (N t k : Nat) : Nat := if N - plc N t k < plc N t k then 6 else 5
section READ
variable {c u : CN} {w : Nat → Nat → Int64} {N t M : Nat}
theorem eC0 (H : Hd c N t M) : put φC c u 0 0 = i32 N := (rC (by decide)).trans H.1
theorem eC1 (H : Hd c N t M) : put φC c u 0 1 = i32 t := (rC (by decide)).trans H.2.1
theorem eC11 (H : Hd c N t M) : put φC c u 0 11 = i32 M := (rC (by decide)).trans H.2.2.1
theorem eR0 (H : Hd c N t M) : put φR c u 0 9 = i32 N := (rR rfl).trans H.1
theorem eR1 (H : Hd c N t M) : put φR c u 0 15 = i32 t := (rR rfl).trans H.2.1
theorem eR11 (H : Hd c N t M) : put φR c u 0 10 = i32 M := (rR rfl).trans H.2.2.1
theorem Hd.n8 (H : Hd c N t M) : N ≤ 8 := H.2.2.2.2.1
theorem Hd.m3 (H : Hd c N t M) : M ≤ 3 := H.2.2.2.2.2.2
theorem Hd.tN (H : Hd c N t M) : t < N := H.2.2.2.2.2.1
theorem Hd.n3 (H : Hd c N t M) : 3 ≤ N := H.2.2.2.1
theorem Hd.t8 (H : Hd c N t M) : t < 8 := by have := H.n8; have := H.tN; omega
theorem okC_allWet4 (H : Hd c N t M) {i : Nat} (hi : i < 3) : ∀ (m k f : Nat) (a : Int32), k + m = N → m < f → fX0_allWetOf_4 f (i32 i) a (i32 k) (put φC c u, w) = some (allW c i m k a, (put φC c u, w))
  | m, k, 0, a => fun _ h => absurd h (Nat.not_lt_zero _)
  | 0, k, f + 1, a => fun hk _ => by
    have := H.n8
    unfold fX0_allWetOf_4
    simp only [eC0 H, if_pos ((gle (a := N) (b := k) (by omega) (by omega)).mpr (by omega))]
    rfl
  | m + 1, k, f + 1, a => fun hk hf => by
    have := H.n8
    unfold fX0_allWetOf_4
    simp only [eC0 H, if_neg (fun z => absurd ((gle (a := N) (b := k) (by omega) (by omega)).mp z) (by omega))]
    rw [okC_wetAt hi (by omega)]
    simp only [Option.bind_some, i32_succ]
    exact okC_allWet4 H hi m (k + 1) f _ (by omega) (by omega)
theorem okC_allWet (H : Hd c N t M) {i : Nat} (hi : i < 3) : fX0_allWetOf (i32 i) (put φC c u, w) = some (allW c i N 0 0, (put φC c u, w)) :=
  okC_allWet4 H hi N 0 FU 0 (by omega) (by have := H.n8; unfold FU; omega)
theorem okR_wetOf4 (H : Hd c N t M) {i : Nat} (hi : i < 3) : ∀ (m k f : Nat) (a : Int32), k + m = N → m < f → fX6_wetOf_4 f (i32 i) a (i32 k) (put φR c u, w) = some (allW c i m k a, (put φR c u, w))
  | m, k, 0, a => fun _ h => absurd h (Nat.not_lt_zero _)
  | 0, k, f + 1, a => fun hk _ => by
    have := H.n8
    unfold fX6_wetOf_4
    simp only [eR0 H, if_pos ((gle (a := N) (b := k) (by omega) (by omega)).mpr (by omega))]
    rfl
  | m + 1, k, f + 1, a => fun hk hf => by
    have := H.n8
    have hk8 : k < 8 := by omega
    unfold fX6_wetOf_4
    simp only [eR0 H, if_neg (fun z => absurd ((gle (a := N) (b := k) (by omega) (by omega)).mp z) (by omega)), if_pos (gix hi (by decide)), if_pos (gix hk8 (by decide)), gnat (a := i) (by omega), gnat (a := k) (by omega), rR (fR_wet hi hk8), i32_succ]
    exact okR_wetOf4 H hi m (k + 1) f _ (by omega) (by omega)
theorem okR_wetOf (H : Hd c N t M) {i : Nat} (hi : i < 3) : fX6_wetOf (i32 i) (put φR c u, w) = some (allW c i N 0 0, (put φR c u, w)) :=
  okR_wetOf4 H hi N 0 FU 0 (by omega) (by have := H.n8; unfold FU; omega)
theorem okC_left35 (H : Hd c N t M) : ∀ (m k f : Nat) (a : Int32), k + m = N → m < f → fX0_left_35 f a (i32 k) (put φC c u, w) = some (allR c m k a, (put φC c u, w))
  | m, k, 0, a => fun _ h => absurd h (Nat.not_lt_zero _)
  | 0, k, f + 1, a => fun hk _ => by
    have := H.n8
    unfold fX0_left_35
    simp only [eC0 H, if_pos ((gle (a := N) (b := k) (by omega) (by omega)).mpr (by omega))]
    rfl
  | m + 1, k, f + 1, a => fun hk hf => by
    have := H.n8
    have hk8 : k < 8 := by omega
    unfold fX0_left_35
    simp only [eC0 H, if_neg (fun z => absurd ((gle (a := N) (b := k) (by omega) (by omega)).mp z) (by omega)), if_pos (gix hk8 (by decide)), gnat (a := k) (by omega), rC (k := 4) (j := k) hk8, i32_succ]
    exact okC_left35 H m (k + 1) f _ (by omega) (by omega)
theorem okR_left35 (H : Hd c N t M) : ∀ (m k f : Nat) (a : Int32), k + m = N → m < f → fX6_leftNow_35 f a (i32 k) (put φR c u, w) = some (allR c m k a, (put φR c u, w))
  | m, k, 0, a => fun _ h => absurd h (Nat.not_lt_zero _)
  | 0, k, f + 1, a => fun hk _ => by
    have := H.n8
    unfold fX6_leftNow_35
    simp only [eR0 H, if_pos ((gle (a := N) (b := k) (by omega) (by omega)).mpr (by omega))]
    rfl
  | m + 1, k, f + 1, a => fun hk hf => by
    have := H.n8
    have hk8 : k < 8 := by omega
    unfold fX6_leftNow_35
    simp only [eR0 H, if_neg (fun z => absurd ((gle (a := N) (b := k) (by omega) (by omega)).mp z) (by omega)), if_pos (gix hk8 (by decide)), gnat (a := k) (by omega), rR (fR_rim hk8), i32_succ]
    exact okR_left35 H m (k + 1) f _ (by omega) (by omega)
theorem okC_left4 (H : Hd c N t M) : ∀ (m i f : Nat) (a : Int32), i + m = M → m < f → fX0_left_4 f a (i32 i) (put φC c u, w) = some (leftS c N m i a, (put φC c u, w))
  | m, i, 0, a => fun _ h => absurd h (Nat.not_lt_zero _)
  | 0, i, f + 1, a => fun hk _ => by
    have := H.n8
    have := H.m3
    unfold fX0_left_4
    simp only [eC11 H, if_pos ((gle (a := M) (b := i) (by omega) (by omega)).mpr (by omega))]
    exact okC_left35 H N 0 FU a (by omega) (by unfold FU; omega)
  | m + 1, i, f + 1, a => fun hk hf => by
    have := H.m3
    have hi : i < 3 := by omega
    unfold fX0_left_4
    simp only [eC11 H, if_neg (fun z => absurd ((gle (a := M) (b := i) (by omega) (by omega)).mp z) (by omega)), if_pos (gix hi (by decide)), gnat (a := i) (by omega), rC (k := 2) (j := i) hi, okC_allWet H hi, Option.bind_some, i32_succ]
    exact okC_left4 H m (i + 1) f _ (by omega) (by omega)
theorem okC_left (H : Hd c N t M) : fX0_left (put φC c u, w) = some (mLeft N M c, (put φC c u, w)) :=
  okC_left4 H M 0 FU 0 (by omega) (by have := H.m3; unfold FU; omega)
theorem okR_left4 (H : Hd c N t M) : ∀ (m i f : Nat) (a : Int32), i + m = M → m < f → fX6_leftNow_4 f a (i32 i) (put φR c u, w) = some (leftS c N m i a, (put φR c u, w))
  | m, i, 0, a => fun _ h => absurd h (Nat.not_lt_zero _)
  | 0, i, f + 1, a => fun hk _ => by
    have := H.n8
    have := H.m3
    unfold fX6_leftNow_4
    simp only [eR11 H, if_pos ((gle (a := M) (b := i) (by omega) (by omega)).mpr (by omega))]
    exact okR_left35 H N 0 FU a (by omega) (by unfold FU; omega)
  | m + 1, i, f + 1, a => fun hk hf => by
    have := H.m3
    have hi : i < 3 := by omega
    unfold fX6_leftNow_4
    simp only [eR11 H, if_neg (fun z => absurd ((gle (a := M) (b := i) (by omega) (by omega)).mp z) (by omega)), if_pos (gix hi (by decide)), gnat (a := i) (by omega), rR (fR_amt hi), okR_wetOf H hi, Option.bind_some, i32_succ]
    exact okR_left4 H m (i + 1) f _ (by omega) (by omega)
theorem okR_left (H : Hd c N t M) : fX6_leftNow (put φR c u, w) = some (mLeft N M c, (put φR c u, w)) :=
  okR_left4 H M 0 FU 0 (by omega) (by have := H.m3; unfold FU; omega)
theorem okC_anyM2 (H : Hd c N t M) : ∀ (m i f : Nat), i + m = M → m < f → fX0_hasMeltedScoop_2 f (i32 i) (put φC c u, w) = some (anyM c m i, (put φC c u, w))
  | m, i, 0 => fun _ h => absurd h (Nat.not_lt_zero _)
  | 0, i, f + 1 => fun hk _ => by
    have := H.m3
    unfold fX0_hasMeltedScoop_2
    simp only [eC11 H, if_pos ((gle (a := M) (b := i) (by omega) (by omega)).mpr (by omega))]
    rfl
  | m + 1, i, f + 1 => fun hk hf => by
    have := H.m3
    have hi : i < 3 := by omega
    unfold fX0_hasMeltedScoop_2
    simp only [eC11 H, if_neg (fun z => absurd ((gle (a := M) (b := i) (by omega) (by omega)).mp z) (by omega)), if_pos (gix hi (by decide)), gnat (a := i) (by omega), rC (k := 2) (j := i) hi, i32_succ]
    unfold anyM
    split
    · rfl
    · exact okC_anyM2 H m (i + 1) f (by omega) (by omega)
theorem okC_anyM (H : Hd c N t M) : fX0_hasMeltedScoop (put φC c u, w) = some (anyM c M 0, (put φC c u, w)) :=
  okC_anyM2 H M 0 FU (by omega) (by have := H.m3; unfold FU; omega)
theorem okR_allAt9 (H : Hd c N t M) {k : Nat} (hk : k < 8) : ∀ (m i f : Nat) (a : Int32), i + m = M → m < f → fX6_allAt_9 f (i32 k) a (i32 i) (put φR c u, w) = some (atS c k m i a, (put φR c u, w))
  | m, i, 0, a => fun _ h => absurd h (Nat.not_lt_zero _)
  | 0, i, f + 1, a => fun hk _ => by
    have := H.m3
    unfold fX6_allAt_9
    simp only [eR11 H, if_pos ((gle (a := M) (b := i) (by omega) (by omega)).mpr (by omega))]
    rfl
  | m + 1, i, f + 1, a => fun hi' hf => by
    have := H.m3
    have hi : i < 3 := by omega
    unfold fX6_allAt_9
    simp only [eR11 H, if_neg (fun z => absurd ((gle (a := M) (b := i) (by omega) (by omega)).mp z) (by omega)), if_pos (gix hi (by decide)), if_pos (gix hk (by decide)), gnat (a := i) (by omega), gnat (a := k) (by omega), rR (fR_wet hi hk), i32_succ]
    exact okR_allAt9 H hk m (i + 1) f _ (by omega) (by omega)
theorem okR_allAt (H : Hd c N t M) {k : Nat} (hk : k < 8) : fX6_allAt (i32 k) (put φR c u, w) = some (mAt c M k, (put φR c u, w)) := by
  have := H.m3
  unfold fX6_allAt fX6_allAt_0
  simp only [if_pos (gix hk (by decide)), gnat (a := k) (by omega), rR (fR_rim hk)]
  exact okR_allAt9 H hk M 0 FU _ (by omega) (by unfold FU; omega)
theorem okR_wettest4 (H : Hd c N t M) : ∀ (m k f b : Nat), k + m = N → m < f → b < 8 → fX6_wettestSide_4 f (i32 b) (i32 k) (put φR c u, w) = some (i32 (wetB c M m k b), (put φR c u, w))
  | m, k, 0, b => fun _ h => absurd h (Nat.not_lt_zero _)
  | 0, k, f + 1, b => fun hk _ _ => by
    have := H.n8
    unfold fX6_wettestSide_4
    simp only [eR0 H, if_pos ((gle (a := N) (b := k) (by omega) (by omega)).mpr (by omega))]
    rfl
  | m + 1, k, f + 1, b => fun hk hf hb => by
    have := H.n8
    have hk8 : k < 8 := by omega
    unfold fX6_wettestSide_4
    simp only [eR0 H, if_neg (fun z => absurd ((gle (a := N) (b := k) (by omega) (by omega)).mp z) (by omega)), okR_allAt H hk8, okR_allAt H hb, Option.bind_some, i32_succ]
    unfold wetB
    split
    · exact okR_wettest4 H m (k + 1) f b (by omega) (by omega) hb
    · exact okR_wettest4 H m (k + 1) f k (by omega) (by omega) hk8
theorem okR_wettest (H : Hd c N t M) : fX6_wettestSide (put φR c u, w) = some (i32 (mWet N M c), (put φR c u, w)) :=
  okR_wettest4 H (N - 1) 1 FU 0 (by have := H.n3; omega) (by have := H.n8; unfold FU; omega) (by decide)
end READ
