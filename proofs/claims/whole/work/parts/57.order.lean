/-! PURE MATHEMATICS, 39: order. -/
def ordP (π : Nat → Nat) (M : Nat) (c : CN) : CN := up (fun i d => mRow i (π i) c d) M 0 c
abbrev OS : Type := Int32 × (Nat → Nat)
def leafS (V : (Nat → Nat) → Int32) (π : Nat → Nat) (st : OS) : OS := if st.1 = -1 ∨ V π < st.1 then (V π, π) else st
def seekB (g : Nat → OS → OS) (bm : Nat) : Nat → Nat → OS → OS
  | 0, _, st => st
  | m + 1, s, st => seekB g bm m (s + 1) (if bm.testBit s = true then st else g s st)
def updP (π : Nat → Nat) (d s : Nat) : Nat → Nat := fun k => if k = d then s else π k
def seekA (V : (Nat → Nat) → Int32) (M : Nat) : Nat → Nat → Nat → (Nat → Nat) → OS → OS
  | 0, _, _, π, st => leafS V π st
  | r + 1, d, bm, π, st => seekB (fun s st => seekA V M r (d + 1) (bm ||| 2 ^ s) (updP π d s) st) bm M 0 st
section ORDER
variable {c d : CN} {N t M a l : Nat} {L L1 : Int} {v v1 : CN} {w : Nat → Nat → Int64} {S : SS} {T T1 : TF} {x y : Int32} {π : Nat → Nat}
theorem mRow_p {i s p : Nat} (h1 : p ≠ 1) (h2 : p ≠ 2) (h3 : p ≠ 3) : mRow i s c d p = d p := by
  funext j
  unfold mRow mRow3
  rw [if_neg (fun z => h3 z.1), upd2_ne h2, upd2_ne h1]
theorem ordP_p {p : Nat} (h1 : p ≠ 1) (h2 : p ≠ 2) (h3 : p ≠ 3) : ordP π M c p = c p := up_inv (P := fun d => d p = c p) (fun i d e => (mRow_p h1 h2 h3).trans e) M 0 c rfl
theorem mRow_OK {i s : Nat} (hc : OK c N t M L) (h : OK d N t M L) (hi : i < 3) (hs : s < 3) : OK (mRow i s c d) N t M L := by
  have e0 : mRow i s c d 0 = d 0 := mRow_p (by decide) (by decide) (by decide)
  have e4 : mRow i s c d 4 = d 4 := mRow_p (by decide) (by decide) (by decide)
  have e1 : ∀ j : Nat, mRow i s c d 1 j = if j = i then c 1 s else d 1 j := fun j => by
    unfold mRow mRow3
    rw [if_neg (fun z => absurd z.1 (by decide)), upd2_ne (by decide), upd2_same]
  have e2 : ∀ j : Nat, mRow i s c d 2 j = if j = i then c 2 s else d 2 j := fun j => by
    unfold mRow mRow3
    rw [if_neg (fun z => absurd z.1 (by decide)), upd2_same]
    split
    · rfl
    · rw [upd2_ne (by decide)]
  refine ⟨h.1.of e0, ⟨fun j hj => ?_, fun j hj => ?_, fun i' k hi' hk => ?_, by rw [e4]; exact h.2.1.2.2.2.1, by rw [e0]; exact h.2.1.2.2.2.2⟩, h.2.2.1.of e0 (Int.le_refl _), h.2.2.2⟩
  · rw [e1]
    split
    · exact hc.2.1.1 s hs
    · exact h.2.1.1 j hj
  · rw [e2]
    split
    · exact hc.2.1.2.1 s hs
    · exact h.2.1.2.1 j hj
  · have : wt (mRow i s c d) i' k = if i' = i then wt c s k else wt d i' k := by
      unfold wt mRow mRow3
      by_cases z : i' = i
      · subst z
        rw [if_pos rfl, if_pos ⟨rfl, by omega, by omega⟩, show 8 * s + (8 * i' + k - 8 * i') = 8 * s + k by omega]
      · rw [if_neg z, if_neg (by omega), upd2_ne (by decide), upd2_ne (by decide)]
    rw [this]
    split
    · exact hc.2.1.2.2.1 s k hs hk
    · exact h.2.1.2.2.1 i' k hi' hk
theorem ordP_OK (hc : OK c N t M L) (hπ : ∀ k : Nat, k < M → π k < 3) : OK (ordP π M c) N t M L := by
  have hM := hc.1.m3
  exact up_invR (n := M) (P := fun d => OK d N t M L) (fun i d hi h => mRow_OK hc h (by omega) (hπ i hi)) M 0 c (by omega) hc
theorem ordP_congr {π' : Nat → Nat} (h : ∀ k : Nat, k < M → π k = π' k) : ordP π M c = ordP π' M c := by
  unfold ordP
  have : ∀ (m k : Nat) (d : CN), k + m = M → up (fun i d => mRow i (π i) c d) m k d = up (fun i d => mRow i (π' i) c d) m k d := by
    intro m
    induction m with
    | zero => intro k d _; rfl
    | succ m ih =>
      intro k d hk
      show up _ m (k + 1) (mRow k (π k) c d) = up _ m (k + 1) (mRow k (π' k) c d)
      rw [h k (by omega)]
      exact ih (k + 1) _ (by omega)
  exact this M 0 c (by omega)
/-- what is lost by an order -/
def ordV (N t M n : Nat) (c : CN) (π : Nat → Nat) : Int32 := idle N t M n (ordP π M c) 0 8 - c 0 8
theorem ordV_ne {n : Nat} (hc : OK c N t M L) (hL : L + 300000 ≤ 1999000000) (hn : n ≤ 200) (hπ : ∀ k : Nat, k < M → π k < 3) : ordV N t M n c π ≠ -1 := by
  have h := ordP_OK hc hπ
  have l1 := idle_lost n _ L h (by omega)
  rw [ordP_p (by decide) (by decide) (by decide)] at l1
  have h8 := hc.2.2.1 8 (by decide) (by decide)
  have hu := (idle N t M n (ordP π M c) 0 8).toInt_lt
  intro e
  have := congrArg Int32.toInt e
  unfold ordV at this
  rw [toInt_sub' (by omega) (by omega), show (-1 : Int32).toInt = -1 from rfl] at this
  omega
/-- the orders in the reference's own cells -/
def NowP (dp : Nat) (π : Nat → Nat) (T1 : TF) : Prop := ∀ k : Nat, k < dp → (T1.2 []).1 31 k = i32 (π k)
def OutP (M : Nat) (st : OS) (T1 : TF) : Prop := (T1.2 []).1 0 44 = st.1 ∧ (st.1 ≠ -1 → ∀ k : Nat, k < M → (T1.2 []).1 32 k = i32 (st.2 k))
theorem SameT.hold (h : SameT T T1) (hc : Hold φR c (T.2 []).1) : Hold φR c (T1.2 []).1 := hc.sameR h.2.2.2.2
theorem put_loop {n : Nat} {self : List Nat → Int32 → Int32 → Int32 → TF → Option (Unit × TF)} (h : RC c N t M L S T) (hπ : ∀ k : Nat, k < M → π k < 3) : ∀ (m k f : Nat) (d : CN) (T1 : TF), k + m = M → m < f → SameT T T1 → NowP M π T1 → Hold φR d (T1.2 [9]).1 → ∃ T2 : TF, fX6_seekOrder_17 [] self f (i32 M) (i32 n) (i32 k) T1 = fX6_seekOrder_17 [] self (f - m) (i32 M) (i32 n) (i32 M) T2 ∧ T2.2 [] = T1.2 [] ∧ SameT T T2 ∧ Hold φR (up (fun i d => mRow i (π i) c d) m k d) (T2.2 [9]).1
  | m, k, 0, d, T1 => fun _ h => absurd h (Nat.not_lt_zero _)
  | 0, k, f + 1, d, T1 => fun hk _ hs _ hd => by
    have : k = M := by omega
    subst this
    exact ⟨T1, rfl, rfl, hs, hd⟩
  | m + 1, k, f + 1, d, T1 => fun hk hf hs hnow hd => by
    have hM := h.1.1.m3
    have hk3 : k < 3 := by omega
    have nk : ¬ i32 M ≤ i32 k := fun z => absurd ((gle (by omega) (by omega)).mp z) (by omega)
    have g : fX6_putFrom (i32 k) (i32 (π k)) (prS (T1.2 [9]) (T1.2 [])) = some ((), prS (put φR (mRow k (π k) c d) (T1.2 [9]).1, (T1.2 [9]).2) (T1.2 [])) := by
      have := okR_putFrom (u := (T1.2 [9]).1) (w := (T1.2 [9]).2) (d := d) (c := c) (s2 := T1.2 []) hk3 (hπ k (by omega)) (hs.hold h.2.2.2.1)
      rw [← hd.mk] at this
      exact this
    have eT : wrT (wrT T1 [9] (prS (put φR (mRow k (π k) c d) (T1.2 [9]).1, (T1.2 [9]).2) (T1.2 []))) [] (T1.2 []) = wrT T1 [9] (prS (put φR (mRow k (π k) c d) (T1.2 [9]).1, (T1.2 [9]).2) (T1.2 [])) := by
      have e : (wrT T1 [9] (prS (put φR (mRow k (π k) c d) (T1.2 [9]).1, (T1.2 [9]).2) (T1.2 []))).2 [] = T1.2 [] := wrT_ne (by decide)
      have := wrT_id (t := wrT T1 [9] (prS (put φR (mRow k (π k) c d) (T1.2 [9]).1, (T1.2 [9]).2) (T1.2 []))) (p := [])
      rw [e] at this
      exact this
    have e0 : (wrT T1 [9] (prS (put φR (mRow k (π k) c d) (T1.2 [9]).1, (T1.2 [9]).2) (T1.2 []))).2 [] = T1.2 [] := wrT_ne (by decide)
    have hs' : SameT T (wrT T1 [9] (prS (put φR (mRow k (π k) c d) (T1.2 [9]).1, (T1.2 [9]).2) (T1.2 []))) := ⟨hs.1, hs.2.1, by rw [wrT_ne (by decide)]; exact hs.2.2.1, by rw [e0]; exact hs.2.2.2.1, fun a b hab => by rw [e0]; exact hs.2.2.2.2 a b hab⟩
    obtain ⟨T2, q1, q2, q3, q4⟩ := put_loop (n := n) (self := self) h hπ m (k + 1) f (mRow k (π k) c d) _ (by omega) (by omega) hs' (fun j hj => by rw [e0]; exact hnow j hj) (by rw [wrT_same]; exact Hold_prS Hold_put)
    refine ⟨T2, ?_, q2.trans e0, q3, q4⟩
    rw [fX6_seekOrder_17, if_neg nk, if_pos (gix hk3 (by decide)), gnat (show k ≤ 1000 by omega), hnow k (by omega), g, obind]
    dsimp only
    rw [snS_pr, eT, i32_succ, q1, show f + 1 - (m + 1) = f - m by omega]
theorem cpyP_off {s : SS} {a b n k j : Nat} (h : ¬ (k = b ∧ j < n)) : (cpyP s a b n).1 k j = s.1 k j := if_neg h
theorem cpyP_on {s : SS} {a b n k j : Nat} (h : k = b ∧ j < n) : (cpyP s a b n).1 k j = s.1 a j := if_pos h
theorem leaf_R {n : Nat} {self : List Nat → Int32 → Int32 → Int32 → TF → Option (Unit × TF)} (h : RC c N t M L S T) (hL : L + 300000 ≤ 1999000000) (hn : n ≤ 200) (hπ : ∀ k : Nat, k < M → π k < 3) {st : OS} (hs : SameT T T1) (hnow : NowP M π T1) (ho : OutP M st T1) : ∃ T2 : TF, ((fX6_fresh [] T1).bind fun z2 => fX6_seekOrder_17 [] self FU (i32 M) (i32 n) (0 : Int32) z2.2) = some ((), T2) ∧ SameT T T2 ∧ (∀ k : Nat, (T2.2 []).1 31 k = (T1.2 []).1 31 k) ∧ OutP M (leafS (ordV N t M n c) π st) T2 := by
  have hM := h.1.1.m3
  obtain ⟨T2, q1, q2, q3, q4, q5, q6, _⟩ := fresh_R (hs.hold h.2.2.2.1)
  have hs2 : SameT T T2 := hs.tr ⟨q3, q4, q5, by rw [q2], fun a b _ => by rw [q2]⟩
  obtain ⟨T3, p1, p2, p3, p4⟩ := put_loop (n := n) (self := self) h hπ M 0 FU c T2 (by omega) (by unfold FU; omega) hs2 (fun k hk => by rw [q2]; exact hnow k hk) q6
  have hd := ordP_OK h.1 hπ
  have g := okR_stands (u := (T3.2 [9]).1) (w := (T3.2 [9]).2) hn n 0 FU (ordP π M c) L (by omega) (by unfold FU; omega) hd (by omega) (by rw [ordP_p (by decide) (by decide) (by decide)]; exact h.2.1.2.1)
  have p4' : Hold φR (ordP π M c) (T3.2 [9]).1 := p4
  rw [← p4'.mk] at g
  have g' : fX6_stands (i32 n) (T3.2 [9]) = some ((), (put φR (idle N t M n (ordP π M c)) (T3.2 [9]).1, (T3.2 [9]).2)) := g
  have eb : T3.2 [] = T1.2 [] := p2.trans q2
  -- behind the standing
  have b9 : ((wrT T3 [9] (put φR (idle N t M n (ordP π M c)) (T3.2 [9]).1, (T3.2 [9]).2)).2 [9]).1 0 19 = idle N t M n (ordP π M c) 0 8 := by
    rw [wrT_same]; show put φR (idle N t M n (ordP π M c)) (T3.2 [9]).1 0 19 = _; exact put_at rfl
  have b0 : (wrT T3 [9] (put φR (idle N t M n (ordP π M c)) (T3.2 [9]).1, (T3.2 [9]).2)).2 [] = T1.2 [] := (wrT_ne (by decide)).trans eb
  have b19 : (T1.2 []).1 0 19 = c 0 8 := hs.hold h.2.2.2.1 0 19 0 8 rfl
  have hs3 : SameT T (wrT T3 [9] (put φR (idle N t M n (ordP π M c)) (T3.2 [9]).1, (T3.2 [9]).2)) := ⟨p3.1, p3.2.1, by rw [wrT_ne (by decide)]; exact p3.2.2.1, by rw [b0, ← eb]; exact p3.2.2.2.1, fun a b hab => by rw [b0, ← eb]; exact p3.2.2.2.2 a b hab⟩
  have eF : FU - M = (FU - M - 1) + 1 := by unfold FU; omega
  have start : ((fX6_fresh [] T1).bind fun z2 => fX6_seekOrder_17 [] self FU (i32 M) (i32 n) (0 : Int32) z2.2) = fX6_seekOrder_17 [] self (FU - M) (i32 M) (i32 n) (i32 M) T3 := by
    rw [q1, obind]
    exact p1
  generalize hT4 : wrT T3 [9] (put φR (idle N t M n (ordP π M c)) (T3.2 [9]).1, (T3.2 [9]).2) = T4 at b9 b0 hs3
  have m31 : ∀ (s : SS) (n : Nat), mrgS (fun k => if k < 1 then 31 + k else 32 + (k - 1)) 2 s (cpyP (selS (fun k => if k < 1 then 31 + k else 32 + (k - 1)) s) 0 1 n) = cpyP s 31 32 n := fun s n => mrg_cp rfl rfl (by decide)
  have take : st.1 = -1 ∨ ordV N t M n c π < st.1 → ∃ T5 : TF, fX6_seekOrder_75 [] self T4 = some ((), T5) ∧ SameT T T5 ∧ (∀ k : Nat, (T5.2 []).1 31 k = (T1.2 []).1 31 k) ∧ OutP M (leafS (ordV N t M n c) π st) T5 := by
    intro hb
    unfold fX6_seekOrder_75
    rw [okR_cp3, obind]
    dsimp only
    rw [m31, b9, b0, b19]
    have ez : ((wTI T4 [] 0 44 (idle N t M n (ordP π M c) 0 8 - c 0 8)).2 []) = wrI (T4.2 []) 0 44 (idle N t M n (ordP π M c) 0 8 - c 0 8) := wrT_same
    refine ⟨_, rfl, ⟨hs3.1, hs3.2.1, ?_, ?_, fun a b hab => ?_⟩, fun k => ?_, ?_, fun _ k hk => ?_⟩
    · rw [wrT_ne (by decide), wrT_ne (by decide)]; exact hs3.2.2.1
    · rw [wrT_same, ez]; exact hs3.2.2.2.1
    · rw [wrT_same, ez]
      show (if a = 32 ∧ b < 3 then _ else upd2 (T4.2 []).1 0 44 _ a b) = _
      have := hab.2
      rw [if_neg (by omega)]
      by_cases z : a = 0
      · subst z
        have := hab.1 rfl
        rw [upd2_same, if_neg (by omega)]
        exact hs3.2.2.2.2 0 b hab
      · rw [upd2_ne z]; exact hs3.2.2.2.2 a b hab
    · rw [wrT_same, ez]
      refine (cpyP_off (fun z => absurd z.1 (by decide))).trans ?_
      unfold wrI
      dsimp only
      rw [upd2_ne (by decide), b0]
    · unfold leafS
      rw [if_pos hb, wrT_same, ez]
      refine (cpyP_off (fun z => absurd z.1 (by decide))).trans ?_
      unfold wrI
      dsimp only
      rw [upd2_same, if_pos rfl]
      rfl
    · unfold leafS
      rw [if_pos hb, wrT_same, ez]
      refine (cpyP_on ⟨rfl, by omega⟩).trans ?_
      unfold wrI
      dsimp only
      rw [upd2_ne (by decide), b0]
      exact hnow k hk
  rw [start, eF, fX6_seekOrder_17, if_pos (Int32.le_refl _), g', obind]
  dsimp only
  rw [hT4, b0, ho.1]
  by_cases z : st.1 = -1
  · rw [if_pos z]
    exact take (Or.inl z)
  · rw [if_neg z, b9, b19]
    by_cases y : st.1 ≤ ordV N t M n c π
    · rw [if_pos (show st.1 ≤ idle N t M n (ordP π M c) 0 8 - c 0 8 from y)]
      refine ⟨T4, rfl, hs3, fun k => by rw [b0], ?_⟩
      unfold leafS OutP
      rw [if_neg (by
        intro q
        rcases q with q | q
        · exact z q
        · exact absurd y (Int32.not_le.mpr q)), b0]
      exact ho
    · rw [if_neg (show ¬ st.1 ≤ idle N t M n (ordP π M c) 0 8 - c 0 8 from y)]
      exact take (Or.inr (Int32.not_le.mp y))
theorem bits : ∀ bm : Nat, bm < 8 → ∀ s : Nat, s < 3 → ((((i32 bm >>> (i32 s &&& 31)) &&& (1 : Int32)) = 0) ↔ ¬ bm.testBit s = true) ∧ (i32 bm ||| ((1 : Int32) <<< (i32 s &&& 31))) = i32 (bm ||| 2 ^ s) ∧ bm ||| 2 ^ s < 8 := by decide +kernel
/-- what the reference's search does from a depth on -/
def SeekOK (self : List Nat → Int32 → Int32 → Int32 → TF → Option (Unit × TF)) (c : CN) (N t M n r : Nat) (T : TF) : Prop := ∀ (dp bm : Nat) (π : Nat → Nat) (st : OS) (T1 : TF), dp + r = M → bm < 8 → (∀ k : Nat, k < dp → π k < 3) → SameT T T1 → NowP dp π T1 → OutP M st T1 → ∃ T2 : TF, self [] (i32 dp) (i32 bm) (i32 n) T1 = some ((), T2) ∧ SameT T T2 ∧ (∀ k : Nat, k < dp → (T2.2 []).1 31 k = (T1.2 []).1 31 k) ∧ OutP M (seekA (ordV N t M n c) M r dp bm π st) T2
theorem SameT.w31 {s : Nat} {z : Int32} (h : SameT T T1) : SameT T (wTI T1 [] 31 s z) := by
  refine ⟨h.1, h.2.1, by rw [wrT_ne (by decide)]; exact h.2.2.1, by rw [wrT_same]; exact h.2.2.2.1, fun a b hab => ?_⟩
  have := hab.2
  rw [rd_wr, if_neg (by omega)]
  exact h.2.2.2.2 a b hab
theorem seek_loop {self : List Nat → Int32 → Int32 → Int32 → TF → Option (Unit × TF)} {n r dp bm : Nat} (h : RC c N t M L S T) (H : SeekOK self c N t M n r T) (hdp : dp + (r + 1) = M) (hbm : bm < 8) (hπ : ∀ k : Nat, k < dp → π k < 3) : ∀ (m s f : Nat) (st : OS) (T1 : TF), s + m = M → m < f → SameT T T1 → NowP dp π T1 → OutP M st T1 → ∃ T2 : TF, fX6_seekOrder_104 [] self f (i32 dp) (i32 bm) (i32 n) (i32 s) T1 = some ((), T2) ∧ SameT T T2 ∧ (∀ k : Nat, k < dp → (T2.2 []).1 31 k = (T1.2 []).1 31 k) ∧ OutP M (seekB (fun s st => seekA (ordV N t M n c) M r (dp + 1) (bm ||| 2 ^ s) (updP π dp s) st) bm m s st) T2
  | m, s, 0, st, T1 => fun _ h => absurd h (Nat.not_lt_zero _)
  | 0, s, f + 1, st, T1 => fun hs _ hT _ ho => by
    have hM := h.1.1.m3
    have e10 : (T1.2 []).1 0 10 = i32 M := (hT.2.2.2.2 0 10 ⟨fun _ => by decide, by decide⟩).trans h.cells.2.2.2.2.2
    unfold fX6_seekOrder_104
    rw [e10, if_pos ((gle (by omega) (by omega)).mpr (by omega))]
    exact ⟨T1, rfl, hT, fun _ _ => rfl, ho⟩
  | m + 1, s, f + 1, st, T1 => fun hs hf hT hnow ho => by
    have hM := h.1.1.m3
    have hs3 : s < 3 := by omega
    have hd3 : dp < 3 := by omega
    have e10 : (T1.2 []).1 0 10 = i32 M := (hT.2.2.2.2 0 10 ⟨fun _ => by decide, by decide⟩).trans h.cells.2.2.2.2.2
    obtain ⟨b1, b2, b3⟩ := bits bm hbm s hs3
    unfold fX6_seekOrder_104 seekB
    rw [e10, if_neg (fun z => absurd ((gle (by omega) (by omega)).mp z) (by omega))]
    by_cases z : bm.testBit s = true
    · rw [if_neg (fun q => b1.mp q z), if_pos z, i32_succ]
      exact seek_loop h H hdp hbm hπ m (s + 1) f st T1 (by omega) (by omega) hT hnow ho
    · rw [if_pos (b1.mpr z), if_neg z, if_pos (gix hd3 (by decide)), gnat (show dp ≤ 1000 by omega), b2, i32_succ]
      have hn1 : NowP (dp + 1) (updP π dp s) (wTI T1 [] 31 dp (i32 s)) := by
        intro k hk
        rw [rd_wr]
        unfold updP
        by_cases y : k = dp
        · rw [if_pos ⟨rfl, y⟩, if_pos y]
        · rw [if_neg (fun q => y q.2), if_neg y]
          exact hnow k (by omega)
      have ho1 : OutP M st (wTI T1 [] 31 dp (i32 s)) := by
        unfold OutP
        rw [rd_wr, if_neg (by omega)]
        exact ⟨ho.1, fun q k hk => by rw [rd_wr, if_neg (by omega)]; exact ho.2 q k hk⟩
      obtain ⟨T2, q1, q2, q3, q4⟩ := H (dp + 1) (bm ||| 2 ^ s) (updP π dp s) st (wTI T1 [] 31 dp (i32 s)) (by omega) b3 (fun k hk => by
        unfold updP
        split
        · exact hs3
        · exact hπ k (by omega)) hT.w31 hn1 ho1
      rw [q1, obind]
      dsimp only
      rw [i32_succ]
      have hnow2 : ∀ k : Nat, k < dp → (T2.2 []).1 31 k = (T1.2 []).1 31 k := fun k hk => by
        rw [q3 k (by omega), rd_wr, if_neg (by omega)]
      obtain ⟨T3, p1, p2, p3, p4⟩ := seek_loop h H hdp hbm hπ m (s + 1) f _ T2 (by omega) (by omega) q2 (fun k hk => (hnow2 k hk).trans (hnow k hk)) q4
      exact ⟨T3, p1, p2, fun k hk => (p3 k hk).trans (hnow2 k hk), p4⟩
theorem seek_ok {n : Nat} (h : RC c N t M L S T) (hL : L + 300000 ≤ 1999000000) (hn : n ≤ 200) : ∀ (r q : Nat), r < q → r ≤ 3 → SeekOK (fX6_seekOrder_r q) c N t M n r T
  | r, 0 => fun h => absurd h (Nat.not_lt_zero _)
  | 0, q + 1 => fun _ _ => by
    intro dp bm π st T1 hdp hbm hπ hT hnow ho
    have hM := h.1.1.m3
    have e : dp = M := by omega
    subst e
    have e10 : (T1.2 []).1 0 10 = i32 dp := (hT.2.2.2.2 0 10 ⟨fun _ => by decide, by decide⟩).trans h.cells.2.2.2.2.2
    obtain ⟨T2, q1, q2, q3, q4⟩ := leaf_R (n := n) (self := fX6_seekOrder_r q) h hL hn hπ hT hnow ho
    refine ⟨T2, ?_, q2, fun k _ => q3 k, q4⟩
    show fX6_seekOrder_0 [] (fX6_seekOrder_r q) (i32 dp) (i32 bm) (i32 n) T1 = _
    unfold fX6_seekOrder_0
    rw [e10, if_pos rfl]
    exact q1
  | r + 1, q + 1 => fun hq hr => by
    intro dp bm π st T1 hdp hbm hπ hT hnow ho
    have hM := h.1.1.m3
    have e10 : (T1.2 []).1 0 10 = i32 M := (hT.2.2.2.2 0 10 ⟨fun _ => by decide, by decide⟩).trans h.cells.2.2.2.2.2
    have H := seek_ok h hL hn r q (by omega) (by omega)
    obtain ⟨T2, q1, q2, q3, q4⟩ := seek_loop h H hdp hbm hπ M 0 FU st T1 (by omega) (by unfold FU; omega) hT hnow ho
    refine ⟨T2, ?_, q2, q3, q4⟩
    show fX6_seekOrder_0 [] (fX6_seekOrder_r q) (i32 dp) (i32 bm) (i32 n) T1 = _
    unfold fX6_seekOrder_0
    rw [e10, if_neg (i32_eq (by unfold B31; omega) (by unfold B31; omega) (by omega))]
    exact q1
/-- the class's walk over the orders -/
def clsS (V : (Nat → Nat) → Int32) (M : Nat) : Nat → Nat → (Nat × Int32) → (Nat × Int32)
  | 0, _, st => st
  | m + 1, o, st => clsS V M m (o + 1) (if hasL o (3 - M) M = 0 then st else if o = 0 then (o, V (ordN o)) else if st.2 ≤ V (ordN o) then st else (o, V (ordN o)))
theorem order_loop {n : Nat} (h : RC c N t M L S T) (hL : L + 300000 ≤ 1999000000) (hn : n ≤ 200) : ∀ (m o f b : Nat) (le : Int32) (v1 : CN), o + m = 6 → m < f → b < 6 → Bas S T v1 T → ∃ v2 : CN, fX5_order_48 f (i32 n) x (i32 b) le (i32 o) (v1, S.2) = (if x = (-1 : Int32) then (some ((clsS (ordV N t M n c) M m o (b, le)).2, (v2, S.2))) else (((fX0_scoopInOrder (i32 (clsS (ordV N t M n c) M m o (b, le)).1) x (v2, S.2)).bind fun z3 => some (z3.1, (v2, S.2))))) ∧ Bas S T v2 T ∧ (clsS (ordV N t M n c) M m o (b, le)).1 < 6
  | m, o, 0, b, le, v1 => fun _ h => absurd h (Nat.not_lt_zero _)
  | 0, o, f + 1, b, le, v1 => fun ho _ hb6 hb => by
    have : o = 6 := by omega
    subst this
    unfold fX5_order_48
    rw [if_pos (show (6 : Int32) ≤ i32 6 by decide)]
    exact ⟨v1, rfl, hb, hb6⟩
  | m + 1, o, f + 1, b, le, v1 => fun ho hf hb6 hb => by
    have ho6 : o < 6 := by omega
    have n6 : ¬ (6 : Int32) ≤ i32 o := fun z => absurd ((l_le (n := 6) (by unfold B31; omega) (by decide)).mp z) (by omega)
    have hc1 : Hold (atL 1 φW) c v1 := h.2.2.1.same (fun p p1 p2 => hb.1 p (by omega))
    obtain ⟨z, e1, e2⟩ := okM_rd (w := S.2) hc1 (fun u w => okC_has (u := u) (w := w) h.1.1 ho6)
    have hπ : ∀ k : Nat, k < M → ordN o k < 3 := fun k hk => ordN_lt ho6 (by have := h.1.1.m3; omega)
    unfold fX5_order_48 clsS
    rw [if_neg n6, e1, obind]
    dsimp only
    rw [e2]
    by_cases y : hasL o (3 - M) M = 0
    · rw [if_pos y, if_pos y, i32_succ]
      exact order_loop h hL hn m (o + 1) f b le v1 (by omega) (by omega) hb6 hb
    · rw [if_neg y, if_neg y]
      have ht := okC_takeOrd (v := fun k => v1 (if k < 5 then 28 + k else 2 + (k - 5))) (w := fun k => S.2 (if k < 5 then 28 + k else 2 + (k - 5))) ho6 ((hold_C2 hc1).at2 (n := 5)) h.1.1
      have ht' : fX0_takeInOrder (i32 o) (selS (fun k => if k < 5 then 28 + k else 2 + (k - 5)) (v1, S.2)) = some ((), (put φC (mOrd o M c) (fun k => v1 (if k < 5 then 28 + k else 2 + (k - 5))), fun k => S.2 (if k < 5 then 28 + k else 2 + (k - 5)))) := ht
      have hd : OK (mOrd o M c) N t M L := ordP_OK (π := ordN o) h.1 hπ
      obtain ⟨v3, p1, p2, p3⟩ := okM_idling (x := mOrd o M c 0 8) (w := S.2) hn n 0 FU (mOrd o M c) (put (atL 28 φC) (mOrd o M c) v1) L (by omega) (by unfold FU; omega) hd (by omega) Hold_put
      have e8 : put (atL 28 φC) (mOrd o M c) v1 28 8 = mOrd o M c 0 8 := put_at (atL_at 0 8)
      have p1' : fX5_lostIdling (i32 n) (put (atL 28 φC) (mOrd o M c) v1, S.2) = some (ordV N t M n c (ordN o), (v3, S.2)) := by
        unfold fX5_lostIdling fX5_lostIdling_0
        rw [show (put (atL 28 φC) (mOrd o M c) v1, S.2).1 28 8 = mOrd o M c 0 8 from e8]
        refine Eq.trans p1 ?_
        have e0 : mOrd o M c 0 8 = c 0 8 := by rw [show mOrd o M c 0 = c 0 from ordP_p (π := ordN o) (by decide) (by decide) (by decide)]
        rw [e0]
        rfl
      have hb3 : Bas S T v3 T := ⟨fun p hp => by
        rw [p3 p (by omega), ← hb.1 p hp]
        funext j
        exact put_off (atL_off φC_5 p j (by omega)), hb.2⟩
      rw [ht', obind]
      dsimp only
      rw [mrg_take (Or.inr (by decide)), p1', obind]
      dsimp only
      unfold fX5_order_108
      rw [i32_succ]
      by_cases o0 : o = 0
      · subst o0
        rw [if_pos (show i32 0 = 0 from rfl), if_pos rfl]
        exact order_loop h hL hn m 1 f 0 _ v3 (by omega) (by omega) (by omega) hb3
      · rw [if_neg (ne_l (n := 0) (by unfold B31; omega) (by decide) o0), if_neg o0]
        by_cases u : le ≤ ordV N t M n c (ordN o)
        · rw [if_pos u, if_pos u]
          exact order_loop h hL hn m (o + 1) f b le v3 (by omega) (by omega) hb6 hb3
        · rw [if_neg u, if_neg u]
          exact order_loop h hL hn m (o + 1) f o _ v3 (by omega) (by omega) ho6 hb3
end ORDER
