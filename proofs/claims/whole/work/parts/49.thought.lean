/-! PURE MATHEMATICS, 31: thoughts of both, side by side. -/
/-- the rest stands as it did -/
def Bas (S : SS) (T : TF) (v1 : CN) (T1 : TF) : Prop := (∀ p : Nat, p < 28 ∨ 57 ≤ p → v1 p = S.1 p) ∧ T1.2 [] = T.2 [] ∧ T1.1 [] = T.1 [] ∧ T1.1 [8] = T.1 [8] ∧ T1.2 [8] = T.2 [8]
/-- both think of the cone d -/
def Tht (c d : CN) (S : SS) (T : TF) (v1 : CN) (T1 : TF) : Prop := Bas S T v1 T1 ∧ Hold (atL 28 φC) d v1 ∧ Hold φR d (T1.2 [9]).1 ∧ ∀ p : Nat, 5 ≤ p → d p = c p
section THOUGHT
variable {c d : CN} {N t M a l : Nat} {L L1 : Int} {v v1 : CN} {w : Nat → Nat → Int64} {S : SS} {T T1 : TF} {x y : Int32}
theorem Bas.rf : Bas S T S.1 T := ⟨fun _ _ => rfl, rfl, rfl, rfl, rfl⟩
theorem Bas.rr (h : RR L S T) (hb : Bas S T v1 T1) : RR L (v1, S.2) T1 := by
  refine h.same ⟨rfl, fun p hp => hb.1 p (by omega)⟩ ⟨hb.2.2.1, hb.2.2.2.1, hb.2.2.2.2, by rw [hb.2.1], fun a b _ => by rw [hb.2.1]⟩
theorem Tht.p (h : Tht c d S T v1 T1) : ∀ p : Nat, 5 ≤ p → d p = c p := h.2.2.2
theorem fresh_R (hT : Hold φR c (T1.2 []).1) : ∃ T2 : TF, fX6_fresh [] T1 = some ((), T2) ∧ T2.2 [] = T1.2 [] ∧ T2.1 [] = T1.1 [] ∧ T2.1 [8] = T1.1 [8] ∧ T2.2 [8] = T1.2 [8] ∧ Hold φR c (T2.2 [9]).1 ∧ T2.1 [9] = true := by
  have go : ∀ T3 : TF, T3.1 [9] = true → T3.2 [] = T1.2 [] → ∃ T2 : TF, fX6_fresh_18 [] T3 = some ((), T2) ∧ T2.2 [] = T1.2 [] ∧ T2.1 = T3.1 ∧ T2.2 [8] = T3.2 [8] ∧ Hold φR c (T2.2 [9]).1 := by
    intro T3 hf he
    unfold fX6_fresh_18
    rw [if_pos hf, he, okR_take hT, obind]
    dsimp only
    rw [snS_pr]
    have e1 : (wrT (wrT T3 [9] (prS (put φR c (T3.2 [9]).1, (T3.2 [9]).2) (T1.2 []))) [] (T1.2 [])).1 [9] = true := hf
    rw [if_pos e1]
    refine ⟨_, rfl, wrT_same, rfl, ?_, ?_⟩
    · rw [wrT_ne (by decide), wrT_ne (by decide)]
    · rw [wrT_ne (by decide), wrT_same]
      exact Hold_prS Hold_put
  unfold fX6_fresh fX6_fresh_0
  by_cases hf : T1.1 [9] = true
  · rw [if_pos hf]
    obtain ⟨T2, q1, q2, q3, q4, q5⟩ := go T1 hf rfl
    exact ⟨T2, q1, q2, by rw [q3], by rw [q3], q4, q5, by rw [q3]; exact hf⟩
  · rw [if_neg hf, if_pos (show [9] ∈ UF by decide)]
    obtain ⟨T2, q1, q2, q3, q4, q5⟩ := go (mkT T1 [9] S0R) mkT_at (show (if ([] : List Nat) = [9] then S0R else T1.2 []) = T1.2 [] from if_neg (by decide))
    refine ⟨T2, q1, q2, ?_, ?_, q4.trans (show (if ([8] : List Nat) = [9] then S0R else T1.2 [8]) = T1.2 [8] from if_neg (by decide)), q5, by rw [q3]; exact mkT_at⟩
    · rw [q3]; unfold mkT; simp
    · rw [q3]; unfold mkT; simp
/-- both begin a thought -/
theorem begin_both (h : RC c N t M L S T) (hb : Bas S T v T1) : ∃ (z : SS) (v1 : CN) (T2 : TF), fX0_takeFrom (selS (fun k => if k < 5 then 28 + k else 2 + (k - 5)) (v, w)) = some ((), z) ∧ mrgS (fun k => if k < 5 then 28 + k else 2 + (k - 5)) 10 (v, w) z = (v1, w) ∧ fX6_fresh [] T1 = some ((), T2) ∧ Tht c c S T v1 T2 := by
  have hc : Hold (atL 2 φC) c v := fun k j a b e => by
    have := hold_C2 h.2.2.1 k j a b e
    rw [hb.1 k (by
      unfold atL at e
      split at e
      · have : k - 2 < 5 := Nat.not_le.mp (fun z => by rw [φC_5 _ j z] at e; cases e)
        omega
      · cases e)]
    exact this
  have hT : Hold φR c (T1.2 []).1 := by rw [hb.2.1]; exact h.2.2.2.1
  obtain ⟨T2, q1, q2, q3, q4, q5, q6, _⟩ := fresh_R hT
  refine ⟨_, put (atL 28 φC) c v, T2, okM_take (Or.inr (by decide)) hc, mrg_take (Or.inr (by decide)), q1, ⟨fun p hp => ?_, q2.trans hb.2.1, q3.trans hb.2.2.1, q4.trans hb.2.2.2.1, q5.trans hb.2.2.2.2⟩, Hold_put, q6, fun _ _ => rfl⟩
  rw [← hb.1 p hp]
  funext j
  exact put_off (atL_off φC_5 p j (by omega))
/-- a second in thought -/
theorem pass_both (h : Tht c d S T v1 T1) (hd : OK d N t M L1) (hW : WI d) (hc : canA M a) : ∃ (z s : SS) (v2 : CN), fX0_pass (i32 a) (selS (fun k => 28 + k) (v1, w)) = some ((), z) ∧ mrgS (fun k => 28 + k) 5 (v1, w) z = (v2, w) ∧ fX6_goes (i32 a) (0 : Int32) (T1.2 [9]) = some ((), s) ∧ Tht c (mPass N t M a d) S T v2 (wrT T1 [9] s) := by
  have g := goes_hold (y := 0) h.2.2.1 hd hc hW.2.1
  unfold dropS at g
  rw [if_pos rfl] at g
  refine ⟨_, _, put (atL 28 φC) (mPass N t M a d) v1, ?_, mrg_C, g, ⟨fun p hp => ?_, ?_, h.1.2.2.1, h.1.2.2.2.1, ?_⟩, Hold_put, by rw [wrT_same]; exact Hold_put, fun p hp => by rw [mPass_p hp]; exact h.p p hp⟩
  · rw [sel_at h.2.1]
    exact okC_pass hd.1 hd.2.1.Nn hd.eat hc
  · rw [← h.1.1 p hp]
    funext j
    exact put_off (atL_off φC_5 p j (by omega))
  · rw [wrT_ne (by decide)]; exact h.1.2.1
  · rw [wrT_ne (by decide)]; exact h.1.2.2.2.2
theorem bel9 : ¬ bel [9] [] ∧ ¬ bel [9] [8] := ⟨fun h => absurd (bel_ne h) (by decide), fun h => absurd (bel_ne h) (by decide)⟩
/-- what a licker would do, in thought -/
theorem would_both (h : Tht c d S T v1 T1) (hd : OK d N t M L1) (hL : L1 + 4000 ≤ 1999000000) (hW : WI d) (hl : l < 4) (h7 : S.1 7 l = c 6 l) (h8 : S.1 8 l = c 7 l) : ∃ (v2 : CN) (T2 : TF), fX5_wouldIn28 (i32 l) (v1, w) = some (i32 (wouldL N t M l d), (v2, w)) ∧ fX6_wouldBe [9] (i32 l) T1 = some (i32 (wouldL N t M l d), T2) ∧ Tht c d S T v2 T2 := by
  obtain ⟨v2, q1, q2⟩ := okM_would28 (w := w) hl hd hL hW h.2.1 (by rw [h.1.1 7 (by decide), h7, h.p 6 (by decide)]) (by rw [h.1.1 8 (by decide), h8, h.p 7 (by decide)])
  obtain ⟨T2, r1, r2⟩ := okR_would okPP_tried h.2.2.1 hd hL hW hl
  refine ⟨v2, T2, q1, r1, ⟨fun p hp => (q2 p (by omega)).trans (h.1.1 p hp), ?_, ?_, ?_, ?_⟩, ?_, r2.hold h.2.2.1, h.p⟩
  · rw [(r2.2.1 [] bel9.1).2 (by decide)]; exact h.1.2.1
  · rw [(r2.2.1 [] bel9.1).1]; exact h.1.2.2.1
  · rw [(r2.2.1 [8] bel9.2).1]; exact h.1.2.2.2.1
  · rw [(r2.2.1 [8] bel9.2).2 (by decide)]; exact h.1.2.2.2.2
  · intro k j a b e
    have hk : k < 33 := Nat.not_le.mp (fun z => by rw [atL_off φC_5 k j (Or.inr (by omega))] at e; cases e)
    rw [q2 k (Or.inl hk)]
    exact h.2.1 k j a b e
theorem Tht.WI (h : Tht c d S T v1 T1) (hW : WI c) : WI d := hW.of h.p
theorem newT_0 : newT N t 0 = t := by unfold newT; rw [if_neg (by decide), if_neg (by decide)]
/-- seconds of act 0 -/
def idle (N t M : Nat) : Nat → CN → CN
  | 0, d => d
  | m + 1, d => idle N t M m (mPass N t M 0 d)
theorem idle_OK : ∀ (m : Nat) (d : CN) (L1 : Int), OK d N t M L1 → L1 + 1000 * m ≤ 1999000000 → OK (idle N t M m d) N t M (L1 + 1000 * m)
  | 0, d, L1 => fun h hL => by
    show OK d N t M (L1 + 1000 * (0 : Nat))
    rw [show L1 + 1000 * ((0 : Nat) : Int) = L1 by omega]
    exact h
  | m + 1, d, L1 => fun h hL => by
    have h1 := h.pass (a := 0) (by omega) canA_0
    rw [newT_0] at h1
    have := idle_OK m (mPass N t M 0 d) (L1 + 1000) h1 (by omega)
    rw [show L1 + 1000 * ((m + 1 : Nat) : Int) = L1 + 1000 + 1000 * (m : Int) by omega]
    exact this
theorem idle_p {p : Nat} (hp : 5 ≤ p) : ∀ (m : Nat) (d : CN), idle N t M m d p = d p
  | 0, _ => rfl
  | m + 1, d => (idle_p hp m (mPass N t M 0 d)).trans (mPass_p hp)
/-- the class idles -/
theorem okM_idling {n : Nat} (hn : n ≤ 200) : ∀ (m k f : Nat) (d : CN) (v1 : CN) (L1 : Int), k + m = n → m < f → OK d N t M L1 → L1 + 1000 * m ≤ 1999000000 → Hold (atL 28 φC) d v1 → ∃ v2 : CN, fX5_lostIdling_10 f (i32 n) x (i32 k) (v1, w) = some (idle N t M m d 0 8 - x, (v2, w)) ∧ Hold (atL 28 φC) (idle N t M m d) v2 ∧ ∀ p : Nat, p < 28 ∨ 33 ≤ p → v2 p = v1 p
  | m, k, 0, d, v1, L1 => fun _ h => absurd h (Nat.not_lt_zero _)
  | 0, k, f + 1, d, v1, L1 => fun hk _ hd hL hv => by
    have : k = n := by omega
    subst this
    have e8 : v1 28 8 = d 0 8 := hv 28 8 0 8 (atL_at 0 8)
    unfold fX5_lostIdling_10
    rw [if_pos (Int32.le_refl _)]
    exact ⟨v1, by rw [show (v1, w).1 28 8 = d 0 8 from e8]; rfl, hv, fun _ _ => rfl⟩
  | m + 1, k, f + 1, d, v1, L1 => fun hk hf hd hL hv => by
    unfold fX5_lostIdling_10
    have h1 := hd.pass (a := 0) (by omega) canA_0
    rw [newT_0] at h1
    have p1 := okC_pass (a := 0) (u := fun k => v1 (28 + k)) (w := fun k => w (28 + k)) hd.1 hd.2.1.Nn hd.eat canA_0
    have p1' : fX0_pass (0 : Int32) (put φC d (fun k => v1 (28 + k)), fun k => w (28 + k)) = some ((), (put φC (mPass N t M 0 d) (fun k => v1 (28 + k)), fun k => w (28 + k))) := p1
    rw [if_neg (fun z => absurd ((gle (a := n) (b := k) (by omega) (by omega)).mp z) (by omega)), sel_at hv, p1', obind]
    dsimp only
    rw [mrg_C, i32_succ]
    obtain ⟨v2, q1, q2, q3⟩ := okM_idling hn m (k + 1) f (mPass N t M 0 d) (put (atL 28 φC) (mPass N t M 0 d) v1) (L1 + 1000) (by omega) (by omega) h1 (by omega) Hold_put
    refine ⟨v2, q1, q2, fun p hp => ?_⟩
    rw [q3 p hp]
    funext j
    exact put_off (atL_off φC_5 p j (by omega))
/-- the reference idles -/
theorem okR_stands {n : Nat} {u : CN} (hn : n ≤ 200) : ∀ (m k f : Nat) (d : CN) (L1 : Int), k + m = n → m < f → OK d N t M L1 → L1 + 1000 * m ≤ 1999000000 → (∃ D : Nat, D ≤ 20 ∧ d 5 5 = i32 D) → fX6_stands_2 f (i32 n) (i32 k) (put φR d u, w) = some ((), (put φR (idle N t M m d) u, w))
  | m, k, 0, d, L1 => fun _ h => absurd h (Nat.not_lt_zero _)
  | 0, k, f + 1, d, L1 => fun hk _ hd hL _ => by
    have : k = n := by omega
    subst this
    unfold fX6_stands_2
    rw [if_pos (Int32.le_refl _)]
    rfl
  | m + 1, k, f + 1, d, L1 => fun hk hf hd hL hD => by
    unfold fX6_stands_2
    have h1 := hd.pass (a := 0) (by omega) canA_0
    rw [newT_0] at h1
    have g : fX6_goes (0 : Int32) (0 : Int32) (put φR d u, w) = some ((), (put φR (dropS 0 (d 0 8) (mPass N t M 0 d)) u, w)) := okR_goes (a := 0) hd.1 canA_0 hd.2.1 hD
    unfold dropS at g
    rw [if_pos rfl] at g
    rw [if_neg (fun z => absurd ((gle (a := n) (b := k) (by omega) (by omega)).mp z) (by omega)), g, obind]
    dsimp only
    rw [i32_succ]
    exact okR_stands hn m (k + 1) f (mPass N t M 0 d) (L1 + 1000) (by omega) (by omega) h1 (by omega) (by rw [mPass_p (Nat.le_refl 5)]; exact hD)
end THOUGHT
