/-! PURE MATHEMATICS, 40: order, its end. -/
section ORDER
variable {c d : CN} {N t M a l : Nat} {L L1 : Int} {v v1 : CN} {w : Nat → Nat → Int64} {S : SS} {T T1 : TF} {x y : Int32} {π : Nat → Nat}
/-- both have the same order so far -/
def SamO (M : Nat) (p : Nat × Int32) (st : OS) : Prop := p.2 = st.1 ∧ st.1 ≠ -1 ∧ ∀ k : Nat, k < M → ordN p.1 k = st.2 k
theorem SamO.step {V : (Nat → Nat) → Int32} {p : Nat × Int32} {st : OS} {o : Nat} (h : SamO M p st) (hV : V π = V (ordN o)) (hne : V (ordN o) ≠ -1) (hπ : ∀ k : Nat, k < M → π k = ordN o k) : SamO M (if p.2 ≤ V (ordN o) then p else (o, V (ordN o))) (leafS V π st) := by
  unfold leafS
  rw [hV]
  by_cases z : p.2 ≤ V (ordN o)
  · rw [if_pos z, if_neg (by
      intro q
      rcases q with q | q
      · exact h.2.1 q
      · rw [← h.1] at q
        exact absurd z (Int32.not_le.mpr q))]
    exact h
  · rw [if_neg z, if_pos (Or.inr (by rw [← h.1]; exact Int32.not_le.mp z))]
    exact ⟨rfl, hne, fun k hk => (hπ k hk).symm⟩
theorem SamO.first {V : (Nat → Nat) → Int32} {st : OS} (h : st.1 = -1) (hV : V π = V (ordN 0)) (hne : V (ordN 0) ≠ -1) (hπ : ∀ k : Nat, k < M → π k = ordN 0 k) : SamO M (0, V (ordN 0)) (leafS V π st) := by
  unfold leafS
  rw [if_pos (Or.inl h), hV]
  exact ⟨rfl, hne, fun k hk => (hπ k hk).symm⟩
theorem orders_same {V : (Nat → Nat) → Int32} (hM : M ≤ 3) (hV : ∀ π π' : Nat → Nat, (∀ k : Nat, k < M → π k = π' k) → V π = V π') (hne : ∀ o : Nat, o < 6 → V (ordN o) ≠ -1) (π0 : Nat → Nat) : SamO M (clsS V M 6 0 (0, 0)) (seekA V M M 0 0 π0 (-1, π0)) := by
  have e : M = 0 ∨ M = 1 ∨ M = 2 ∨ M = 3 := by omega
  rcases e with e | e | e | e <;> subst e
  · have h1 : clsS V 0 6 0 (0, 0) = (0, V (ordN 0)) := by simp (decide := true) only [clsS, if_true, if_false]
    have h2 : seekA V 0 0 0 0 π0 (-1, π0) = leafS V π0 (-1, π0) := rfl
    rw [h1, h2]
    exact SamO.first rfl (hV _ _ (fun k hk => by omega)) (hne 0 (by decide)) (fun k hk => by omega)
  · have h1 : clsS V 1 6 0 (0, 0) = (0, V (ordN 0)) := by simp (decide := true) only [clsS, if_true, if_false]
    have h2 : seekA V 1 1 0 0 π0 (-1, π0) = leafS V (updP π0 0 0) (-1, π0) := by simp (decide := true) only [seekA, seekB, if_true, if_false]
    rw [h1, h2]
    have hp : ∀ k : Nat, k < 1 → updP π0 0 0 k = ordN 0 k := fun k hk => by rw [show k = 0 by omega]; rfl
    exact SamO.first rfl (hV _ _ hp) (hne 0 (by decide)) hp
  · have h1 : clsS V 2 6 0 (0, 0) = (if (0, V (ordN 0)).2 ≤ V (ordN 2) then (0, V (ordN 0)) else (2, V (ordN 2))) := by simp (decide := true) only [clsS, if_true, if_false]
    have h2 : seekA V 2 2 0 0 π0 (-1, π0) = leafS V (updP (updP π0 0 1) 1 0) (leafS V (updP (updP π0 0 0) 1 1) (-1, π0)) := by simp (decide := true) only [seekA, seekB, if_true, if_false]
    rw [h1, h2]
    have p0 : ∀ k : Nat, k < 2 → updP (updP π0 0 0) 1 1 k = ordN 0 k := fun k hk => by
      have : k = 0 ∨ k = 1 := by omega
      rcases this with e | e <;> subst e <;> rfl
    have p2 : ∀ k : Nat, k < 2 → updP (updP π0 0 1) 1 0 k = ordN 2 k := fun k hk => by
      have : k = 0 ∨ k = 1 := by omega
      rcases this with e | e <;> subst e <;> rfl
    exact (SamO.first rfl (hV _ _ p0) (hne 0 (by decide)) p0).step (hV _ _ p2) (hne 2 (by decide)) p2
  · have hp : ∀ (o a b c : Nat), ordN o 0 = a → ordN o 1 = b → ordN o 2 = c → ∀ k : Nat, k < 3 → updP (updP (updP π0 0 a) 1 b) 2 c k = ordN o k := by
      intro o a b c h0 h1 h2 k hk
      have : k = 0 ∨ k = 1 ∨ k = 2 := by omega
      rcases this with e | e | e <;> subst e
      · rw [h0]; rfl
      · rw [h1]; rfl
      · rw [h2]; rfl
    have h2 : seekA V 3 3 0 0 π0 (-1, π0) = leafS V (updP (updP (updP π0 0 2) 1 1) 2 0) (leafS V (updP (updP (updP π0 0 2) 1 0) 2 1) (leafS V (updP (updP (updP π0 0 1) 1 2) 2 0) (leafS V (updP (updP (updP π0 0 1) 1 0) 2 2) (leafS V (updP (updP (updP π0 0 0) 1 2) 2 1) (leafS V (updP (updP (updP π0 0 0) 1 1) 2 2) (-1, π0)))))) := by simp (decide := true) only [seekA, seekB, if_true, if_false]
    have s0 := SamO.first (M := 3) (V := V) (st := (-1, π0)) rfl (hV _ _ (hp 0 0 1 2 rfl rfl rfl)) (hne 0 (by decide)) (hp 0 0 1 2 rfl rfl rfl)
    have s1 := s0.step (o := 1) (hV _ _ (hp 1 0 2 1 rfl rfl rfl)) (hne 1 (by decide)) (hp 1 0 2 1 rfl rfl rfl)
    have s2 := s1.step (o := 2) (hV _ _ (hp 2 1 0 2 rfl rfl rfl)) (hne 2 (by decide)) (hp 2 1 0 2 rfl rfl rfl)
    have s3 := s2.step (o := 3) (hV _ _ (hp 3 1 2 0 rfl rfl rfl)) (hne 3 (by decide)) (hp 3 1 2 0 rfl rfl rfl)
    have s4 := s3.step (o := 4) (hV _ _ (hp 4 2 0 1 rfl rfl rfl)) (hne 4 (by decide)) (hp 4 2 0 1 rfl rfl rfl)
    have s5 := s4.step (o := 5) (hV _ _ (hp 5 2 1 0 rfl rfl rfl)) (hne 5 (by decide)) (hp 5 2 1 0 rfl rfl rfl)
    rw [h2]
    have h1 : clsS V 3 6 0 (0, 0) = clsS V 3 5 1 (0, V (ordN 0)) := by rw [clsS, if_neg (by decide), if_pos rfl]
    rw [h1]
    have hs : ∀ (m o : Nat) (st : Nat × Int32), o ≠ 0 → hasL o 0 3 ≠ 0 → clsS V 3 (m + 1) o st = clsS V 3 m (o + 1) (if st.2 ≤ V (ordN o) then st else (o, V (ordN o))) := fun m o st h0 h1 => by
      rw [clsS, if_neg h1, if_neg h0]
    rw [hs 4 1 _ (by decide) (by decide), hs 3 2 _ (by decide) (by decide), hs 2 3 _ (by decide) (by decide), hs 1 4 _ (by decide) (by decide), hs 0 5 _ (by decide) (by decide)]
    exact s5
theorem both_order (h : RR L S T) (hL : L + 300000 ≤ 1999000000) : BothT L (fX5_order x y S) (fX6_order [] x y T) := by
  have hh := h
  have bad2 := bad_T (a := 2) h (by decide) (by decide)
  have bad5 := bad_T (a := 5) h (by decide) (by decide)
  obtain ⟨h0, c, N, t, M, h⟩ := h
  have hM := h.1.1.m3
  have hc := h.cells
  unfold fX5_order fX5_order_0 fX5_order_12 fX6_order fX6_order_0 fX6_order_17
  simp only [okC_isSpan, in0200, obind, iteB, hc.2.2.1, hc.2.2.2.2.2]
  by_cases h1 : 0 ≤ x ∧ x ≤ 200
  · obtain ⟨n, hn, e⟩ := of_le (b := 200) (by decide) h1
    subst e
    simp only [if_pos h1]
    by_cases h2 : -1 ≤ y
    · simp only [if_pos h2]
      by_cases h3 : y < i32 M
      · simp only [if_pos h3]
        obtain ⟨v2, q1, q2, q3⟩ := order_loop (x := y) (n := n) h hL hn 6 0 FU 0 0 S.1 (by decide) (by decide) (by decide) Bas.rf
        have hT0 : SameT T (wTI T [] 0 44 (-1)) := ⟨rfl, rfl, by rw [wrT_ne (by decide)], by rw [wrT_same]; rfl, fun a b hab => by
          rw [rd_wr, if_neg (fun z => by have := hab.1 z.1; omega)]⟩
        obtain ⟨T2, p1, p2, p3, p4⟩ := seek_ok (n := n) h hL hn M 5 (by omega) hM 0 0 (fun _ => 0) (-1, fun _ => 0) (wTI T [] 0 44 (-1)) (by omega) (by decide) (fun k hk => by omega) hT0 (fun k hk => by omega) ⟨by rw [rd_wr, if_pos ⟨rfl, rfl⟩], fun q => absurd rfl q⟩
        have p1' : fX6_seekOrder [] (0 : Int32) (0 : Int32) (i32 n) (wTI T [] 0 44 (-1 : Int32)) = some ((), T2) := p1
        have q1' : fX5_order_48 FU (i32 n) y (0 : Int32) (0 : Int32) (0 : Int32) S = (if y = (-1 : Int32) then (some ((clsS (ordV N t M n c) M 6 0 (0, 0)).2, (v2, S.2))) else (((fX0_scoopInOrder (i32 (clsS (ordV N t M n c) M 6 0 (0, 0)).1) y (v2, S.2)).bind fun z3 => some (z3.1, (v2, S.2))))) := q1
        have sam := orders_same (M := M) (V := ordV N t M n c) hM (fun π π' hp => by unfold ordV; rw [ordP_congr hp]) (fun o ho => ordV_ne h.1 hL hn (fun k hk => ordN_lt ho (by omega))) (fun _ => 0)
        have fin : RR L (v2, S.2) T2 := hh.same ⟨rfl, fun p hp => q2.1 p (by omega)⟩ p2
        rw [q1', p1', obind]
        dsimp only
        by_cases y1 : y = -1
        · rw [if_pos y1, if_pos y1, p4.1, ← sam.1]
          exact ⟨_, _, _, rfl, rfl, fin⟩
        · rw [if_neg y1, if_neg y1]
          have t1 := Int32.le_iff_toInt_le.mp h2
          have t2 := Int32.lt_iff_toInt_lt.mp h3
          rw [i32_toInt (by unfold B31; omega)] at t2
          have em : (-1 : Int32).toInt = -1 := rfl
          rw [em] at t1
          have t3 : y.toInt ≠ -1 := fun z => y1 (Int32.toInt_inj.mp (by rw [z]; rfl))
          obtain ⟨j, hj, e, et⟩ := of_nn (x := y) (by omega)
          subst e
          have hj3 : j < 3 := by omega
          have hjM : j < M := by omega
          rw [okC_sio q3 hj3, obind, if_pos (gix hj3 (by decide)), gnat (by omega), p4.2 sam.2.1 j hjM, ← sam.2.2 j hjM]
          exact ⟨_, _, _, rfl, rfl, fin⟩
      · simp only [if_neg h3]
        exact bad5
    · simp only [if_neg h2]
      exact bad2
  · simp only [if_neg h1]
    exact bad2
end ORDER
