/-! PURE MATHEMATICS, 23: the shelves' calls. -/
theorem of_le {x : Int32} {b : Nat} (hb : b ≤ 1000) (h : 0 ≤ x ∧ x ≤ i32 b) : ∃ n : Nat, n ≤ b ∧ x = i32 n := by
  have h1 := Int32.le_iff_toInt_le.mp h.1
  have h2 := Int32.le_iff_toInt_le.mp h.2
  rw [i32_toInt (by unfold B31; omega)] at h2
  obtain ⟨n, hn, e, et⟩ := of_nn h1
  exact ⟨n, by omega, e⟩
theorem of_lt {x : Int32} {b : Nat} (hb : b ≤ 1000) : (0 ≤ x ∧ x ≤ i32 b - 1) ↔ ∃ n : Nat, n < b ∧ x = i32 n := by
  have e : (i32 b - 1).toInt = (b : Int) - 1 := by
    have e1 : (1 : Int32).toInt = 1 := rfl
    have eb : (i32 b).toInt = b := i32_toInt (by unfold B31; omega)
    rw [toInt_sub' (by rw [eb, e1]; omega) (by rw [eb, e1]; omega), eb, e1]
  constructor
  · intro h
    have h1 := Int32.le_iff_toInt_le.mp h.1
    have h2 := Int32.le_iff_toInt_le.mp h.2
    rw [e] at h2
    obtain ⟨n, hn, en, et⟩ := of_nn h1
    exact ⟨n, by omega, en⟩
  · rintro ⟨n, hn, en⟩
    subst en
    refine ⟨i32_nn (by unfold B31; omega), Int32.le_iff_toInt_le.mpr ?_⟩
    rw [e, i32_toInt (by unfold B31; omega)]
    omega
theorem i10 : ((1 : Int32) = 0) = False := by decide
theorem in07 {x : Int32} {s : SS} : fX6_in x.toInt64 (0 : Int64) (7 : Int64) s = some (if 0 ≤ x ∧ x ≤ 7 then 1 else 0, s) := okR_in32 (by decide) (by decide)
theorem in04 {x : Int32} {s : SS} : fX6_in x.toInt64 (0 : Int64) (4 : Int64) s = some (if 0 ≤ x ∧ x ≤ 4 then 1 else 0, s) := okR_in32 (by decide) (by decide)
theorem in040 {x : Int32} {s : SS} : fX6_in x.toInt64 (0 : Int64) (40 : Int64) s = some (if 0 ≤ x ∧ x ≤ 40 then 1 else 0, s) := okR_in32 (by decide) (by decide)
theorem in0v {x v : Int32} {s : SS} : fX6_in x.toInt64 (0 : Int64) v.toInt64 s = some (if 0 ≤ x ∧ x ≤ v then 1 else 0, s) := okR_in32 (by decide) rfl
theorem okC_isShelf {x : Int32} {s : SS} : fX5_isShelf x s = some (if 0 ≤ x ∧ x ≤ 7 then 1 else 0, s) := by
  unfold fX5_isShelf fX5_isShelf_0
  rw [okC_within, obind]
  dsimp only
  rw [nbZ_b]
theorem iteB {α : Type} {p : Prop} {h : Decidable p} {a b : α} : (if (if p then (1 : Int32) else 0) = 0 then a else b) = if p then b else a := by
  by_cases q : p
  · rw [if_pos q, if_pos q, if_neg (by decide)]
  · rw [if_neg q, if_neg q, if_pos rfl]
theorem upd2_jne {α : Type} {S : Nat → Nat → α} {k i a b : Nat} {v : α} (h : b ≠ i) : upd2 S k i v a b = S a b := by
  by_cases z : a = k
  · subst z; rw [upd2_same, if_neg h]
  · rw [upd2_ne z]
theorem ite10 {p : Prop} {h : Decidable p} : ((if p then (1 : Int32) else 0) = 0) ↔ ¬ p := by
  by_cases q : p
  · rw [if_pos q]; exact ⟨fun z => absurd z (by decide), fun z => absurd q z⟩
  · rw [if_neg q]; exact ⟨fun _ => q, fun _ => rfl⟩
section SHELF
variable {L : Int} {S S' : SS} {T : TF} {s' : SS} {q : Nat} {x y z : Int32}
theorem mrg_sel {π : Nat → Nat} {n : Nat} (h : injN π n) {S : SS} : mrgS π n S (selS π S) = S := Prod.ext (mrg_id h) (mrg_id h)
theorem mrg2 {A : Nat} {S s : SS} : (∀ p : Nat, p ≠ A → p ≠ A + 1 → (mrgS (fun k => A + k) 2 S s).1 p = S.1 p ∧ (mrgS (fun k => A + k) 2 S s).2 p = S.2 p) ∧ ((mrgS (fun k => A + k) 2 S s).1 A = s.1 0 ∧ (mrgS (fun k => A + k) 2 S s).1 (A + 1) = s.1 1) ∧ ((mrgS (fun k => A + k) 2 S s).2 A = s.2 0 ∧ (mrgS (fun k => A + k) 2 S s).2 (A + 1) = s.2 1) := by
  unfold mrgS
  dsimp only [mrg]
  refine ⟨fun p h0 h1 => ⟨?_, ?_⟩, ⟨?_, ?_⟩, ?_, ?_⟩
  · rw [if_neg h1, if_neg (by omega)]
  · rw [if_neg h1, if_neg (by omega)]
  · rw [if_neg (by omega)]; exact if_pos rfl
  · exact if_pos rfl
  · rw [if_neg (by omega)]; exact if_pos rfl
  · exact if_pos rfl
/-- one shelf has changed -/
theorem RR.shelf (h : RR L S T) (hq : q < 8) (e1 : ∀ p : Nat, p ≠ 61 + 2 * q → p ≠ 61 + 2 * q + 1 → S'.1 p = S.1 p ∧ S'.2 p = S.2 p) (e2 : ∀ a b : Nat, relT a b → (a ≠ 1 ∧ a ≠ 2 ∧ a ≠ 3 ∧ a ≠ 14) ∨ b ≠ q → s'.1 a b = (T.2 []).1 a b) (e3 : ∀ x : Nat, x < 8 → x ≠ q → s'.2 (5 + x) = (T.2 []).2 (5 + x)) (e4 : ∀ (c : CN) (N t M : Nat), RC c N t M L S T → SHr (lk c) S' s' q) : RR L S' (wrT T [] s') := by
  obtain ⟨h0, c, N, t, M, h⟩ := h
  have hsh := e4 c N t M h
  obtain ⟨h1, hW, h3, h4, h5, h7, h8, h9⟩ := h
  have nφ : ∀ a b : Nat, a = 1 ∨ a = 2 ∨ a = 3 ∨ a = 14 → φR a b = none := fun a b e => by
    unfold φR φR1
    rw [if_neg (by omega)]
    repeat rw [if_neg (by omega)]
  refine ⟨h0, c, N, t, M, h1, hW, h3.same (fun p p1 p2 => (e1 p (by omega) (by omega)).1), fun a b u v e => ?_, ?_, fun x hx => ?_, ?_, fun j j1 j2 => ?_⟩
  · have hne : a ≠ 1 ∧ a ≠ 2 ∧ a ≠ 3 ∧ a ≠ 14 := by
      refine ⟨?_, ?_, ?_, ?_⟩ <;> intro z <;> rw [nφ a b (by omega)] at e <;> cases e
    rw [wrT_same, e2 a b (φR_rel e) (Or.inl hne)]
    exact h4 a b u v e
  · unfold KR at h5 ⊢
    rw [(e1 0 (by omega) (by omega)).1, wrT_ne (show ([8] : List Nat) ≠ [] by decide)]
    rcases h5 with h | ⟨ha, hc, ck, N1, t1, M1, k1, k2, k3, k4⟩
    · exact Or.inl h
    · exact Or.inr ⟨ha, hc, ck, N1, t1, M1, k1, k2, k3.same (fun p p1 p2 => (e1 p (by omega) (by omega)).1), k4⟩
  · rw [wrT_same]
    by_cases hxq : x = q
    · subst hxq; exact hsh
    · have := h7 x hx
      unfold SHr at this ⊢
      rw [(e1 (61 + 2 * x) (by omega) (by omega)).1, (e1 (61 + 2 * x + 1) (by omega) (by omega)).2, e3 x hx hxq, e2 1 x ⟨fun z => by omega, by decide⟩ (Or.inr hxq), e2 2 x ⟨fun z => by omega, by decide⟩ (Or.inr hxq), e2 3 x ⟨fun z => by omega, by decide⟩ (Or.inr hxq), e2 14 x ⟨fun z => by omega, by decide⟩ (Or.inr hxq)]
      exact this
  · unfold TPr at h8 ⊢
    rw [wrT_same, (e1 58 (by omega) (by omega)).1, (e1 59 (by omega) (by omega)).1, e2 0 7 ⟨fun _ => by decide, by decide⟩ (Or.inl (by decide))]
    exact ⟨h8.1, fun j hj => by rw [e2 15 j ⟨fun z => by omega, by decide⟩ (Or.inl (by decide))]; exact h8.2 j hj⟩
  · rw [wrT_same, (e1 60 (by omega) (by omega)).1, e2 16 j ⟨fun z => by omega, by decide⟩ (Or.inl (by decide))]
    exact h9 j j1 j2
/-- the shelf's own new row -/
theorem okS_row12 {s : SS} : ∀ (m k f : Nat) (s : SS), k + m = 40 → m < f → ∃ s2 : SS, fX3_holdRow_12 f (i32 k) s = some ((), s2) ∧ s2.1 = s.1 ∧ s2.2 0 = s.2 0 ∧ (∀ j : Nat, j < k → s2.2 1 j = s.2 1 j) ∧ ∀ j : Nat, k ≤ j → j < 40 → s2.2 1 j = 0
  | m, k, 0, s => fun _ h => absurd h (Nat.not_lt_zero _)
  | 0, k, f + 1, s => fun hk _ => by
    have : k = 40 := by omega
    subst this
    unfold fX3_holdRow_12
    rw [if_pos (show (40 : Int32) ≤ i32 40 by decide)]
    exact ⟨s, rfl, rfl, rfl, fun _ _ => rfl, fun j h1 h2 => by omega⟩
  | m + 1, k, f + 1, s => fun hk hf => by
    unfold fX3_holdRow_12
    rw [if_neg (fun z => absurd ((l_le (n := 40) (by unfold B31; omega) (by decide)).mp z) (by omega)), if_pos (gix (by omega) (by decide)), gnat (by omega), i32_succ]
    obtain ⟨s2, q1, q2, q3, q4, q5⟩ := okS_row12 (s := s) m (k + 1) f (wrL s 1 k 0) (by omega) (by omega)
    refine ⟨s2, q1, q2, q3.trans (by show upd2 s.2 1 k 0 0 = s.2 0; exact upd2_ne (by decide)), fun j hj => ?_, fun j h1 h2 => ?_⟩
    · rw [q4 j (by omega)]
      show upd2 s.2 1 k 0 1 j = _
      rw [upd2_same, if_neg (by omega)]
    · by_cases z : j = k
      · subst z
        rw [q4 j (by omega)]
        show upd2 s.2 1 j 0 1 j = _
        rw [upd2_same, if_pos rfl]
      · exact q5 j (by omega) h2
theorem okR_row67 (hq : q < 8) : ∀ (m k f : Nat) (s : SS), k + m = 40 → m < f → ∃ s2 : SS, fX6_row_67 f (i32 q) (i32 k) s = some (1, s2) ∧ s2.1 = s.1 ∧ (∀ p : Nat, p ≠ 5 + q → s2.2 p = s.2 p) ∧ (∀ j : Nat, j < k → s2.2 (5 + q) j = s.2 (5 + q) j) ∧ ∀ j : Nat, k ≤ j → j < 40 → s2.2 (5 + q) j = 0
  | m, k, 0, s => fun _ h => absurd h (Nat.not_lt_zero _)
  | 0, k, f + 1, s => fun hk _ => by
    have : k = 40 := by omega
    subst this
    unfold fX6_row_67
    rw [if_pos (show (40 : Int32) ≤ i32 40 by decide)]
    exact ⟨s, rfl, rfl, fun _ _ => rfl, fun _ _ => rfl, fun j h1 h2 => by omega⟩
  | m + 1, k, f + 1, s => fun hk hf => by
    unfold fX6_row_67
    rw [if_neg (fun z => absurd ((l_le (n := 40) (by unfold B31; omega) (by decide)).mp z) (by omega)), if_pos (gix hq (by decide)), if_pos (gix (show k < 40 by omega) (by decide)), gnat (show q ≤ 1000 by omega), gnat (show k ≤ 1000 by omega), i32_succ]
    obtain ⟨s2, q1, q2, q3, q4, q5⟩ := okR_row67 hq m (k + 1) f (wrL s (5 + q) k 0) (by omega) (by omega)
    refine ⟨s2, q1, q2, fun p hp => (q3 p hp).trans (by show upd2 s.2 (5 + q) k 0 p = s.2 p; exact upd2_ne hp), fun j hj => ?_, fun j h1 h2 => ?_⟩
    · rw [q4 j (by omega)]
      show upd2 s.2 (5 + q) k 0 (5 + q) j = _
      rw [upd2_same, if_neg (by omega)]
    · by_cases z : j = k
      · subst z
        rw [q4 j (by omega)]
        show upd2 s.2 (5 + q) j 0 (5 + q) j = _
        rw [upd2_same, if_pos rfl]
      · exact q5 j (by omega) h2
theorem both_row (h : RR L S T) : Both L (fX5_row x y z S) (fX6_row x y z (T.2 [])) T := by
  have bad := Both.refuse (a := 2) (f := (fX5_refuse (-2 : Int32) S).bind fun z => some (z.1, z.2)) (g := (fX6_refuse (-2 : Int32) (T.2 [])).bind fun z => some (z.1, z.2)) h (by decide) (by decide) rfl rfl
  unfold fX5_row fX5_row_0 fX5_row_26 fX6_row fX6_row_0 fX6_row_36
  simp only [okC_isShelf, okC_within, in07, in04, in040, obind, iteB]
  by_cases h1 : 0 ≤ x ∧ x ≤ 7
  · obtain ⟨q, hq, e⟩ := of_le (b := 7) (by decide) h1
    subst e
    have hq8 : q < 8 := by omega
    by_cases h2 : 0 ≤ y ∧ y ≤ 4
    · obtain ⟨o, ho, e⟩ := of_le (b := 4) (by decide) h2
      subst e
      by_cases h3 : 0 ≤ z ∧ z ≤ 40
      · obtain ⟨n, hn, e⟩ := of_le (b := 40) (by decide) h3
        subst e
        simp only [if_pos h1, if_pos h2, if_pos h3, if_pos (gix hq8 (show 8 ≤ 1000 by decide)), gnat (show q ≤ 1000 by omega)]
        obtain ⟨s2, p1, p2, p3, p4, p5⟩ := okS_row12 (s := S) 40 0 FU (wrI (wrI (selS (fun k => 61 + 2 * q + k) S) 0 0 (i32 o)) 0 1 (i32 n)) (by decide) (by decide)
        obtain ⟨s3, r1, r2, r3, r4, r5⟩ := okR_row67 hq8 40 0 FU (wrI (wrI (wrI (T.2 []) 1 q 1) 2 q (i32 o)) 3 q (i32 n)) (by decide) (by decide)
        have p1' : fX3_holdRow (i32 o) (i32 n) (selS (fun k => 61 + 2 * q + k) S) = some ((), s2) := p1
        have mg := mrg2 (A := 61 + 2 * q) (S := S) (s := s2)
        refine Both.of (S' := mrgS (fun k => 61 + 2 * q + k) 2 S s2) (s' := s3) (r := 1) ?_ r1 ?_
        · rw [p1', obind]
        · refine h.shelf hq8 mg.1 (fun a b _ hab => ?_) (fun x _ hx => r3 _ (by omega)) (fun c N t M _ => Or.inr (Or.inl ⟨o, n, ho, hn, ?_, ?_, ?_, ?_, ?_, fun j hj => ?_⟩))
          · rw [r2]
            unfold wrI
            dsimp only
            rcases hab with hab | hab
            · rw [upd2_ne hab.2.2.1, upd2_ne hab.2.1, upd2_ne hab.1]
            · rw [upd2_jne hab, upd2_jne hab, upd2_jne hab]
          · rw [mg.2.1.1, p2]; rfl
          · rw [mg.2.1.1, p2]; rfl
          · rw [r2]
            show upd2 (upd2 (upd2 (T.2 []).1 1 q 1) 2 q (i32 o)) 3 q (i32 n) 1 q = 1
            rw [upd2_ne (by decide), upd2_ne (by decide), upd2_same, if_pos rfl]
          · rw [r2]
            show upd2 (upd2 (upd2 (T.2 []).1 1 q 1) 2 q (i32 o)) 3 q (i32 n) 2 q = i32 o
            rw [upd2_ne (by decide), upd2_same, if_pos rfl]
          · rw [r2]
            show upd2 (upd2 (upd2 (T.2 []).1 1 q 1) 2 q (i32 o)) 3 q (i32 n) 3 q = i32 n
            rw [upd2_same, if_pos rfl]
          · rw [mg.2.2.2, p5 j (Nat.zero_le _) hj, r5 j (Nat.zero_le _) hj]
      · simp only [if_pos h1, if_pos h2, if_neg h3]
        exact bad
    · simp only [if_pos h1, if_neg h2]
      exact bad
  · simp only [if_neg h1]
    exact bad
end SHELF
