/-! PURE MATHEMATICS, 22: what holds of both objects between calls. -/
/-- the lickers there are -/
abbrev lk (c : CN) : Nat := (c 5 3).toNatClampNeg
/-- a shelf of the class and one of the reference -/
def SHr (n : Nat) (S s : SS) (q : Nat) : Prop :=
  (S.1 (61 + 2 * q) 0 = -1 ∧ s.1 1 q = 0) ∨
  (∃ o m : Nat, o ≤ 4 ∧ m ≤ 40 ∧ S.1 (61 + 2 * q) 0 = i32 o ∧ S.1 (61 + 2 * q) 1 = i32 m ∧ s.1 1 q = 1 ∧ s.1 2 q = i32 o ∧ s.1 3 q = i32 m ∧ ∀ j : Nat, j < 40 → S.2 (61 + 2 * q + 1) j = s.2 (5 + q) j) ∨
  (∃ l : Nat, l < n ∧ l < 4 ∧ S.1 (61 + 2 * q) 0 = i32 (10 + l) ∧ s.1 1 q = 2 ∧ s.1 14 q = i32 l)
def KR (L : Int) (S : SS) (T : TF) : Prop := (S.1 0 8 = 0 ∧ T.1 [8] = false) ∨ (¬ S.1 0 8 = 0 ∧ T.1 [8] = true ∧ ∃ (ck : CN) (N t M : Nat), OK ck N t M L ∧ WI ck ∧ Hold (atL 10 φW) ck S.1 ∧ Hold φR ck (T.2 [8]).1)
def TPr (S s : SS) : Prop := (∃ n : Nat, n ≤ 250 ∧ S.1 58 1 = i32 n ∧ s.1 0 7 = i32 n) ∧ ∀ j : Nat, j < 250 → S.1 59 j = s.1 15 j
def RFr (S s : SS) : Prop := ∀ j : Nat, 2 ≤ j → j ≤ 6 → S.1 60 j = s.1 16 j
def RC (c : CN) (N t M : Nat) (L : Int) (S : SS) (T : TF) : Prop := OK c N t M L ∧ WI c ∧ Hold (atL 1 φW) c S.1 ∧ Hold φR c (T.2 []).1 ∧ KR L S T ∧ (∀ q : Nat, q < 8 → SHr (lk c) S (T.2 []) q) ∧ TPr S (T.2 []) ∧ RFr S (T.2 [])
def RR (L : Int) (S : SS) (T : TF) : Prop := T.1 [] = true ∧ ∃ (c : CN) (N t M : Nat), RC c N t M L S T
def SameS (S S' : SS) : Prop := S'.2 = S.2 ∧ ∀ p : Nat, p < 19 ∨ 57 < p → S'.1 p = S.1 p
/-- the cells of the main object that later calls look at -/
def relT (a b : Nat) : Prop := (a = 0 → b < 31) ∧ a < 29
def SameT (T T' : TF) : Prop := T'.1 [] = T.1 [] ∧ T'.1 [8] = T.1 [8] ∧ T'.2 [8] = T.2 [8] ∧ (T'.2 []).2 = (T.2 []).2 ∧ ∀ a b : Nat, relT a b → (T'.2 []).1 a b = (T.2 []).1 a b
theorem SameS.rf {S : SS} : SameS S S := ⟨rfl, fun _ _ => rfl⟩
theorem SameS.tr {a b c : SS} (h : SameS a b) (k : SameS b c) : SameS a c := ⟨k.1.trans h.1, fun p hp => (k.2 p hp).trans (h.2 p hp)⟩
theorem SameT.rf {T : TF} : SameT T T := ⟨rfl, rfl, rfl, rfl, fun _ _ _ => rfl⟩
theorem SameT.tr {a b c : TF} (h : SameT a b) (k : SameT b c) : SameT a c := ⟨k.1.trans h.1, k.2.1.trans h.2.1, k.2.2.1.trans h.2.2.1, k.2.2.2.1.trans h.2.2.2.1, fun x y z => (k.2.2.2.2 x y z).trans (h.2.2.2.2 x y z)⟩
theorem φR_rel {a b : Nat} {q : Nat × Nat} (h : φR a b = some q) : relT a b := by
  refine ⟨fun z => Nat.not_le.mp (fun y => ?_), Nat.not_le.mp (fun y => ?_)⟩
  · subst z
    unfold φR φR0 at h
    rw [if_pos rfl] at h
    repeat rw [if_neg (by omega)] at h
    cases h
  · unfold φR φR1 at h
    rw [if_neg (by omega)] at h
    repeat rw [if_neg (by omega)] at h
    cases h
section REL
variable {c d : CN} {N t M : Nat} {L L' : Int} {S S' : SS} {T T' : TF}
theorem OK.mono (h : OK c N t M L) (hL : L ≤ L') (hb : L' ≤ 1999000000) : OK c N t M L' := ⟨h.1, h.2.1, h.2.2.1.mono hL, hb⟩
theorem atW_off {A p j : Nat} (h : p < A ∨ A + 9 ≤ p) : atL A φW p j = none := atL_off φW_9 p j h
theorem Hold.same {A : Nat} {v v' : CN} (h : Hold (atL A φW) c v) (e : ∀ p : Nat, A ≤ p → p < A + 9 → v' p = v p) : Hold (atL A φW) c v' := fun k j a b q => by
  have hk : ¬ (k < A ∨ A + 9 ≤ k) := fun z => by rw [atW_off z] at q; cases q
  rw [e k (by omega) (by omega)]
  exact h k j a b q
theorem Hold.sameR {s s' : SS} (h : Hold φR c s.1) (e : ∀ a b : Nat, relT a b → s'.1 a b = s.1 a b) : Hold φR c s'.1 := fun k j a b q => by
  rw [e k j (φR_rel q)]
  exact h k j a b q
theorem SHr.same {n n' : Nat} {S S' s s' : SS} {q : Nat} (h : SHr n S s q) (hn : n ≤ n') (e1 : ∀ p : Nat, 61 ≤ p → S'.1 p = S.1 p) (e2 : S'.2 = S.2) (e3 : ∀ a b : Nat, relT a b → s'.1 a b = s.1 a b) (e4 : s'.2 = s.2) : SHr n' S' s' q := by
  unfold SHr at h ⊢
  rw [e1 _ (show 61 ≤ 61 + 2 * q by omega), e2, e4, e3 1 q ⟨fun z => by omega, by decide⟩, e3 2 q ⟨fun z => by omega, by decide⟩, e3 3 q ⟨fun z => by omega, by decide⟩, e3 14 q ⟨fun z => by omega, by decide⟩]
  rcases h with h | h | ⟨l, h⟩
  · exact Or.inl h
  · exact Or.inr (Or.inl h)
  · exact Or.inr (Or.inr ⟨l, by omega, h.2⟩)
theorem RC.same (h : RC c N t M L S T) (hS : SameS S S') (hT : SameT T T') : RC c N t M L S' T' := by
  obtain ⟨h1, h2, h3, h4, h5, h6, h7, h8⟩ := h
  refine ⟨h1, h2, h3.same (fun p p1 p2 => hS.2 p (by omega)), h4.sameR hT.2.2.2.2, ?_, fun q hq => (h6 q hq).same (Nat.le_refl _) (fun p hp => hS.2 p (by omega)) hS.1 hT.2.2.2.2 hT.2.2.2.1, ?_, ?_⟩
  · unfold KR at h5 ⊢
    rw [hS.2 0 (by decide), hT.2.1, hT.2.2.1]
    rcases h5 with h | ⟨ha, hb, ck, N', t', M', k1, k2, k3, k4⟩
    · exact Or.inl h
    · exact Or.inr ⟨ha, hb, ck, N', t', M', k1, k2, k3.same (fun p p1 p2 => hS.2 p (by omega)), k4⟩
  · unfold TPr at h7 ⊢
    rw [hS.2 58 (by decide), hS.2 59 (by decide), hT.2.2.2.2 0 7 ⟨fun _ => by decide, by decide⟩]
    exact ⟨h7.1, fun j hj => by rw [hT.2.2.2.2 15 j ⟨fun z => by omega, by decide⟩]; exact h7.2 j hj⟩
  · intro j j1 j2
    rw [hS.2 60 (by decide), hT.2.2.2.2 16 j ⟨fun z => by omega, by decide⟩]
    exact h8 j j1 j2
theorem RR.same (h : RR L S T) (hS : SameS S S') (hT : SameT T T') : RR L S' T' := by
  obtain ⟨h0, c, N, t, M, h⟩ := h
  exact ⟨hT.1.trans h0, c, N, t, M, h.same hS hT⟩
theorem KR.mono (h : KR L S T) (hL : L ≤ L') (hb : L' ≤ 1999000000) : KR L' S T := by
  rcases h with h | ⟨ha, hc, ck, N, t, M, k1, k2⟩
  · exact Or.inl h
  · exact Or.inr ⟨ha, hc, ck, N, t, M, k1.mono hL hb, k2⟩
theorem RC.mono (h : RC c N t M L S T) (hL : L ≤ L') (hb : L' ≤ 1999000000) : RC c N t M L' S T := ⟨h.1.mono hL hb, h.2.1, h.2.2.1, h.2.2.2.1, h.2.2.2.2.1.mono hL hb, h.2.2.2.2.2⟩
theorem RR.mono (h : RR L S T) (hL : L ≤ L') (hb : L' ≤ 1999000000) : RR L' S T := by
  obtain ⟨h0, c, N, t, M, h⟩ := h
  exact ⟨h0, c, N, t, M, h.mono hL hb⟩
/-- the truth becomes another -/
theorem RC.truth {N' t' M' : Nat} (h0 : T.1 [] = true) (h : RC c N t M L S T) (hd : OK d N' t' M' L') (hW : WI d) (hL : L ≤ L') (hl : lk c ≤ lk d) : RR L' (put (atL 1 φW) d S.1, S.2) (wrT T [] (put φR d (T.2 []).1, (T.2 []).2)) := by
  obtain ⟨h1, h2, h3, h4, h5, h6, h7, h8⟩ := h
  have pS : ∀ p : Nat, p < 1 ∨ 10 ≤ p → put (atL 1 φW) d S.1 p = S.1 p := fun p hp => by
    funext j
    exact put_off (atW_off (by omega))
  have pT : ∀ a b : Nat, φR a b = none → put φR d (T.2 []).1 a b = (T.2 []).1 a b := fun a b e => put_off e
  have n0 : ∀ k j : Nat, (k = 1 ∨ k = 2 ∨ k = 3 ∨ k = 14 ∨ k = 15 ∨ k = 16) → φR k j = none := fun k j e => by
    unfold φR φR1
    rw [if_neg (by omega)]
    repeat rw [if_neg (by omega)]
  refine ⟨h0, d, N', t', M', hd, hW, Hold_put, by rw [wrT_same]; exact Hold_put, ?_, fun q hq => ?_, ?_, ?_⟩
  · have h5' := h5.mono hL hd.2.2.2
    unfold KR at h5' ⊢
    dsimp only
    rw [pS 0 (by decide), wrT_ne (show ([8] : List Nat) ≠ [] by decide)]
    rcases h5' with h | ⟨ha, hc, ck, N1, t1, M1, k1, k2, k3, k4⟩
    · exact Or.inl h
    · exact Or.inr ⟨ha, hc, ck, N1, t1, M1, k1, k2, k3.same (fun p p1 p2 => pS p (by omega)), k4⟩
  · have := h6 q hq
    unfold SHr at this ⊢
    rw [wrT_same]
    dsimp only
    rw [pS _ (by omega), pT 1 q (n0 _ _ (by decide)), pT 2 q (n0 _ _ (by decide)), pT 3 q (n0 _ _ (by decide)), pT 14 q (n0 _ _ (by decide))]
    rcases this with h | h | ⟨l, h⟩
    · exact Or.inl h
    · exact Or.inr (Or.inl h)
    · exact Or.inr (Or.inr ⟨l, by omega, h.2⟩)
  · unfold TPr at h7 ⊢
    rw [wrT_same]
    dsimp only
    rw [pS 58 (by decide), pS 59 (by decide), pT 0 7 rfl]
    exact ⟨h7.1, fun j hj => by rw [pT 15 j (n0 _ _ (by decide))]; exact h7.2 j hj⟩
  · intro j j1 j2
    rw [wrT_same]
    dsimp only
    rw [pS 60 (by decide), pT 16 j (n0 _ _ (by decide))]
    exact h8 j j1 j2
/-- both answer alike -/
def Both (L' : Int) (f g : Option (Int32 × SS)) (T : TF) : Prop := ∃ (r : Int32) (S' s' : SS), f = some (r, S') ∧ g = some (r, s') ∧ RR L' S' (wrT T [] s')
def BothT (L' : Int) (f : Option (Int32 × SS)) (g : Option (Int32 × TF)) : Prop := ∃ (r : Int32) (S' : SS) (T' : TF), f = some (r, S') ∧ g = some (r, T') ∧ RR L' S' T'
theorem Both.of {r : Int32} {f g : Option (Int32 × SS)} {S' s' : SS} (h1 : f = some (r, S')) (h2 : g = some (r, s')) (h : RR L' S' (wrT T [] s')) : Both L' f g T := ⟨r, S', s', h1, h2, h⟩
theorem RR.id (h : RR L S T) : RR L S (wrT T [] (T.2 [])) := by rw [wrT_id]; exact h
/-- a refusal -/
theorem refuse_both {a : Nat} (h : RR L S T) (h2 : 2 ≤ a) (h6 : a ≤ 6) : ∃ (S' s' : SS), fX5_refuse (-i32 a) S = some (-i32 a, S') ∧ fX6_refuse (-i32 a) (T.2 []) = some (-i32 a, s') ∧ RR L S' (wrT T [] s') := by
  have e6 : (-6 : Int32) = -i32 6 := rfl
  have e2 : (-2 : Int32) = -i32 2 := rfl
  have cases5 : a = 2 ∨ a = 3 ∨ a = 4 ∨ a = 5 ∨ a = 6 := by omega
  have hin : ((-6 : Int32) ≤ -i32 a ∧ -i32 a ≤ (-2 : Int32)) := by
    rcases cases5 with e | e | e | e | e <;> subst e <;> decide
  have nn : -(-i32 a) = i32 a := by
    rcases cases5 with e | e | e | e | e <;> subst e <;> decide
  refine ⟨wrI S 60 a (S.1 60 a + 1), wrI (T.2 []) 16 a ((T.2 []).1 16 a + 1), ?_, ?_, ?_⟩
  · unfold fX5_refuse fX5_refuse_0
    rw [okC_within, if_pos hin, obind]
    dsimp only
    rw [if_neg (by decide), nn, if_pos (gix (show a < 7 by omega) (by decide)), if_pos (gix (show a < 7 by omega) (by decide)), gnat (by omega)]
  · unfold fX6_refuse fX6_refuse_0
    rw [nn, if_pos (gix (show a < 8 by omega) (by decide)), if_pos (gix (show a < 8 by omega) (by decide)), gnat (by omega)]
  · obtain ⟨h0, c, N, t, M, h1, hW, h3, h4, h5, h7, h8, h9⟩ := h
    have pS : ∀ p : Nat, p ≠ 60 → (wrI S 60 a (S.1 60 a + 1)).1 p = S.1 p := fun p hp => upd2_ne hp
    have pT : ∀ p : Nat, p ≠ 16 → (wrI (T.2 []) 16 a ((T.2 []).1 16 a + 1)).1 p = (T.2 []).1 p := fun p hp => upd2_ne hp
    have n16 : ∀ j : Nat, φR 16 j = none := fun j => by
      unfold φR φR1
      rw [if_neg (by omega)]
      repeat rw [if_neg (by omega)]
    refine ⟨h0, c, N, t, M, h1, hW, h3.same (fun p p1 p2 => pS p (by omega)), fun x y p q e => ?_, ?_, fun q hq => ?_, ?_, fun j j1 j2 => ?_⟩
    · rw [wrT_same]
      have hx : x ≠ 16 := fun z => by rw [z, n16] at e; cases e
      rw [pT x hx]
      exact h4 x y p q e
    · unfold KR at h5 ⊢
      rw [pS 0 (by decide), wrT_ne (show ([8] : List Nat) ≠ [] by decide)]
      rcases h5 with h | ⟨ha, hc, ck, N1, t1, M1, k1, k2, k3, k4⟩
      · exact Or.inl h
      · exact Or.inr ⟨ha, hc, ck, N1, t1, M1, k1, k2, k3.same (fun p p1 p2 => pS p (by omega)), k4⟩
    · have := h7 q hq
      unfold SHr at this ⊢
      rw [wrT_same, pS _ (by omega), pT 1 (by decide), pT 2 (by decide), pT 3 (by decide), pT 14 (by decide)]
      exact this
    · unfold TPr at h8 ⊢
      rw [wrT_same, pS 58 (by decide), pS 59 (by decide), pT 0 (by decide), pT 15 (by decide)]
      exact h8
    · rw [wrT_same]
      show upd2 S.1 60 a (S.1 60 a + 1) 60 j = upd2 (T.2 []).1 16 a ((T.2 []).1 16 a + 1) 16 j
      rw [upd2_same, upd2_same]
      by_cases z : j = a
      · rw [if_pos z, if_pos z, h9 a h2 h6]
      · rw [if_neg z, if_neg z, h9 j j1 j2]
/-- the class's refusal is the reference's -/
theorem Both.refuse {a : Nat} {f g : Option (Int32 × SS)} (h : RR L S T) (h2 : 2 ≤ a) (h6 : a ≤ 6) (ef : f = (fX5_refuse (-i32 a) S).bind fun z => some (z.1, z.2)) (eg : g = (fX6_refuse (-i32 a) (T.2 [])).bind fun z => some (z.1, z.2)) : Both L f g T := by
  obtain ⟨S', s', r1, r2, r3⟩ := refuse_both h h2 h6
  exact ⟨_, S', s', by rw [ef, r1, obind], by rw [eg, r2, obind], r3⟩
theorem BothT.refuse {a : Nat} {f : Option (Int32 × SS)} {g : Option (Int32 × TF)} (h : RR L S T) (h2 : 2 ≤ a) (h6 : a ≤ 6) (ef : f = (fX5_refuse (-i32 a) S).bind fun z => some (z.1, z.2)) (eg : g = (fX6_refuse (-i32 a) (T.2 [])).bind fun z => some (z.1, wrT T [] z.2)) : BothT L f g := by
  obtain ⟨S', s', r1, r2, r3⟩ := refuse_both h h2 h6
  exact ⟨_, S', _, by rw [ef, r1, obind], by rw [eg, r2, obind], r3⟩
end REL
