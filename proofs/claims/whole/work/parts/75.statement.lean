/-! PURE MATHEMATICS, 56: one statement. -/
section READ
variable {c c' d : CN} {N t M n lo lo' i : Nat} {L : Int} {s s' r s1 r1 s2 r2 : SS} {x y : Int32}
theorem ref_273 (h6 : fX6_isWord 6 r = some (0, r)) : fX6_statement_273 r = some (0, wrI r 0 35 (r.1 0 33)) := by
  have e : fX6_wrong r = some ((0 : Int32), wrI r 0 35 (r.1 0 33)) := rfl
  unfold fX6_statement_273
  rw [h6, obind]
  dsimp only
  rw [if_pos rfl, e, obind, nb0]
theorem ref_106 (h : ∀ i : Nat, 2 ≤ i → i < 7 → fX6_isWord i r = some (0, r)) : fX6_statement_106 r = some (0, wrI r 0 35 (r.1 0 33)) := by
  unfold fX6_statement_106
  rw [h 2 (by decide) (by decide), obind]
  dsimp only
  rw [if_pos rfl, h 3 (by decide) (by decide), obind]
  dsimp only
  rw [if_pos rfl, h 4 (by decide) (by decide), obind]
  dsimp only
  rw [if_pos rfl, h 5 (by decide) (by decide), obind]
  dsimp only
  rw [if_pos rfl]
  exact ref_273 (h 6 (by decide) (by decide))
theorem ref_40 (h : ∀ i : Nat, 1 ≤ i → i < 7 → fX6_isWord i r = some (0, r)) : fX6_statement_40 r = some (0, wrI r 0 35 (r.1 0 33)) := by
  unfold fX6_statement_40
  rw [h 1 (by decide) (by decide), obind]
  dsimp only
  rw [if_pos rfl]
  exact ref_106 fun i h1 h2 => h i (by omega) h2
theorem ref_0 (h : ∀ i : Nat, i < 7 → fX6_isWord i r = some (0, r)) : fX6_statement r = some (0, wrI r 0 35 (r.1 0 33)) := by
  unfold fX6_statement fX6_statement_0
  rw [h 0 (by decide), obind]
  dsimp only
  rw [if_pos rfl]
  exact ref_40 fun i _ h2 => h i h2
theorem KB_bad {Q : CN → Prop} {φ : Nat → Nat → Option (Nat × Nat)} (h : TK s r n lo) : KB φ Q c L s r n lo' (some (0, s)) (some (0, wrI r 0 35 (r.1 0 33))) := by
  obtain ⟨fr, f1, f2, f3⟩ := h.from
  exact Or.inl ⟨_, _, rfl, rfl, .rf, FR35, fr, f1, f2, by rw [wrI_1, if_pos ⟨rfl, rfl⟩]; exact f3⟩
theorem both_statement (h : KS (atL 2 φW) c N t M L s r n lo) (hL : L + 1000 ≤ 1999000000) : KB (atL 2 φW) (LkLe c) c L s r n (lo + 1) (fX1_readStatement s) (fX6_statement r) := by
  have kind : s.1 0 2 = r.1 0 32 := by
    obtain ⟨_, _, _, _, _, _, _, _, _, _, _, k, _⟩ := h.1
    exact k
  have hM := h.2.1.1.m3
  have bad := KB_bad (Q := LkLe c) (φ := atL 2 φW) (c := c) (L := L) (lo' := lo + 1) h.1
  by_cases hk : s.1 0 2 = 1
  · have k7 := KS_down h
    have e10 : r.1 0 10 = i32 M := (h.2.2.2.2 0 10 0 11 rfl).trans h.2.1.1.2.2.1
    obtain ⟨nl, hnl, enl⟩ := h.2.2.1.1
    have e22 : r.1 0 22 = i32 nl := (h.2.2.2.2 0 22 5 3 rfl).trans enl
    have kw : ∀ i : Nat, i < 7 → ∃ b : Bool, fX1_isWord i (selS (fun k => 0 + k) s) = some (if b = true then 1 else 0, selS (fun k => 0 + k) s) ∧ fX6_isWord i r = some (if b = true then 1 else 0, r) ∧ (b = true ↔ Wd r i) := fun i hi => K_word h hi hk
    have no : ∀ i : Nat, i < 7 → ¬ Wd r i → fX1_isWord i (selS (fun k => 0 + k) s) = some (0, selS (fun k => 0 + k) s) ∧ fX6_isWord i r = some (0, r) := fun i hi hw => by
      obtain ⟨b, b1, b2, b3⟩ := kw i hi
      cases b with
      | true => exact absurd (b3.mp rfl) hw
      | false => exact ⟨b1, b2⟩
    have yes : ∀ i : Nat, i < 7 → Wd r i → fX1_isWord i (selS (fun k => 0 + k) s) = some (1, selS (fun k => 0 + k) s) ∧ fX6_isWord i r = some (1, r) := fun i hi hw => by
      obtain ⟨b, b1, b2, b3⟩ := kw i hi
      cases b with
      | true => exact ⟨b1, b2⟩
      | false => exact absurd (b3.mpr hw) (by decide)
    have n10 : ¬ (1 : Int32) = 0 := by decide
    unfold fX1_readStatement fX1_readStatement_0
    rw [if_pos hk]
    by_cases w0 : Wd r 0
    · have oth : ∀ i : Nat, 1 ≤ i → i < 7 → fX6_isWord i r = some (0, r) := fun i h1 h2 => (no i h2 (fun z => by have := Wd.one (by decide) h2 w0 z; omega)).2
      rw [(yes 0 (by decide) w0).1, obind]
      dsimp only
      rw [if_neg n10, mrg_sel injA]
      unfold fX6_statement fX6_statement_0
      rw [(yes 0 (by decide) w0).2, obind]
      dsimp only
      rw [if_neg n10, e10]
      by_cases m0 : M = 0
      · subst m0
        rw [if_pos (show i32 0 = (0 : Int32) from rfl)]
        exact KB_lift h (read_sides k7 ⟨0, by decide, w0⟩ hL)
      · have nm : ¬ i32 M = 0 := fun z => m0 (inj32 (b := 0) (by omega) (by decide) z)
        have e11 : (selS (fun k => if k < 2 then 0 + k else 3 + (k - 2)) s).1 2 11 = i32 M := (k7.2.2.2.1 2 11 0 11 rfl).trans h.2.1.1.2.2.1
        have ec : fX1_readSides (selS (fun k => if k < 2 then 0 + k else 3 + (k - 2)) s) = some (0, selS (fun k => if k < 2 then 0 + k else 3 + (k - 2)) s) := by
          unfold fX1_readSides fX1_readSides_0
          rw [e11, if_neg (fun z => by have := (le_l (n := 0) (by unfold B31; omega) (by decide)).mp z; omega)]
        rw [if_neg nm, ref_40 oth, ec, obind, nb0, mrg_sel inj7]
        exact bad
    · rw [(no 0 (by decide) w0).1, obind]
      dsimp only
      rw [if_pos rfl, mrg_sel injA]
      unfold fX6_statement fX6_statement_0
      rw [(no 0 (by decide) w0).2, obind]
      dsimp only
      rw [if_pos rfl]
      unfold fX6_statement_40
      by_cases w1 : Wd r 1
      · have oth : ∀ i : Nat, 2 ≤ i → i < 7 → fX6_isWord i r = some (0, r) := fun i h1 h2 => (no i h2 (fun z => by have := Wd.one (by decide) h2 w1 z; omega)).2
        rw [(yes 1 (by decide) w1).1, obind, (yes 1 (by decide) w1).2, obind]
        dsimp only
        rw [if_neg n10, if_neg n10, mrg_sel injA, e10]
        by_cases m3 : M < 3
        · rw [if_neg (fun z => by have := (l_le (n := 3) (by unfold B31; omega) (by decide)).mp z; omega)]
          exact KB_lift h (read_scoop k7 m3 ⟨1, by decide, w1⟩ hL)
        · have e11 : (selS (fun k => if k < 2 then 0 + k else 3 + (k - 2)) s).1 2 11 = i32 M := (k7.2.2.2.1 2 11 0 11 rfl).trans h.2.1.1.2.2.1
          have ec : fX1_readScoop (selS (fun k => if k < 2 then 0 + k else 3 + (k - 2)) s) = some (0, selS (fun k => if k < 2 then 0 + k else 3 + (k - 2)) s) := by
            unfold fX1_readScoop fX1_readScoop_0
            rw [e11, if_neg (fun z => m3 ((lt_l (n := 3) (by unfold B31; omega) (by decide)).mp z))]
          rw [if_pos ((l_le (n := 3) (by unfold B31; omega) (by decide)).mpr (by omega)), ref_106 oth, ec, obind, nb0, mrg_sel inj7]
          exact bad
      · rw [(no 1 (by decide) w1).1, obind, (no 1 (by decide) w1).2, obind]
        dsimp only
        rw [if_pos rfl, if_pos rfl, mrg_sel injA]
        unfold fX6_statement_106
        by_cases w2 : Wd r 2
        · rw [(yes 2 (by decide) w2).1, obind, (yes 2 (by decide) w2).2, obind]
          dsimp only
          rw [if_neg n10, if_neg n10, mrg_sel injA]
          have e := KB_lift h (read_sun k7 ⟨2, by decide, w2⟩ hL)
          rcases e with ⟨s', r', a1, a2, a3⟩ | ⟨s', r', c', N', t', M', a1, a2, a3⟩
          · rw [a1, a2, obind, nb0]
            exact Or.inl ⟨s', r', rfl, rfl, a3⟩
          · rw [a1, a2, obind, nb1]
            exact Or.inr ⟨s', r', c', N', t', M', rfl, rfl, a3⟩
        · rw [(no 2 (by decide) w2).1, obind, (no 2 (by decide) w2).2, obind]
          dsimp only
          rw [if_pos rfl, if_pos rfl, mrg_sel injA]
          by_cases w3 : Wd r 3
          · rw [(yes 3 (by decide) w3).1, obind, (yes 3 (by decide) w3).2, obind]
            dsimp only
            rw [if_neg n10, if_neg n10, mrg_sel injA]
            exact KB_lift h (read_ask (f := fX1_readHold) (j := 3) (e := 0) (Or.inl ⟨rfl, rfl⟩) k7 ⟨3, by decide, w3⟩ hL rfl rfl)
          · rw [(no 3 (by decide) w3).1, obind, (no 3 (by decide) w3).2, obind]
            dsimp only
            rw [if_pos rfl, if_pos rfl, mrg_sel injA]
            by_cases w4 : Wd r 4
            · rw [(yes 4 (by decide) w4).1, obind, (yes 4 (by decide) w4).2, obind]
              dsimp only
              rw [if_neg n10, if_neg n10, mrg_sel injA]
              exact KB_lift h (read_ask (f := fX1_readBrim) (j := 4) (e := 1) (Or.inr ⟨rfl, rfl⟩) k7 ⟨4, by decide, w4⟩ hL rfl rfl)
            · rw [(no 4 (by decide) w4).1, obind, (no 4 (by decide) w4).2, obind]
              dsimp only
              rw [if_pos rfl, if_pos rfl, mrg_sel injA]
              by_cases w5 : Wd r 5
              · have oth : fX6_isWord 6 r = some (0, r) := (no 6 (by decide) (fun z => by have := Wd.one (by decide) (by decide) w5 z; omega)).2
                rw [(yes 5 (by decide) w5).1, obind, (yes 5 (by decide) w5).2, obind]
                dsimp only
                rw [if_neg n10, if_neg n10, mrg_sel injA, e22]
                by_cases m4 : nl < 4
                · rw [if_neg (fun z => by have := (l_le (n := 4) (by unfold B31; omega) (by decide)).mp z; omega)]
                  rcases read_licker h enl m4 ⟨5, by decide, w5⟩ hL with ⟨s', r', a1, a2, a3⟩ | ⟨s', r', c', N', t', M', a1, a2, a3⟩
                  · rw [a1, obind, nb0]
                    exact Or.inl ⟨s', r', rfl, a2, a3⟩
                  · rw [a1, obind, nb1]
                    exact Or.inr ⟨s', r', c', N', t', M', rfl, a2, a3⟩
                · have e11 : s.1 2 3 = i32 nl := (h.2.2.2.1 2 3 5 3 rfl).trans enl
                  have ec : fX1_readLicker s = some (0, s) := by
                    unfold fX1_readLicker fX1_readLicker_0
                    rw [e11, if_neg (fun z => m4 ((lt_l (n := 4) (by unfold B31; omega) (by decide)).mp z))]
                  rw [if_pos ((l_le (n := 4) (by unfold B31; omega) (by decide)).mpr (by omega)), ref_273 oth, ec, obind, nb0]
                  exact bad
              · rw [(no 5 (by decide) w5).1, obind, (no 5 (by decide) w5).2, obind]
                dsimp only
                rw [if_pos rfl, if_pos rfl, mrg_sel injA]
                by_cases w6 : Wd r 6
                · unfold fX6_statement_273
                  rw [(yes 6 (by decide) w6).1, obind, (yes 6 (by decide) w6).2, obind]
                  dsimp only
                  rw [if_neg n10, if_neg n10, mrg_sel injA]
                  rcases read_lick h ⟨6, by decide, w6⟩ hL with ⟨s', r', a1, a2, a3⟩ | ⟨s', r', c', N', t', M', a1, a2, a3⟩
                  · rw [a1, a2, obind, obind]
                    dsimp only
                    rw [if_pos rfl, nb0]
                    exact Or.inl ⟨s', r', rfl, rfl, a3⟩
                  · rw [a1, a2, obind, obind]
                    dsimp only
                    rw [if_neg n10, nb1]
                    exact Or.inr ⟨s', r', c', N', t', M', rfl, rfl, a3⟩
                · rw [(no 6 (by decide) w6).1, obind, ref_273 (no 6 (by decide) w6).2]
                  dsimp only
                  rw [if_pos rfl, mrg_sel injA]
                  exact bad
  · rw [ref_0 fun i hi => not_word (fun z => hk (kind.trans z))]
    unfold fX1_readStatement fX1_readStatement_0
    rw [if_neg hk]
    exact bad
end READ
