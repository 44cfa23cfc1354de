/-! PURE MATHEMATICS, 62: kerb. -/
section READ
variable {c d v1 : CN} {N t M N' t' M' n : Nat} {L L' : Int} {S S' s' r' : SS} {T T2 : TF}
theorem neg20 : ∀ fr : Nat, fr < 251 → ¬ (0 : Int32) ≤ (-20 : Int32) - i32 fr := by decide +kernel
theorem refuse_keeps {s s1 : SS} (h : fX6_refuse (-2 : Int32) s = some (-2, s1)) : s1.1 0 35 = s.1 0 35 := by
  unfold fX6_refuse fX6_refuse_0 at h
  rw [if_pos (by decide), if_pos (by decide)] at h
  have e := congrArg Prod.snd (Option.some.inj h)
  dsimp only at e
  rw [← e, wrI_1, if_neg (fun z => absurd z.1 (by decide))]
/-- what both do until all is read -/
theorem kerb_read (h : RC c N t M L S T) (hL : L + 300000 ≤ 1999000000) : ∃ (z : SS) (T2 : TF), fX4_takeFrom (selS (fun k => if k < 9 then 19 + k else 1 + (k - 9)) S) = some ((), z) ∧ mrgS (fun k => if k < 9 then 19 + k else 1 + (k - 9)) 18 S z = (put (atL 19 φW) c S.1, S.2) ∧ fX6_fresh [] T = some ((), T2) ∧ T2.2 [] = T.2 [] ∧ T2.1 [] = T.1 [] ∧ T2.1 [8] = T.1 [8] ∧ T2.2 [8] = T.2 [8] ∧ Hold φR c (T2.2 [9]).1 ∧ ∃ n : Nat, KA c (L + 200000) (selS (fun k => if k < 2 then 58 + k else 1 + (k - 2)) (put (atL 19 φW) c S.1, S.2)) (T2.2 []) n (fX1_readInto (selS (fun k => if k < 2 then 58 + k else 1 + (k - 2)) (put (atL 19 φW) c S.1, S.2))) (fX6_readAll (T2.2 [])) := by
  obtain ⟨v, w⟩ := S
  obtain ⟨z, e1, e2⟩ := okM_takeW (A := 19) (B := 1) (w := w) (Or.inr (by decide)) h.2.2.1
  obtain ⟨T2, f1, f2, f3, f4, f5, f6, _⟩ := fresh_R h.2.2.2.1
  have hS : SameS (v, w) (put (atL 19 φW) c v, w) := ⟨rfl, fun p hp => funext fun j => put_off (atW_off (by omega))⟩
  have hT : SameT T T2 := ⟨f3, f4, f5, by rw [f2], fun a b _ => by rw [f2]⟩
  have h2 := h.same hS hT
  obtain ⟨n, hB⟩ := tape_TB (r := T2.2 []) h2.2.2.2.2.2.2.1 rfl rfl
  exact ⟨z, T2, e1, e2, f1, f2, f3, f4, f5, f6, n, both_read hB h2.1 h2.2.1 (down11 h2.2.2.1) h2.2.2.2.1 hL⟩
end READ
