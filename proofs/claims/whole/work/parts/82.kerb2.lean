/-! PURE MATHEMATICS, 63: kerb, its end. -/
section READ
variable {c d v1 : CN} {N t M N' t' M' n : Nat} {L L' : Int} {S S' s' r' : SS} {T T2 : TF}
theorem kerb_bad {fr : Nat} (h0 : T.1 [] = true) (h : RC c N t M L S T) (hv : ∀ p : Nat, p < 19 ∨ 28 ≤ p → v1 p = S.1 p) (h19 : Hold (atL 19 φW) c v1) (f2 : T2.2 [] = T.2 []) (f3 : T2.1 [] = T.1 []) (f4 : T2.1 [8] = T.1 [8]) (f5 : T2.2 [8] = T.2 [8]) (b5 : FC (selS (fun k => if k < 2 then 58 + k else 1 + (k - 2)) (v1, S.2)) s') (b6 : FR0 (T2.2 []) r') (e35 : r'.1 0 35 = i32 fr) : ∃ z4 : SS, fX4_takeFrom (selS (fun k => if k < 9 then 1 + k else 19 + (k - 9)) (wrI (mrgS (fun k => if k < 2 then 58 + k else 1 + (k - 2)) 11 (v1, S.2) s') 58 1 0)) = some ((), z4) ∧ RR L (mrgS (fun k => if k < 9 then 1 + k else 19 + (k - 9)) 18 (wrI (mrgS (fun k => if k < 2 then 58 + k else 1 + (k - 2)) 11 (v1, S.2) s') 58 1 0) z4) (wrT T2 [] (put φR c (wrI r' 0 7 0).1, (wrI r' 0 7 0).2)) := by
  have z7 : φR 0 7 = none := rfl
  have c19 : Hold (atL 19 φW) c (wrI (mrgS (fun k => if k < 2 then 58 + k else 1 + (k - 2)) 11 (v1, S.2) s') 58 1 0).1 := h19.same fun p p1 p2 => by
    funext j
    rw [wrI_1, if_neg (fun z => by have := z.1; omega), m11_off (by omega)]
  obtain ⟨z4, g1, g2⟩ := okM_takeW (A := 1) (B := 19) (w := (wrI (mrgS (fun k => if k < 2 then 58 + k else 1 + (k - 2)) 11 (v1, S.2) s') 58 1 0).2) (Or.inl (by decide)) c19
  refine ⟨z4, g1, ?_⟩
  have g2' : mrgS (fun k => if k < 9 then 1 + k else 19 + (k - 9)) 18 (wrI (mrgS (fun k => if k < 2 then 58 + k else 1 + (k - 2)) 11 (v1, S.2) s') 58 1 0) z4 = _ := g2
  rw [g2']
  have tb : ∀ p : Nat, p < 1 ∨ 10 ≤ p → ∀ u : CN, put (atL 1 φW) c u p = u p := fun p hp u => funext fun j => put_off (atW_off (by omega))
  refine ⟨f3.trans h0, c, N, t, M, h.kerb (r := (put φR c (wrI r' 0 7 0).1, (wrI r' 0 7 0).2)) h.1 h.2.1 (Int.le_refl _) (Nat.le_refl _) (m11_L b5.1) (fun p hp => ?_) Hold_put Hold_put (b6.1.trans (by rw [f2])) (fun a b hab hφ hne h15 => ?_) ⟨⟨0, by decide, ?_, ?_⟩, fun j hj => ?_⟩ ⟨wrT_same, f4, (wrT_ne (by decide)).trans f5⟩⟩
  · refine (tb p (by omega) _).trans (funext fun j => ?_)
    rw [wrI_1, if_neg (fun z => by have := z.1; omega), m11_off (by omega)]
    exact congrFun (hv p (by omega)) j
  · refine (put_off (φ := φR) (c := c) (u := (wrI r' 0 7 0).1) hφ).trans ?_
    rw [wrI_1, if_neg hne]
    exact (b6.2 a b hab hφ).trans (by rw [f2])
  · refine (congrFun (tb 58 (by decide) (wrI (mrgS (fun k => if k < 2 then 58 + k else 1 + (k - 2)) 11 (v1, S.2) s') 58 1 0).1) 1).trans ?_
    rw [wrI_1, if_pos ⟨rfl, rfl⟩]
    rfl
  · refine (put_off (φ := φR) (c := c) (u := (wrI r' 0 7 0).1) z7).trans ?_
    rw [wrI_1, if_pos ⟨rfl, rfl⟩]
    rfl
  · refine (congrFun (tb 59 (by decide) (wrI (mrgS (fun k => if k < 2 then 58 + k else 1 + (k - 2)) 11 (v1, S.2) s') 58 1 0).1) j).trans ?_
    refine Eq.trans ?_ (put_off (φ := φR) (c := c) (u := (wrI r' 0 7 0).1) φR_15).symm
    rw [wrI_1, if_neg (fun z => absurd z.1 (by decide)), wrI_1, if_neg (fun z => absurd z.1 (by decide)), m11_1, b5.2.1]
    obtain ⟨_, h3⟩ := h.2.2.2.2.2.2.1
    refine (congrFun (hv 59 (by decide)) j).trans ((h3 j hj).trans ?_)
    rw [b6.2 15 j ⟨fun z => by omega, by decide⟩ φR_15, f2]
end READ
