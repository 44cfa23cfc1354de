/-! PURE MATHEMATICS, 61: kerb taken. -/
section READ
variable {c d v1 : CN} {N t M N' t' M' n : Nat} {L L' : Int} {S S' s' r' : SS} {T T2 : TF}
theorem kerb_ok (h0 : T.1 [] = true) (h : RC c N t M L S T) (hv : ∀ p : Nat, p < 19 ∨ 28 ≤ p → v1 p = S.1 p) (f2 : T2.2 [] = T.2 []) (f3 : T2.1 [] = T.1 []) (f4 : T2.1 [8] = T.1 [8]) (f5 : T2.2 [8] = T.2 [8]) (b4 : KS (atL 2 φW) d N' t' M' L' s' r' n 0) (hL : L ≤ L') (b5 : FC (selS (fun k => if k < 2 then 58 + k else 1 + (k - 2)) (v1, S.2)) s') (b6 : FR0 (T2.2 []) r') (b7 : lk c ≤ lk d) : RR L' (wrI (mrgS (fun k => if k < 2 then 58 + k else 1 + (k - 2)) 11 (v1, S.2) s') 58 1 0) (wTI (wrT T2 [] r') [] 0 7 0) := by
  have z7 : φR 0 7 = none := rfl
  refine ⟨f3.trans h0, d, N', t', M', h.kerb (r := wrI r' 0 7 0) b4.2.1 b4.2.2.1 hL b7 ?_ (fun p hp => ?_) ?_ (fun k j a b e => ?_) ?_ (fun a b hab hφ hne h15 => ?_) ⟨⟨0, by decide, ?_, ?_⟩, fun j hj => ?_⟩ ⟨?_, f4, ?_⟩⟩
  · exact m11_L b5.1
  · funext j
    rw [wrI_1, if_neg (fun z => by have := z.1; omega), m11_off (by omega)]
    exact congrFun (hv p (by omega)) j
  · refine (up11 (S := (v1, S.2)) b4.2.2.2.1).same fun p p1 p2 => ?_
    funext j
    rw [wrI_1, if_neg (fun z => by have := z.1; omega)]
  · rw [wrI_1, if_neg (fun z => by rw [z.1, z.2, z7] at e; exact absurd e (by simp))]
    exact b4.2.2.2.2 k j a b e
  · exact b6.1.trans (by rw [f2])
  · rw [wrI_1, if_neg hne]
    exact (b6.2 a b hab hφ).trans (by rw [f2])
  · rw [wrI_1, if_pos ⟨rfl, rfl⟩]
    rfl
  · rw [wrI_1, if_pos ⟨rfl, rfl⟩]
    rfl
  · rw [wrI_1, if_neg (fun z => absurd z.1 (by decide)), wrI_1, if_neg (fun z => absurd z.1 (by decide)), m11_1]
    exact b4.1.1.2.2.2 j hj
  · show (wrT _ [] (wrI ((wrT T2 [] r').2 []) 0 7 0)).2 [] = _
    rw [wrT_same, wrT_same]
  · show (wrT _ [] (wrI ((wrT T2 [] r').2 []) 0 7 0)).2 [8] = _
    rw [wrT_ne (by decide), wrT_ne (by decide)]
    exact f5
end READ
