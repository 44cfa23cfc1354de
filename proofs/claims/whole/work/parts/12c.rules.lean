theorem lookup_range {f : Nat → Option Nat} {j : Nat} : ∀ N : Nat, ((List.range N).map (fun i => (i, f i))).lookup j = if j < N then some (f j) else none
  | 0 => by simp
  | N + 1 => by
    rw [List.range_succ, List.map_append, List.lookup_append, lookup_range N]
    by_cases z : j < N
    · rw [if_pos z, if_pos (by omega)]
      rfl
    · rw [if_neg z]
      by_cases y : j = N
      · subst y
        rw [if_pos (by omega)]
        simp
      · rw [if_neg (by omega)]
        have : (j == N) = false := by simpa using y
        simp [List.lookup_cons, this]
theorem addM_at {t r N K : Nat} {X : LX} {k : Nat} : (addM t r N K X)[k]? = if k < X.length then X[k]? else if k = X.length then some ((t, N), (List.range N).map (fun j => (j, some (X.length + 1 + j))), []) else if k < X.length + 1 + N then some ((r, K), [], []) else none := by
  unfold addM
  by_cases z : k < X.length
  · rw [if_pos z, List.getElem?_append_left z]
  · rw [if_neg z, List.getElem?_append_right (by omega)]
    by_cases y : k = X.length
    · subst y
      rw [if_pos rfl, Nat.sub_self]
      rfl
    · rw [if_neg y]
      obtain ⟨m, rfl⟩ : ∃ m, k = X.length + 1 + m := ⟨k - X.length - 1, by omega⟩
      rw [show X.length + 1 + m - X.length = m + 1 by omega, List.getElem?_cons_succ, List.getElem?_replicate]
      by_cases w : m < N
      · rw [if_pos w, if_pos (by omega)]
      · rw [if_neg w, if_neg (by omega)]
theorem emb_addM {h : PH} {X : LX} {t r N K : Nat} : pushM (emb h X) t r N K = emb h (addM t r N K X) := by
  have e1 : (emb h X).1 = h.1 + X.length := rfl
  have hsh : ∀ k : Nat, cSh (addM t r N K X) k = if k < X.length then cSh X k else if k = X.length then some (t, N) else if k < X.length + 1 + N then some (r, K) else none := by
    intro k
    unfold cSh
    rw [addM_at]
    split
    · rfl
    · split
      · rfl
      · split <;> rfl
  have hp : ∀ k j : Nat, cP (addM t r N K X) k j = if k < X.length then cP X k j else if k = X.length then (if j < N then some (X.length + 1 + j) else none) else none := by
    intro k j
    unfold cP
    rw [addM_at]
    split
    · rfl
    · split
      · show (ceP ((t, N), (List.range N).map (fun j => (j, some (X.length + 1 + j))), []) j) = _
        unfold ceP
        show (((List.range N).map (fun j => (j, some (X.length + 1 + j)))).lookup j).getD none = _
        rw [lookup_range (f := fun j => some (X.length + 1 + j)) N]
        split <;> rfl
      · split <;> rfl
  have hi : ∀ k j : Nat, cI (addM t r N K X) k j = if k < X.length then cI X k j else 0 := by
    intro k j
    unfold cI
    rw [addM_at]
    split
    · rfl
    · split
      · rfl
      · split <;> rfl
  refine ph_ext (by show h.1 + X.length + 1 + N = h.1 + (addM t r N K X).length; rw [(okp_addM X).1]; omega) (fun q => ?_) (fun q j => ?_) (fun q j => ?_) (fun q j => ?_)
  · show (if q = (emb h X).1 then some (t, N) else if (emb h X).1 < q ∧ q < (emb h X).1 + 1 + N then some (r, K) else (emb h X).2.1 q) = _
    rw [e1]
    rcases base_cases h.1 q with z | ⟨k, rfl⟩
    · rw [if_neg (by omega), if_neg (by omega), (emb_lt z).1, (emb_lt z).1]
    · rw [emb_sh, emb_sh, hsh]
      by_cases a : k < X.length
      · rw [if_neg (by omega), if_neg (by omega), if_pos a]
      · rw [if_neg a]
        by_cases b : k = X.length
        · rw [if_pos (by omega), if_pos b]
        · rw [if_neg (by omega), if_neg b]
          by_cases c : k < X.length + 1 + N
          · rw [if_pos ⟨by omega, by omega⟩, if_pos c]
          · rw [if_neg (by omega), if_neg c, cSh_out (by omega)]
  · show (if q = (emb h X).1 then (fun j => if j < N then Value.ref ((emb h X).1 + 1 + j) else .null) else if (emb h X).1 < q ∧ q < (emb h X).1 + 1 + N then fun _ => .null else (emb h X).2.2.1 q) j = _
    rw [e1]
    rcases base_cases h.1 q with z | ⟨k, rfl⟩
    · rw [if_neg (by omega), if_neg (by omega), (emb_lt z).2.1, (emb_lt z).2.1]
    · rw [emb_P, hp]
      by_cases a : k < X.length
      · rw [if_neg (by omega), if_neg (by omega), if_pos a, emb_P]
      · rw [if_neg a]
        by_cases b : k = X.length
        · rw [if_pos (by omega), if_pos b]
          by_cases c : j < N
          · rw [if_pos c, if_pos c]
            have e9 : h.1 + X.length + 1 + j = h.1 + (X.length + 1 + j) := by omega
            exact congrArg Value.ref e9
          · rw [if_neg c, if_neg c]
            rfl
        · rw [if_neg (by omega), if_neg b]
          by_cases c : k < X.length + 1 + N
          · rw [if_pos ⟨by omega, by omega⟩]
            rfl
          · rw [if_neg (by omega), emb_P, cP_out (by omega)]
  · show (if (emb h X).1 ≤ q ∧ q < (emb h X).1 + 1 + N then fun _ => (0 : Int32) else (emb h X).2.2.2.1 q) j = _
    rw [e1]
    rcases base_cases h.1 q with z | ⟨k, rfl⟩
    · rw [if_neg (by omega), (emb_lt z).2.2.1, (emb_lt z).2.2.1]
    · rw [emb_I, hi]
      by_cases a : k < X.length
      · rw [if_neg (by omega), if_pos a, emb_I]
      · rw [if_neg a]
        by_cases c : k < X.length + 1 + N
        · rw [if_pos ⟨by omega, by omega⟩]
        · rw [if_neg (by omega), emb_I, cI_out (by omega)]
  · show (if (emb h X).1 ≤ q ∧ q < (emb h X).1 + 1 + N then fun _ => (0 : Int64) else (emb h X).2.2.2.2 q) j = _
    rw [e1]
    rcases base_cases h.1 q with z | ⟨k, rfl⟩
    · rw [if_neg (by omega), (emb_lt z).2.2.2, (emb_lt z).2.2.2]
    · rw [emb_L]
      by_cases c : h.1 + X.length ≤ h.1 + k ∧ h.1 + k < h.1 + X.length + 1 + N
      · rw [if_pos c]
      · rw [if_neg c, emb_L]
/-- the rest of a construction: what is still to be done to the cells -/
abbrev EvX (G : GG) (d : Nat) (M : MI) (mc ms : Nat) (ops : List (LX → LX)) (h : PH) (kc ks pc : Nat) (lv : List (Nat × Value)) (st : List Value) (X : LX) : Prop := Ev G d M mc ms (fun v h' => v = none ∧ h' = emb h (runX ops X)) kc ks pc lv st (emb h X)
def MtX (d : Nat) (M : MI) (nc ns ci : Nat) (f : LX → Nat → LX) : Prop := ∀ (h : PH) (X : LX) (k : Nat), cSh X k = some (ci, 0) → Mt d M nc ns (fun _ => [.ref (h.1 + k)]) (emb h X) (fun v h' => v = none ∧ h' = emb h (f X k))
theorem rk_eq {n m : Nat} {fs : List (LX → LX)} (h : n = m) (k : RunK n fs) : RunK m fs := h ▸ k
/-- a step that leaves the references of the cells before b -/
def OpP (b : Nat) (f : LX → LX) : Prop := ∀ (X : LX) (i j : Nat), i < b → i < X.length → cP (f X) i j = cP X i j
theorem opp_setI {b k j : Nat} {x : Int32} : OpP b (setI k j x) := fun _ _ _ _ _ => cP_setI
theorem opp_setR {b k j : Nat} {x : Option Nat} (h : b ≤ k) : OpP b (setR k j x) := fun X i m w _ => by
  unfold cP setR ceP
  rw [List.getElem?_modify]
  have z : ¬ k = i := by omega
  simp [z]
theorem opp_addC {b : Nat} {kn : Nat × Nat} : OpP b (addC kn) := fun X i j _ w => by unfold addC; rw [cP_app, if_pos w]
theorem opp_addM {b t r N K : Nat} : OpP b (addM t r N K) := fun X i j _ w => by unfold addM; rw [cP_app, if_pos w]
theorem opp_mono {b c : Nat} {f : LX → LX} (h : b ≤ c) (k : OpP c f) : OpP b f := fun X i j w v => k X i j (Nat.lt_of_lt_of_le w h) v
def RunP (b : Nat) (fs : List (LX → LX)) : Prop := ∀ (X : LX) (i j : Nat), i < b → i < X.length → cP (runX fs X) i j = cP X i j
theorem rp_nil {b : Nat} : RunP b [] := fun _ _ _ _ _ => rfl
theorem rp_cons {b c : Nat} {f : LX → LX} {fs : List (LX → LX)} (h0 : OpK c f) (h1 : OpP b f) (h2 : RunP b fs) : RunP b (f :: fs) := fun X i j w v => by
  have e := (h0 X).1
  exact (h2 (f X) i j w (by omega)).trans (h1 X i j w v)
section EVX
variable {G : GG} {d : Nat} {M : MI} {mc ms : Nat} {ops : List (LX → LX)} {h : PH} {kc ks pc m q : Nat} {lv : List (Nat × Value)} {rest : List Value} {X : LX}
theorem ex_putI {k j idx ci c : Nat} {x : Int32} (hl : X.length = m) (hs : cSh X k = some (ci, c)) (hF : FL M idx ci j) (hfin : (TXG ci j).2.2.2 = false) (hrf : isRf (ftyG ci j) = false) (hn : narrow (ftyG ci j) (.int x) = .int x) (hfit : fits (ftyG ci j) (.int x) = true) (hdg : decode (mbM M) pc = .ok (.putfield idx, 3)) (hq : pc + 3 = q)
    (kk : ∀ X' : LX, X'.length = m → (∀ (i : Nat) (s : Nat × Nat), cSh X i = some s → cSh X' i = some s) → (∀ i' j' : Nat, cP X' i' j' = cP X i' j') → EvX G d M mc ms ops h kc ks q lv rest X') : EvX G d M mc ms (setI k j x :: ops) h kc ks pc lv (.int x :: .ref (h.1 + k) :: rest) X := by
  subst hl
  subst hq
  refine ev_putI (emb_sh.trans hs) hF hfin hrf hn hfit hdg ?_
  rw [emb_setI (cSh_lt hs)]
  exact kk _ (okp_setI X).1 (okp_setI X).2 (fun _ _ => cP_setI)
theorem ex_putR {k j idx ci c r : Nat} (hl : X.length = m) (hs : cSh X k = some (ci, c)) (hF : FL M idx ci j) (hfin : (TXG ci j).2.2.2 = false) (hrf : isRf (ftyG ci j) = true) (hn : ∀ a : Nat, narrow (ftyG ci j) (.ref a) = .ref a) (hfit : ∀ a : Nat, fits (ftyG ci j) (.ref a) = true) (hdg : decode (mbM M) pc = .ok (.putfield idx, 3)) (hq : pc + 3 = q)
    (kk : ∀ X' : LX, X'.length = m → (∀ (i : Nat) (s : Nat × Nat), cSh X i = some s → cSh X' i = some s) → ((∀ i' j' : Nat, ¬ (i' = k ∧ j' = j) → cP X' i' j' = cP X i' j') ∧ cP X' k j = some r) → EvX G d M mc ms ops h kc ks q lv rest X') : EvX G d M mc ms (setR k j (some r) :: ops) h kc ks pc lv (.ref (h.1 + r) :: .ref (h.1 + k) :: rest) X := by
  subst hl
  subst hq
  refine ev_putR (emb_sh.trans hs) hF hfin hrf (hn _) (hfit _) hdg ?_
  have e := emb_setR (h := h) (X := X) (k := k) (j := j) (x := some r) (cSh_lt hs)
  rw [show rfv h.1 (some r) = Value.ref (h.1 + r) from rfl] at e
  rw [e]
  exact kk _ (okp_setR X).1 (okp_setR X).2 ⟨fun _ _ w => (cP_setR (cSh_lt hs)).trans (if_neg w), (cP_setR (cSh_lt hs)).trans (if_pos ⟨rfl, rfl⟩)⟩
theorem ex_putF {k j idx ci c r : Nat} (hl : X.length = m) (hs : cSh X k = some (ci, c)) (hF : FL M idx ci j) (hfin : (TXG ci j).2.2.2 = true) (hin : (myM M).name = "<init>") (hdecl : (TXG ci j).1 = moM M) (hrf : isRf (ftyG ci j) = true) (hn : ∀ a : Nat, narrow (ftyG ci j) (.ref a) = .ref a) (hfit : ∀ a : Nat, fits (ftyG ci j) (.ref a) = true) (hdg : decode (mbM M) pc = .ok (.putfield idx, 3)) (hq : pc + 3 = q)
    (kk : ∀ X' : LX, X'.length = m → (∀ (i : Nat) (s : Nat × Nat), cSh X i = some s → cSh X' i = some s) → ((∀ i' j' : Nat, ¬ (i' = k ∧ j' = j) → cP X' i' j' = cP X i' j') ∧ cP X' k j = some r) → EvX G d M mc ms ops h kc ks q lv rest X') : EvX G d M mc ms (setR k j (some r) :: ops) h kc ks pc lv (.ref (h.1 + r) :: .ref (h.1 + k) :: rest) X := by
  subst hl
  subst hq
  refine ev_putF (emb_sh.trans hs) hF hfin hin hdecl hrf (hn _) (hfit _) hdg ?_
  have e := emb_setR (h := h) (X := X) (k := k) (j := j) (x := some r) (cSh_lt hs)
  rw [show rfv h.1 (some r) = Value.ref (h.1 + r) from rfl] at e
  rw [e]
  exact kk _ (okp_setR X).1 (okp_setR X).2 ⟨fun _ _ w => (cP_setR (cSh_lt hs)).trans (if_neg w), (cP_setR (cSh_lt hs)).trans (if_pos ⟨rfl, rfl⟩)⟩
theorem addC_new {kn : Nat × Nat} : cSh (addC kn X) X.length = some kn := by
  unfold addC
  rw [cSh_app, if_neg (Nat.lt_irrefl _), Nat.sub_self]
  rfl
theorem ex_newI {n : Int32} {N : Nat} (hl : X.length = m) (hty : Cond.arrayClass .int ∈ TT) (hn : ¬ n < 0) (hN : n.toNatClampNeg = N) (hb : N * 4 ≤ 536870912) (h1 : kc + 1 ≤ mc) (h2 : ks + N ≤ ms) (hdg : decode (mbM M) pc = .ok (.newarray .int, 2)) (hq : pc + 2 = q)
    (kk : ∀ X' : LX, X'.length = m + 1 → (∀ (i : Nat) (s : Nat × Nat), cSh X i = some s → cSh X' i = some s) → (∀ i' j' : Nat, i' < m → cP X' i' j' = cP X i' j') → cSh X' m = some (10, N) → EvX G d M mc ms ops h (kc + 1) (ks + N) q lv (.ref (h.1 + m) :: rest) X') : EvX G d M mc ms (addC (10, N) :: ops) h kc ks pc lv (.int n :: rest) X := by
  subst hl
  subst hq
  refine ev_newI hty hn hN hb h1 h2 hdg ?_
  rw [emb_addC]
  exact kk _ (okp_addC X).1 (okp_addC X).2 (fun _ _ w => by unfold addC; rw [cP_app, if_pos w]) addC_new
theorem ex_newL {n : Int32} {N : Nat} (hl : X.length = m) (hty : Cond.arrayClass .long ∈ TT) (hn : ¬ n < 0) (hN : n.toNatClampNeg = N) (hb : N * 8 ≤ 536870912) (h1 : kc + 1 ≤ mc) (h2 : ks + N ≤ ms) (hdg : decode (mbM M) pc = .ok (.newarray .long, 2)) (hq : pc + 2 = q)
    (kk : ∀ X' : LX, X'.length = m + 1 → (∀ (i : Nat) (s : Nat × Nat), cSh X i = some s → cSh X' i = some s) → (∀ i' j' : Nat, i' < m → cP X' i' j' = cP X i' j') → cSh X' m = some (11, N) → EvX G d M mc ms ops h (kc + 1) (ks + N) q lv (.ref (h.1 + m) :: rest) X') : EvX G d M mc ms (addC (11, N) :: ops) h kc ks pc lv (.int n :: rest) X := by
  subst hl
  subst hq
  refine ev_newL hty hn hN hb h1 h2 hdg ?_
  rw [emb_addC]
  exact kk _ (okp_addC X).1 (okp_addC X).2 (fun _ _ w => by unfold addC; rw [cP_app, if_pos w]) addC_new
theorem ex_newR {n : Int32} {N idx t : Nat} {C : String} (hl : X.length = m) (ht : 12 ≤ t) (ht2 : t < 17) (hty : atyG (t - 10) = .object C) (hC : C ∈ [RX3, RX0, RX6]) (hcl : Cond.classLink (moM M) idx C ∈ TT) (hn : ¬ n < 0) (hN : n.toNatClampNeg = N) (hb : N * 4 ≤ 536870912) (h1 : kc + 1 ≤ mc) (h2 : ks + N ≤ ms) (hdg : decode (mbM M) pc = .ok (.anewarray idx, 3)) (hq : pc + 3 = q)
    (kk : ∀ X' : LX, X'.length = m + 1 → (∀ (i : Nat) (s : Nat × Nat), cSh X i = some s → cSh X' i = some s) → (∀ i' j' : Nat, i' < m → cP X' i' j' = cP X i' j') → cSh X' m = some (t, N) → EvX G d M mc ms ops h (kc + 1) (ks + N) q lv (.ref (h.1 + m) :: rest) X') : EvX G d M mc ms (addC (t, N) :: ops) h kc ks pc lv (.int n :: rest) X := by
  subst hl
  subst hq
  refine ev_newR ht ht2 hty hC hcl hn hN hb h1 h2 hdg ?_
  rw [emb_addC]
  exact kk _ (okp_addC X).1 (okp_addC X).2 (fun _ _ w => by unfold addC; rw [cP_app, if_pos w]) addC_new
theorem ex_new {idx ci : Nat} (hl : X.length = m) (hc : ci < 7) (hcl : Cond.classLink (moM M) idx (RXG ci) ∈ TT) (hin : Cond.instantiable (RXG ci) (nFG ci) ∈ TT) (hini : Cond.initialized (RXG ci) ∈ TT) (h1 : kc + 1 ≤ mc) (h2 : ks + nFG ci ≤ ms) (hdg : decode (mbM M) pc = .ok (.new idx, 3)) (hq : pc + 3 = q)
    (kk : ∀ X' : LX, X'.length = m + 1 → (∀ (i : Nat) (s : Nat × Nat), cSh X i = some s → cSh X' i = some s) → (∀ i' j' : Nat, i' < m → cP X' i' j' = cP X i' j') → cSh X' m = some (ci, 0) → EvX G d M mc ms ops h (kc + 1) (ks + nFG ci) q lv (.ref (h.1 + m) :: rest) X') : EvX G d M mc ms (addC (ci, 0) :: ops) h kc ks pc lv rest X := by
  subst hl
  subst hq
  refine ev_new hc hcl hin hini h1 h2 hdg ?_
  rw [emb_addC]
  exact kk _ (okp_addC X).1 (okp_addC X).2 (fun _ _ w => by unfold addC; rw [cP_app, if_pos w]) addC_new
theorem ex_multiI {n k : Int32} {N K idx : Nat} (hl : X.length = m) (hcl : Cond.classLink (moM M) idx ("[" ++ (FieldType.array .int).toString) ∈ TT) (harr : Cond.arrayClass .int ∈ TT) (hn : ¬ n < 0) (hk : ¬ k < 0) (hN : n.toNatClampNeg = N) (hK : k.toNatClampNeg = K) (hb1 : N * 4 ≤ 536870912) (hb2 : K * 4 ≤ 536870912) (h1 : kc + (1 + N) ≤ mc) (h2 : ks + (N + N * K) ≤ ms) (hdg : decode (mbM M) pc = .ok (.multianewarray idx 2, 4)) (hq : pc + 4 = q)
    (kk : ∀ X' : LX, X'.length = m + (N + 1) → (∀ (i : Nat) (s : Nat × Nat), cSh X i = some s → cSh X' i = some s) → (∀ i' j' : Nat, i' < m → cP X' i' j' = cP X i' j') → EvX G d M mc ms ops h (kc + 1 + N) (ks + N + N * K) q lv (.ref (h.1 + m) :: rest) X') : EvX G d M mc ms (addM 15 10 N K :: ops) h kc ks pc lv (.int k :: .int n :: rest) X := by
  subst hl
  subst hq
  refine ev_multiI hcl harr hn hk hN hK hb1 hb2 h1 h2 hdg ?_
  rw [emb_addM]
  exact kk _ (okp_addM X).1 (okp_addM X).2 (fun _ _ w => by unfold addM; rw [cP_app, if_pos w])
theorem ex_multiL {n k : Int32} {N K idx : Nat} (hl : X.length = m) (hcl : Cond.classLink (moM M) idx ("[" ++ (FieldType.array .long).toString) ∈ TT) (harr : Cond.arrayClass .long ∈ TT) (hn : ¬ n < 0) (hk : ¬ k < 0) (hN : n.toNatClampNeg = N) (hK : k.toNatClampNeg = K) (hb1 : N * 4 ≤ 536870912) (hb2 : K * 8 ≤ 536870912) (h1 : kc + (1 + N) ≤ mc) (h2 : ks + (N + N * K) ≤ ms) (hdg : decode (mbM M) pc = .ok (.multianewarray idx 2, 4)) (hq : pc + 4 = q)
    (kk : ∀ X' : LX, X'.length = m + (N + 1) → (∀ (i : Nat) (s : Nat × Nat), cSh X i = some s → cSh X' i = some s) → (∀ i' j' : Nat, i' < m → cP X' i' j' = cP X i' j') → EvX G d M mc ms ops h (kc + 1 + N) (ks + N + N * K) q lv (.ref (h.1 + m) :: rest) X') : EvX G d M mc ms (addM 16 11 N K :: ops) h kc ks pc lv (.int k :: .int n :: rest) X := by
  subst hl
  subst hq
  refine ev_multiL hcl harr hn hk hN hK hb1 hb2 h1 h2 hdg ?_
  rw [emb_addM]
  exact kk _ (okp_addM X).1 (okp_addM X).2 (fun _ _ w => by unfold addM; rw [cP_app, if_pos w])
theorem ex_iastore {k j n : Nat} {i x : Int32} (hl : X.length = m) (hs : cSh X k = some (10, n)) (hi : ixB i n) (hj : i.toNatClampNeg = j) (hdg : decode (mbM M) pc = .ok (.iastore, 1)) (hq : pc + 1 = q)
    (kk : ∀ X' : LX, X'.length = m → (∀ (i : Nat) (s : Nat × Nat), cSh X i = some s → cSh X' i = some s) → (∀ i' j' : Nat, cP X' i' j' = cP X i' j') → EvX G d M mc ms ops h kc ks q lv rest X') : EvX G d M mc ms (setI k j x :: ops) h kc ks pc lv (.int x :: .int i :: .ref (h.1 + k) :: rest) X := by
  subst hl
  subst hq
  subst hj
  refine ev_iastore (emb_sh.trans hs) hi hdg ?_
  rw [emb_setI (cSh_lt hs)]
  exact kk _ (okp_setI X).1 (okp_setI X).2 (fun _ _ => cP_setI)
theorem ex_aanull {k j n t ci : Nat} {i : Int32} (hl : X.length = m) (hs : cSh X k = some (t, n)) (ht : 12 ≤ t) (hty : atyG (t - 10) = .object (RXG ci)) (hi : ixB i n) (hj : i.toNatClampNeg = j) (hdg : decode (mbM M) pc = .ok (.aastore, 1)) (hq : pc + 1 = q)
    (kk : ∀ X' : LX, X'.length = m → (∀ (i : Nat) (s : Nat × Nat), cSh X i = some s → cSh X' i = some s) → ((∀ i' j' : Nat, ¬ (i' = k ∧ j' = j) → cP X' i' j' = cP X i' j') ∧ cP X' k j = none) → EvX G d M mc ms ops h kc ks q lv rest X') : EvX G d M mc ms (setR k j none :: ops) h kc ks pc lv (.null :: .int i :: .ref (h.1 + k) :: rest) X := by
  subst hl
  subst hq
  subst hj
  refine ev_aanull (emb_sh.trans hs) ht hty hi hdg ?_
  have e := emb_setR (h := h) (X := X) (k := k) (j := i.toNatClampNeg) (x := none) (cSh_lt hs)
  rw [show rfv h.1 none = Value.null from rfl] at e
  rw [e]
  exact kk _ (okp_setR X).1 (okp_setR X).2 ⟨fun _ _ w => (cP_setR (cSh_lt hs)).trans (if_neg w), (cP_setR (cSh_lt hs)).trans (if_pos ⟨rfl, rfl⟩)⟩
theorem ex_getR {k j idx ci c r : Nat} (hs : cSh X k = some (ci, c)) (hp : cP X k j = some r) (hF : FL M idx ci j) (hrf : isRf (ftyG ci j) = true) (hdg : decode (mbM M) pc = .ok (.getfield idx, 3)) (hq : pc + 3 = q)
    (kk : EvX G d M mc ms ops h kc ks q lv (.ref (h.1 + r) :: rest) X) : EvX G d M mc ms ops h kc ks pc lv (.ref (h.1 + k) :: rest) X := by
  subst hq
  refine ev_getf (emb_sh.trans hs) hF ?_ hdg kk
  unfold fvalG
  rw [if_pos hrf]
  exact emb_P.trans (congrArg (rfv h.1) hp)
theorem ex_aastore {k j n t ci r : Nat} {i : Int32} (hl : X.length = m) (hs : cSh X k = some (t, n)) (ht : 12 ≤ t) (hty : atyG (t - 10) = .object (RXG ci)) (hc : ci < 7) (hb : cSh X r = some (ci, 0)) (hi : ixB i n) (hj : i.toNatClampNeg = j) (hdg : decode (mbM M) pc = .ok (.aastore, 1)) (hq : pc + 1 = q)
    (kk : ∀ X' : LX, X'.length = m → (∀ (i : Nat) (s : Nat × Nat), cSh X i = some s → cSh X' i = some s) → ((∀ i' j' : Nat, ¬ (i' = k ∧ j' = j) → cP X' i' j' = cP X i' j') ∧ cP X' k j = some r) → EvX G d M mc ms ops h kc ks q lv rest X') : EvX G d M mc ms (setR k j (some r) :: ops) h kc ks pc lv (.ref (h.1 + r) :: .int i :: .ref (h.1 + k) :: rest) X := by
  subst hl
  subst hq
  subst hj
  refine ev_aastore (emb_sh.trans hs) ht hty (emb_sh.trans hb) hc hi hdg ?_
  have e := emb_setR (h := h) (X := X) (k := k) (j := i.toNatClampNeg) (x := some r) (cSh_lt hs)
  rw [show rfv h.1 (some r) = Value.ref (h.1 + r) from rfl] at e
  rw [e]
  exact kk _ (okp_setR X).1 (okp_setR X).2 ⟨fun _ _ w => (cP_setR (cSh_lt hs)).trans (if_neg w), (cP_setR (cSh_lt hs)).trans (if_pos ⟨rfl, rfl⟩)⟩
/-- a call of a nest mate's construction -/
theorem ex_callN {N : MI} {host : String} {idx d' nc ns ci k : Nat} {f : LX → Nat → LX} (hl : X.length = m) (hs : cSh X k = some (ci, 0)) (hM : MtX d' N nc ns ci f) (hO : OpK nc (fun X => f X k)) (hP : OpP k (fun X => f X k)) (hC : CalI N 0) (hlk : Cond.methodLinkNest (moM M) idx (myM N) host ∈ nestW) (hd : d' + 1 ≤ d) (hW : (rest.map fun v => v.category).sum ≤ 8) (h1 : kc + nc ≤ mc) (h2 : ks + ns ≤ ms) (hdg : decode (mbM M) pc = .ok (.invokespecial idx, 3)) (hq : pc + 3 = q)
    (kk : ∀ X' : LX, X'.length = m + nc → (∀ (i : Nat) (s : Nat × Nat), cSh X i = some s → cSh X' i = some s) → (∀ i' j' : Nat, i' < k → cP X' i' j' = cP X i' j') → EvX G d M mc ms ops h (kc + nc) (ks + ns) q lv rest X') : EvX G d M mc ms ((fun X => f X k) :: ops) h kc ks pc lv (.ref (h.1 + k) :: rest) X := by
  subst hl
  subst hq
  refine ev_invIN (As := []) (hM h X k hs G) hC hlk hd rfl rfl hW h1 h2 hdg (fun v h' hq => ?_)
  obtain ⟨e1, e2⟩ := hq
  subst e1
  subst e2
  exact kk _ (hO X).1 (hO X).2 (fun i' j' w => hP X i' j' w (Nat.lt_trans w (cSh_lt hs)))
theorem ex_callI {N : MI} {idx d' nc ns ci k : Nat} {f : LX → Nat → LX} (hl : X.length = m) (hs : cSh X k = some (ci, 0)) (hM : MtX d' N nc ns ci f) (hO : OpK nc (fun X => f X k)) (hP : OpP k (fun X => f X k)) (hC : CalI N 0) (hlk : Cond.methodLink (moM M) idx (myM N) ∈ TT) (hd : d' + 1 ≤ d) (hW : (rest.map fun v => v.category).sum ≤ 8) (h1 : kc + nc ≤ mc) (h2 : ks + ns ≤ ms) (hdg : decode (mbM M) pc = .ok (.invokespecial idx, 3)) (hq : pc + 3 = q)
    (kk : ∀ X' : LX, X'.length = m + nc → (∀ (i : Nat) (s : Nat × Nat), cSh X i = some s → cSh X' i = some s) → (∀ i' j' : Nat, i' < k → cP X' i' j' = cP X i' j') → EvX G d M mc ms ops h (kc + nc) (ks + ns) q lv rest X') : EvX G d M mc ms ((fun X => f X k) :: ops) h kc ks pc lv (.ref (h.1 + k) :: rest) X := by
  subst hl
  subst hq
  refine ev_invI (As := []) (hM h X k hs G) hC hlk hd rfl rfl hW h1 h2 hdg (fun v h' hq => ?_)
  obtain ⟨e1, e2⟩ := hq
  subst e1
  subst e2
  exact kk _ (hO X).1 (hO X).2 (fun i' j' w => hP X i' j' w (Nat.lt_trans w (cSh_lt hs)))
theorem ex_ret (hr : mrM M = none) (h1 : kc ≤ mc) (h2 : ks ≤ ms) (hdg : decode (mbM M) pc = .ok (.return_, 1)) : EvX G d M mc ms [] h kc ks pc lv [] X := ev_vret hr ⟨rfl, rfl⟩ h1 h2 hdg
end EVX
theorem MtX.of {d : Nat} {M : MI} {nc ns ci : Nat} {f : LX → Nat → LX} (hpl : plainName (myM M).cls = true) (ho : moM M = (myM M).cls) (hml : 1 ≤ mlM M) (ops : Nat → Nat → List (LX → LX)) (hf : ∀ (X : LX) (k : Nat), f X k = runX (ops k X.length) X)
    (body : ∀ (G : GG) (h : PH) (X : LX) (k n : Nat), X.length = n → cSh X k = some (ci, 0) → EvX G d M nc ns (ops k n) h 0 0 0 [(0, .ref (h.1 + k))] [] X) : MtX d M nc ns ci f := by
  intro h X k hs G
  refine MtG.of hpl ho (by exact hml) ?_
  have z := body G h X k X.length rfl hs
  rw [hf]
  exact z
theorem emb_nil {G : GG} {h : PH} {H : Heap} (R : RelH G h H) : RelH G (emb h []) H := by
  obtain ⟨R1, R2, R3, R4⟩ := R
  refine ⟨R1, R2, R3, fun q kn hq => ?_⟩
  rcases base_cases h.1 q with z | ⟨k, rfl⟩
  · rw [(emb_lt z).1] at hq
    obtain ⟨g1, g2⟩ := R4 q kn hq
    exact ⟨g1, cellG_kept g2 rfl (emb_lt z).2.1 (emb_lt z).2.2.1 (emb_lt z).2.2.2⟩
  · rw [emb_sh] at hq
    cases hq
theorem ev_nil {G : GG} {d : Nat} {M : MI} {mc ms : Nat} {Q : Option Value → PH → Prop} {kc ks pc : Nat} {lv : List (Nat × Value)} {st : List Value} {h : PH} (k : Ev G d M mc ms Q kc ks pc lv st (emb h [])) : Ev G d M mc ms Q kc ks pc lv st h :=
  fun p l e s m args below meth c H locs ls X R L hl => k p l e s m args below meth c H locs ls X (emb_nil R) L hl
