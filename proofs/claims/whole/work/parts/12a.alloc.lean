section ALLOC
variable {G : GG} {d : Nat} {M : MI} {mc ms : Nat} {Q : Option Value → PH → Prop} {kc ks pc : Nat} {lv : List (Nat × Value)} {rest : List Value} {h : PH}
/-- a heap with one more cell -/
def pushH (h : PH) (kn : Nat × Nat) : PH := (h.1 + 1, fun q => if q = h.1 then some kn else h.2.1 q, fun q => if q = h.1 then fun _ => .null else h.2.2.1 q, fun q => if q = h.1 then fun _ => 0 else h.2.2.2.1 q, fun q => if q = h.1 then fun _ => 0 else h.2.2.2.2 q)
theorem cellG_kept {H H1 : Heap} {h h1 : PH} {q : Nat} {kn : Nat × Nat} (g2 : cellG G h q kn H) (oq : H1[q]? = H[q]?) (hP : h1.2.2.1 q = h.2.2.1 q) (hS : h1.2.2.2.1 q = h.2.2.2.1 q) (hL : h1.2.2.2.2 q = h.2.2.2.2 q) : cellG G h1 q kn H1 := by
  unfold cellG at g2 ⊢
  split at g2
  · rename_i y
    rw [if_pos y]
    refine (g2.kept oq).to (fun k _ => ?_)
    simp only [fvalG, hP, hS]
  · rename_i y
    rw [if_neg y]
    split at g2
    · rename_i y
      rw [if_pos y, oq, g2]
      simp only [hS]
    · rename_i y
      rw [if_neg y]
      split at g2
      · rename_i y
        rw [if_pos y, oq, g2]
        simp only [hL]
      · rename_i y
        rw [if_neg y]
        refine ⟨g2.1, ?_⟩
        rw [oq, g2.2]
        simp only [hP]
theorem cellG_lt {H : Heap} {h : PH} {q : Nat} {kn : Nat × Nat} (g2 : cellG G h q kn H) : q < H.size := by
  unfold cellG at g2
  split at g2
  · obtain ⟨cell, q1, -⟩ := g2
    exact (Array.getElem?_eq_some_iff.mp q1).1
  · split at g2
    · exact (Array.getElem?_eq_some_iff.mp g2).1
    · split at g2
      · exact (Array.getElem?_eq_some_iff.mp g2).1
      · exact (Array.getElem?_eq_some_iff.mp g2.2).1
theorem RelH.push {H H1 : Heap} {kn : Nat × Nat} (R : RelH G h H) (hz : H1.size = H.size + 1) (oq : ∀ q : Nat, q < H.size → H1[q]? = H[q]?) (hc : cellG G (pushH h kn) h.1 kn H1) : RelH G (pushH h kn) H1 := by
  obtain ⟨R1, R2, R3, R4⟩ := R
  refine ⟨by rw [hz, R1]; rfl, by omega, fun q hq => (oq q (by omega)).trans (R3 q hq), fun q kq hq => ?_⟩
  by_cases z : q = h.1
  · subst z
    have e : kq = kn := by
      have : some kn = some kq := (if_pos rfl).symm.trans hq
      exact (Option.some.inj this).symm
    subst e
    exact ⟨by omega, hc⟩
  · have hq' : h.2.1 q = some kq := (if_neg z).symm.trans hq
    obtain ⟨g1, g2⟩ := R4 q kq hq'
    exact ⟨g1, cellG_kept g2 (oq q (cellG_lt g2)) (if_neg z) (if_neg z) (if_neg z)⟩
theorem ev_newI {n : Int32} {N : Nat} (hty : Cond.arrayClass .int ∈ TT) (hn : ¬ n < 0) (hN : n.toNatClampNeg = N) (hb : N * 4 ≤ 536870912) (h1 : kc + 1 ≤ mc) (h2 : ks + N ≤ ms) (hdg : decode (mbM M) pc = .ok (.newarray .int, 2))
    (kk : Ev G d M mc ms Q (kc + 1) (ks + N) (pc + 2) lv (.ref h.1 :: rest) (pushH h (10, N))) : Ev G d M mc ms Q kc ks pc lv (.int n :: rest) h := by
  intro p l e s m args below meth c H locs ls X R L hl
  refine va_newaK (atype := .int) X.1 X.2.1 (X.2.2.2.2.1 _ (List.mem_cons_of_mem _ hty)) rfl hdg rfl hn hN hb h1 h2 R.1 fun H1 cA e1 z1 o1 _ hNm => ?_
  have hA := (X.2.2.2.2.2.2.2.1.1.2 0 _ (tysG_at G (by decide))).2
  have hcA : cA = G.2.1 0 := Option.some.inj (hNm.symm.trans hA)
  subst hcA
  refine kk p l e s m args below meth c H1 locs ls X (R.push (by rw [z1, R.1]) (fun q hq => o1 q (by rw [← R.1]; exact hq)) ?_) L hl
  unfold cellG
  rw [if_neg (show ¬ (10 : Nat) < 7 by decide), if_pos rfl, e1]
  refine congrArg some (congrArg (arrV (G.2.1 0) N) (funext fun j => ?_))
  show Value.int 0 = Value.int ((if h.1 = h.1 then fun _ => 0 else h.2.2.2.1 h.1) j)
  rw [if_pos rfl]
theorem ev_newL {n : Int32} {N : Nat} (hty : Cond.arrayClass .long ∈ TT) (hn : ¬ n < 0) (hN : n.toNatClampNeg = N) (hb : N * 8 ≤ 536870912) (h1 : kc + 1 ≤ mc) (h2 : ks + N ≤ ms) (hdg : decode (mbM M) pc = .ok (.newarray .long, 2))
    (kk : Ev G d M mc ms Q (kc + 1) (ks + N) (pc + 2) lv (.ref h.1 :: rest) (pushH h (11, N))) : Ev G d M mc ms Q kc ks pc lv (.int n :: rest) h := by
  intro p l e s m args below meth c H locs ls X R L hl
  refine va_newaK (atype := .long) X.1 X.2.1 (X.2.2.2.2.1 _ (List.mem_cons_of_mem _ hty)) rfl hdg rfl hn hN hb h1 h2 R.1 fun H1 cA e1 z1 o1 _ hNm => ?_
  have hA := (X.2.2.2.2.2.2.2.1.1.2 1 _ (tysG_at G (by decide))).2
  have hcA : cA = G.2.1 1 := Option.some.inj (hNm.symm.trans hA)
  subst hcA
  refine kk p l e s m args below meth c H1 locs ls X (R.push (by rw [z1, R.1]) (fun q hq => o1 q (by rw [← R.1]; exact hq)) ?_) L hl
  unfold cellG
  rw [if_neg (show ¬ (11 : Nat) < 7 by decide), if_neg (show ¬ (11 : Nat) = 10 by decide), if_pos rfl, e1]
  refine congrArg some (congrArg (arrV (G.2.1 1) N) (funext fun j => ?_))
  show Value.long 0 = Value.long ((if h.1 = h.1 then fun _ => 0 else h.2.2.2.2 h.1) j)
  rw [if_pos rfl]
theorem ev_newR {n : Int32} {N idx t : Nat} {C : String} (ht : 12 ≤ t) (ht2 : t < 17) (hty : atyG (t - 10) = .object C) (hC : C ∈ [RX3, RX0, RX6]) (hcl : Cond.classLink (moM M) idx C ∈ TT) (hn : ¬ n < 0) (hN : n.toNatClampNeg = N) (hb : N * 4 ≤ 536870912) (h1 : kc + 1 ≤ mc) (h2 : ks + N ≤ ms) (hdg : decode (mbM M) pc = .ok (.anewarray idx, 3))
    (kk : Ev G d M mc ms Q (kc + 1) (ks + N) (pc + 3) lv (.ref h.1 :: rest) (pushH h (t, N))) : Ev G d M mc ms Q kc ks pc lv (.int n :: rest) h := by
  intro p l e s m args below meth c H locs ls X R L hl
  subst hN
  refine W.anew X.1 X.2.1 X.2.2.2.1 (X.2.2.2.2.1 _ (List.mem_cons_of_mem _ hcl)) (va_AO.use (X.2.2.2.2.2.2.2.1.2.2.2.1 C hC)) rfl hdg rfl hn hb h1 h2 fun cA kA comp f1 f2 f3 f4 => ?_
  generalize hH1 : H.push ({ cls := cA, slots := Array.replicate n.toNatClampNeg .null, vm := .none } : Cell) = H1
  have z1 : H1.size = H.size + 1 := by rw [← hH1, Array.size_push]
  have e1 : H1[H.size]? = some (arrV cA n.toNatClampNeg (fun _ => .null)) := by rw [← hH1, Array.getElem?_push_size, ← arrV_new]
  have o1 : ∀ q : Nat, q < H.size → H1[q]? = H[q]? := fun q hq => by rw [← hH1, Array.getElem?_push, if_neg (Nat.ne_of_lt hq)]
  have hA := (X.2.2.2.2.2.2.2.1.1.2 (t - 10) _ (tysG_at G (by omega))).2
  rw [hty] at hA
  obtain ⟨kA', comp', -, -, -, hA4⟩ := hA
  have hcA : cA = G.2.1 (t - 10) := Option.some.inj (f1.symm.trans hA4)
  subst hcA
  have hs := R.1
  rw [show H.size = h.1 from hs] at e1 ⊢
  refine kk p l e s m args below meth c H1 locs ls X (R.push z1 o1 ?_) L hl
  unfold cellG
  rw [if_neg (by show ¬ t < 7; omega), if_neg (by show ¬ t = 10; omega), if_neg (by show ¬ t = 11; omega)]
  refine ⟨ht2, ?_⟩
  rw [e1]
  refine congrArg some (congrArg (arrV (G.2.1 (t - 10)) _) (funext fun j => ?_))
  show Value.null = (if h.1 = h.1 then fun _ => .null else h.2.2.1 h.1) j
  rw [if_pos rfl]
theorem dflG {ci : Nat} (hc : ci < 7) {k : Nat} (hk : k < nFG ci) : defaultValue (ftyG ci k) = if isRf (ftyG ci k) = true then .null else .int 0 := by
  have h0 : (List.range 7).all (fun c => (List.range (nFG c)).all (fun k => decide (defaultValue (ftyG c k) = if isRf (ftyG c k) = true then .null else .int 0))) = true := by decide +kernel
  have h1 := List.all_eq_true.mp h0 ci (List.mem_range.mpr hc)
  have h2 := List.all_eq_true.mp h1 k (List.mem_range.mpr hk)
  exact of_decide_eq_true h2
theorem ev_new {idx ci : Nat} (hc : ci < 7) (hcl : Cond.classLink (moM M) idx (RXG ci) ∈ TT) (hin : Cond.instantiable (RXG ci) (nFG ci) ∈ TT) (hini : Cond.initialized (RXG ci) ∈ TT) (h1 : kc + 1 ≤ mc) (h2 : ks + nFG ci ≤ ms) (hdg : decode (mbM M) pc = .ok (.new idx, 3))
    (kk : Ev G d M mc ms Q (kc + 1) (ks + nFG ci) (pc + 3) lv (.ref h.1 :: rest) (pushH h (ci, 0))) : Ev G d M mc ms Q kc ks pc lv rest h := by
  intro p l e s m args below meth c H locs ls X R L hl
  have hts : ∀ w ∈ TT, w.before args s = true := fun w hw => X.2.2.2.2.1 w (List.mem_cons_of_mem _ hw)
  have hKn := X.2.2.2.2.2.2.2.1.1.1 ci _ (vwCl_at hc)
  refine W.newcK X.1 X.2.1 X.2.2.2.1 (hts _ hcl) (hts _ hin) (hts _ hini) rfl hdg h1 h2 hKn.2.1 rfl fun H1 kC hkC e1 z1 o1 => ?_
  have hs := R.1
  rw [show H.size = h.1 from hs] at e1 ⊢
  refine kk p l e s m args below meth c H1 locs ls X (R.push z1 o1 ?_) L hl
  unfold cellG
  rw [if_pos hc]
  refine (u_born (ftyG ci) hts (u_wsG hc) hKn hkC e1 (fun k hk => ftyG_ok hc hk)).to (fun k hk => ?_)
  rw [dflG hc hk]
  unfold fvalG
  show _ = if isRf (ftyG ci k) = true then (if h.1 = h.1 then fun _ => .null else h.2.2.1 h.1) k else Value.int ((if h.1 = h.1 then fun _ => 0 else h.2.2.2.1 h.1) k)
  rw [if_pos rfl, if_pos rfl]
theorem ev_objInit {idx a : Nat} (hlk : Cond.methodLink (moM M) idx objectInit ∈ TT) (hi : Cond.instanceMethod objectInit ∈ TT) (hco : Cond.code objectInit ⟨#[0xb1]⟩ 1 none ∈ TT) (hd : 1 ≤ d) (hW : (rest.map fun v => v.category).sum ≤ 8) (hdg : decode (mbM M) pc = .ok (.invokespecial idx, 3))
    (kk : Ev G d M mc ms Q kc ks (pc + 3) lv rest h) : Ev G d M mc ms Q kc ks pc lv (.ref a :: rest) h := by
  intro p l e s m args below meth c H locs ls X R L hl
  have hts : ∀ w ∈ TT, w.before args s = true := fun w hw => X.2.2.2.2.1 w (List.mem_cons_of_mem _ hw)
  refine W.objInit X.1 X.2.1 X.2.2.2.1 (hts _ hlk) (hts _ hi) (hts _ hco) rfl (by rw [X.2.2.1]; exact hl.1) rfl hdg ?_ ?_ ?_
  · show 1 ≤ d
    exact hd
  · show _ ≤ 64 * d
    have e : (F0 m pc ls (Value.ref a :: rest)).monitorRoom = 0 := rfl
    omega
  · exact kk p l e s m args below meth c H locs ls X R L hl
theorem ev_aanull {a n t ci : Nat} {i : Int32} (hs : h.2.1 a = some (t, n)) (ht : 12 ≤ t) (hty : atyG (t - 10) = .object (RXG ci)) (hin : vp_in i n) (hdg : decode (mbM M) pc = .ok (.aastore, 1))
    (kk : Ev G d M mc ms Q kc ks (pc + 1) lv rest (h.1, h.2.1, upd2 h.2.2.1 a i.toNatClampNeg .null, h.2.2.2.1, h.2.2.2.2)) : Ev G d M mc ms Q kc ks pc lv (.null :: .int i :: .ref a :: rest) h := by
  intro p l e s m args below meth c H locs ls X R L hl
  obtain ⟨hga, ht2, hcell⟩ := R.refs hs ht
  have hz := X.2.2.2.2.2.2.2.1.1.2 (t - 10) _ (tysG_at G (by omega))
  rw [hty] at hz
  refine va_WaastN (C := RXG ci) X.1 X.2.1 hcell (hz.1 n (fun j => h.2.2.1 a j)) (fun h => by cases h) (by show ¬ (i < 0 ∨ (arrV _ _ _).slots.size ≤ _); rw [arrV_size]; exact hin) rfl rfl hdg fun H1 e1 z oq => ?_
  refine kk p l e s m args below meth c H1 _ ls X (R.write hs z oq (fun q z => upd2_ne z) (fun q _ => rfl) (fun q _ => rfl) ?_) (locs_app L hga) hl
  unfold cellG
  rw [if_neg (by show ¬ t < 7; omega), if_neg (by show ¬ t = 10; omega), if_neg (by show ¬ t = 11; omega)]
  refine ⟨ht2, ?_⟩
  rw [e1, arrV_store]
  congr 2
  funext q
  by_cases hq : q = i.toNatClampNeg <;> simp [updV, upd2_same, hq]
/-- a heap with a row of rows more -/
def pushM (h : PH) (t r N K : Nat) : PH := (h.1 + 1 + N, fun q => if q = h.1 then some (t, N) else if h.1 < q ∧ q < h.1 + 1 + N then some (r, K) else h.2.1 q, fun q => if q = h.1 then (fun j => if j < N then .ref (h.1 + 1 + j) else .null) else if h.1 < q ∧ q < h.1 + 1 + N then fun _ => .null else h.2.2.1 q, fun q => if h.1 ≤ q ∧ q < h.1 + 1 + N then fun _ => 0 else h.2.2.2.1 q, fun q => if h.1 ≤ q ∧ q < h.1 + 1 + N then fun _ => 0 else h.2.2.2.2 q)
theorem outer_arr (c : ClassId) (N a : Nat) : ∀ i : Nat, Jvm.Free.Multi.outerC c N a i = arrV c N (fun j => if j < i then .ref (a + 1 + j) else .null)
  | 0 => by
    show ({ cls := c, slots := Array.replicate N .null, vm := .none } : Cell) = _
    rw [arrV_new]
    exact congrArg (arrV c N) (funext fun j => (if_neg (Nat.not_lt_zero j)).symm)
  | i + 1 => by
    show (Jvm.Free.Multi.outerC c N a i).setSlot i (.ref (a + 1 + i)) = _
    rw [outer_arr c N a i, arrV_store]
    refine congrArg (arrV c N) (funext fun j => ?_)
    unfold updV
    by_cases z : j = i
    · subst z
      simp
    · by_cases y : j < i
      · simp [z, y, Nat.lt_succ_of_lt y]
      · simp [z, y, show ¬ j < i + 1 by omega]
theorem ev_multiI {n k : Int32} {N K idx : Nat} (hcl : Cond.classLink (moM M) idx ("[" ++ (FieldType.array .int).toString) ∈ TT) (harr : Cond.arrayClass .int ∈ TT) (hn : ¬ n < 0) (hk : ¬ k < 0) (hN : n.toNatClampNeg = N) (hK : k.toNatClampNeg = K) (hb1 : N * 4 ≤ 536870912) (hb2 : K * 4 ≤ 536870912) (h1 : kc + (1 + N) ≤ mc) (h2 : ks + (N + N * K) ≤ ms) (hdg : decode (mbM M) pc = .ok (.multianewarray idx 2, 4))
    (kk : Ev G d M mc ms Q (kc + 1 + N) (ks + N + N * K) (pc + 4) lv (.ref h.1 :: rest) (pushM h 15 10 N K)) : Ev G d M mc ms Q kc ks pc lv (.int k :: .int n :: rest) h := by
  intro p l e s m args below meth c H locs ls X R L hl
  have hts : ∀ w ∈ TT, w.before args s = true := fun w hw => X.2.2.2.2.1 w (List.mem_cons_of_mem _ hw)
  subst hN
  subst hK
  intro T hT Xs
  have hover : (Cond.arrayOver (.array .int)).before args s = true := X.2.2.2.2.2.2.2.1.2.2.2.2 .int (by decide)
  obtain ⟨vm₁, cA, comp, -, fA, fC, hO, -, X', step⟩ := Xs.multianewarray2F X.1 X.2.2.2.1 (hts _ hcl) hover (hts _ harr) (g := F0 m pc ls (.int k :: .int n :: rest)) rfl (by rw [X.2.1]; exact hdg) rfl hn hk hb1 hb2 (by omega) rfl rfl h1 h2
  have hA := (X.2.2.2.2.2.2.2.1.1.2 5 _ (tysG_at G (by decide))).2
  have hcA : cA = G.2.1 5 := Option.some.inj (fA.symm.trans hA)
  have hB := (X.2.2.2.2.2.2.2.1.1.2 0 _ (tysG_at G (by decide))).2
  have hcB : comp = G.2.1 0 := Option.some.inj (fC.symm.trans hB)
  subst hcA
  subst hcB
  generalize hF : Jvm.Free.Multi.fill (T.setVm vm₁) (G.2.1 5) (G.2.1 0) n.toNatClampNeg k.toNatClampNeg (defaultValue .int) n.toNatClampNeg = F at X' step
  have hTh : (T.setVm vm₁).heap = H := hT
  obtain ⟨f1, f2, -, -⟩ := Jvm.Free.Multi.fill_facts (T.setVm vm₁) (G.2.1 5) (G.2.1 0) n.toNatClampNeg k.toNatClampNeg (defaultValue .int) n.toNatClampNeg
  rw [hF, hTh, R.1] at f1 f2
  have hold : ∀ x : Nat, x < h.1 → F.heap[x]? = H[x]? := fun x hx => by
    have := Jvm.Free.Multi.fill_old (T.setVm vm₁) (G.2.1 5) (G.2.1 0) n.toNatClampNeg k.toNatClampNeg (defaultValue .int) (a := x) (by rw [hTh, R.1]; exact hx) n.toNatClampNeg
    rw [hF, hTh] at this
    exact this
  have hrow : ∀ j : Nat, j < n.toNatClampNeg → F.heap[h.1 + 1 + j]? = some (arrV (G.2.1 0) k.toNatClampNeg (fun _ => .int 0)) := fun j hj => by
    have := Jvm.Free.Multi.fill_inner (T.setVm vm₁) (G.2.1 5) (G.2.1 0) n.toNatClampNeg k.toNatClampNeg (defaultValue .int) n.toNatClampNeg j hj
    rw [hF, hTh, R.1] at this
    rw [this, ← arrV_new]
    rfl
  rw [outer_arr] at f2
  rw [hT, R.1] at step
  have hRel : RelH G (pushM h 15 10 n.toNatClampNeg k.toNatClampNeg) F.heap := by
    have R1 := R.1
    have R2 := R.2.1
    refine ⟨f1, by rw [f1]; omega, fun q hq => (hold q (by omega)).trans (R.2.2.1 q hq), fun q kq hq => ?_⟩
    by_cases z : q = h.1
    · subst z
      have e : kq = (15, n.toNatClampNeg) := by
        have : some (15, n.toNatClampNeg) = some kq := (if_pos rfl).symm.trans hq
        exact (Option.some.inj this).symm
      subst e
      refine ⟨by omega, ?_⟩
      unfold cellG
      rw [if_neg (show ¬ (15 : Nat) < 7 by decide), if_neg (show ¬ (15 : Nat) = 10 by decide), if_neg (show ¬ (15 : Nat) = 11 by decide)]
      refine ⟨show (15 : Nat) < 17 by decide, f2.trans (congrArg some (congrArg (arrV (G.2.1 5) _) (funext fun j => ?_)))⟩
      exact (congrFun (show (pushM h 15 10 n.toNatClampNeg k.toNatClampNeg).2.2.1 h.1 = _ from if_pos rfl) j).symm
    · by_cases y : h.1 < q ∧ q < h.1 + 1 + n.toNatClampNeg
      · have e : kq = (10, k.toNatClampNeg) := by
          have : some (10, k.toNatClampNeg) = some kq := ((if_neg z).trans (if_pos y)).symm.trans hq
          exact (Option.some.inj this).symm
        subst e
        refine ⟨by omega, ?_⟩
        obtain ⟨j, rfl⟩ : ∃ j, q = h.1 + 1 + j := ⟨q - (h.1 + 1), by omega⟩
        unfold cellG
        rw [if_neg (show ¬ (10 : Nat) < 7 by decide), if_pos rfl, hrow j (by omega)]
        refine congrArg some (congrArg (arrV (G.2.1 0) _) (funext fun i => ?_))
        exact congrArg Value.int (congrFun (show (pushM h 15 10 n.toNatClampNeg k.toNatClampNeg).2.2.2.1 (h.1 + 1 + j) = (fun _ => 0) from if_pos ⟨by omega, y.2⟩) i).symm
      · have hq' : h.2.1 q = some kq := ((if_neg z).trans (if_neg y)).symm.trans hq
        obtain ⟨g1, g2⟩ := R.2.2.2 q kq hq'
        have hlt := cellG_lt g2
        have y2 : ¬ (h.1 ≤ q ∧ q < h.1 + 1 + n.toNatClampNeg) := fun w => by omega
        exact ⟨g1, cellG_kept g2 (hold q (by omega)) ((if_neg z).trans (if_neg y)) (if_neg y2) (if_neg y2)⟩
  obtain ⟨t, a1, b1⟩ := kk p l e s m args below meth c F.heap locs ls X hRel L hl F rfl X'
  exact ⟨t, step t a1, b1⟩
theorem ev_multiL {n k : Int32} {N K idx : Nat} (hcl : Cond.classLink (moM M) idx ("[" ++ (FieldType.array .long).toString) ∈ TT) (harr : Cond.arrayClass .long ∈ TT) (hn : ¬ n < 0) (hk : ¬ k < 0) (hN : n.toNatClampNeg = N) (hK : k.toNatClampNeg = K) (hb1 : N * 4 ≤ 536870912) (hb2 : K * 8 ≤ 536870912) (h1 : kc + (1 + N) ≤ mc) (h2 : ks + (N + N * K) ≤ ms) (hdg : decode (mbM M) pc = .ok (.multianewarray idx 2, 4))
    (kk : Ev G d M mc ms Q (kc + 1 + N) (ks + N + N * K) (pc + 4) lv (.ref h.1 :: rest) (pushM h 16 11 N K)) : Ev G d M mc ms Q kc ks pc lv (.int k :: .int n :: rest) h := by
  intro p l e s m args below meth c H locs ls X R L hl
  have hts : ∀ w ∈ TT, w.before args s = true := fun w hw => X.2.2.2.2.1 w (List.mem_cons_of_mem _ hw)
  subst hN
  subst hK
  intro T hT Xs
  have hover : (Cond.arrayOver (.array .long)).before args s = true := X.2.2.2.2.2.2.2.1.2.2.2.2 .long (by decide)
  obtain ⟨vm₁, cA, comp, -, fA, fC, hO, -, X', step⟩ := Xs.multianewarray2F X.1 X.2.2.2.1 (hts _ hcl) hover (hts _ harr) (g := F0 m pc ls (.int k :: .int n :: rest)) rfl (by rw [X.2.1]; exact hdg) rfl hn hk hb1 hb2 (by omega) rfl rfl h1 h2
  have hA := (X.2.2.2.2.2.2.2.1.1.2 6 _ (tysG_at G (by decide))).2
  have hcA : cA = G.2.1 6 := Option.some.inj (fA.symm.trans hA)
  have hB := (X.2.2.2.2.2.2.2.1.1.2 1 _ (tysG_at G (by decide))).2
  have hcB : comp = G.2.1 1 := Option.some.inj (fC.symm.trans hB)
  subst hcA
  subst hcB
  generalize hF : Jvm.Free.Multi.fill (T.setVm vm₁) (G.2.1 6) (G.2.1 1) n.toNatClampNeg k.toNatClampNeg (defaultValue .long) n.toNatClampNeg = F at X' step
  have hTh : (T.setVm vm₁).heap = H := hT
  obtain ⟨f1, f2, -, -⟩ := Jvm.Free.Multi.fill_facts (T.setVm vm₁) (G.2.1 6) (G.2.1 1) n.toNatClampNeg k.toNatClampNeg (defaultValue .long) n.toNatClampNeg
  rw [hF, hTh, R.1] at f1 f2
  have hold : ∀ x : Nat, x < h.1 → F.heap[x]? = H[x]? := fun x hx => by
    have := Jvm.Free.Multi.fill_old (T.setVm vm₁) (G.2.1 6) (G.2.1 1) n.toNatClampNeg k.toNatClampNeg (defaultValue .long) (a := x) (by rw [hTh, R.1]; exact hx) n.toNatClampNeg
    rw [hF, hTh] at this
    exact this
  have hrow : ∀ j : Nat, j < n.toNatClampNeg → F.heap[h.1 + 1 + j]? = some (arrV (G.2.1 1) k.toNatClampNeg (fun _ => .long 0)) := fun j hj => by
    have := Jvm.Free.Multi.fill_inner (T.setVm vm₁) (G.2.1 6) (G.2.1 1) n.toNatClampNeg k.toNatClampNeg (defaultValue .long) n.toNatClampNeg j hj
    rw [hF, hTh, R.1] at this
    rw [this, ← arrV_new]
    rfl
  rw [outer_arr] at f2
  rw [hT, R.1] at step
  have hRel : RelH G (pushM h 16 11 n.toNatClampNeg k.toNatClampNeg) F.heap := by
    have R1 := R.1
    have R2 := R.2.1
    refine ⟨f1, by rw [f1]; omega, fun q hq => (hold q (by omega)).trans (R.2.2.1 q hq), fun q kq hq => ?_⟩
    by_cases z : q = h.1
    · subst z
      have e : kq = (16, n.toNatClampNeg) := by
        have : some (16, n.toNatClampNeg) = some kq := (if_pos rfl).symm.trans hq
        exact (Option.some.inj this).symm
      subst e
      refine ⟨by omega, ?_⟩
      unfold cellG
      rw [if_neg (show ¬ (16 : Nat) < 7 by decide), if_neg (show ¬ (16 : Nat) = 10 by decide), if_neg (show ¬ (16 : Nat) = 11 by decide)]
      refine ⟨show (16 : Nat) < 17 by decide, f2.trans (congrArg some (congrArg (arrV (G.2.1 6) _) (funext fun j => ?_)))⟩
      exact (congrFun (show (pushM h 16 11 n.toNatClampNeg k.toNatClampNeg).2.2.1 h.1 = _ from if_pos rfl) j).symm
    · by_cases y : h.1 < q ∧ q < h.1 + 1 + n.toNatClampNeg
      · have e : kq = (11, k.toNatClampNeg) := by
          have : some (11, k.toNatClampNeg) = some kq := ((if_neg z).trans (if_pos y)).symm.trans hq
          exact (Option.some.inj this).symm
        subst e
        refine ⟨by omega, ?_⟩
        obtain ⟨j, rfl⟩ : ∃ j, q = h.1 + 1 + j := ⟨q - (h.1 + 1), by omega⟩
        unfold cellG
        rw [if_neg (show ¬ (11 : Nat) < 7 by decide), if_neg (show ¬ (11 : Nat) = 10 by decide), if_pos rfl, hrow j (by omega)]
        refine congrArg some (congrArg (arrV (G.2.1 1) _) (funext fun i => ?_))
        exact congrArg Value.long (congrFun (show (pushM h 16 11 n.toNatClampNeg k.toNatClampNeg).2.2.2.2 (h.1 + 1 + j) = (fun _ => 0) from if_pos ⟨by omega, y.2⟩) i).symm
      · have hq' : h.2.1 q = some kq := ((if_neg z).trans (if_neg y)).symm.trans hq
        obtain ⟨g1, g2⟩ := R.2.2.2 q kq hq'
        have hlt := cellG_lt g2
        have y2 : ¬ (h.1 ≤ q ∧ q < h.1 + 1 + n.toNatClampNeg) := fun w => by omega
        exact ⟨g1, cellG_kept g2 (hold q (by omega)) ((if_neg z).trans (if_neg y)) (if_neg y2) (if_neg y2)⟩
  obtain ⟨t, a1, b1⟩ := kk p l e s m args below meth c F.heap locs ls X hRel L hl F rfl X'
  exact ⟨t, step t a1, b1⟩
end ALLOC
section LATE
variable {G : GG} {d : Nat} {M : MI} {mc ms : Nat} {Q : Option Value → PH → Prop} {kc ks pc : Nat} {lv : List (Nat × Value)} {rest : List Value} {h : PH}
theorem ev_aastore {a n t ci b nb : Nat} {i : Int32} (hs : h.2.1 a = some (t, n)) (ht : 12 ≤ t) (hty : atyG (t - 10) = .object (RXG ci)) (hb : h.2.1 b = some (ci, nb)) (hc : ci < 7) (hin : vp_in i n) (hdg : decode (mbM M) pc = .ok (.aastore, 1))
    (kk : Ev G d M mc ms Q kc ks (pc + 1) lv rest (h.1, h.2.1, upd2 h.2.2.1 a i.toNatClampNeg (.ref b), h.2.2.2.1, h.2.2.2.2)) : Ev G d M mc ms Q kc ks pc lv (.ref b :: .int i :: .ref a :: rest) h := by
  intro p l e s m args below meth c H locs ls X R L hl
  obtain ⟨hga, ht2, hcell⟩ := R.refs hs ht
  obtain ⟨-, cellV, g1, g2, g3, -⟩ := R.obj hb hc
  have hK := X.2.2.2.2.2.2.2.1.1
  have hlt : i.toNatClampNeg < n := Nat.not_le.mp fun q => hin (Or.inr q)
  have h0 : ¬ i < 0 := fun q => hin (Or.inl q)
  have hcls := (hK.1 ci _ (vwCl_at hc)).2
  have hz := hK.2 (t - 10) _ (tysG_at G (by omega))
  rw [hty] at hz
  obtain ⟨kA, comp, k1, k2, k3, -⟩ := hz.2
  have hcomp : comp = G.1.1 ci := Option.some.inj (k3.symm.trans hcls.1)
  subst hcomp
  obtain ⟨kC, hkC, -⟩ := hcls.2
  refine W.aast X.1 X.2.1 hcell (fun q h => by cases h) (fun h => by cases h) k1 k2 rfl hkC ⟨h0, by show _ < (arrV _ _ _).slots.size; rw [arrV_size]; exact hlt⟩ g1 (fun q h => by rw [g3] at h; cases h) (by rw [g2]; exact hkC) (by rw [g2]; exact va_assign hcls) rfl rfl hdg fun H1 e1 z oq => ?_
  refine kk p l e s m args below meth c H1 _ ls X (R.write hs z oq (fun q z => upd2_ne z) (fun q _ => rfl) (fun q _ => rfl) ?_) (locs_app L hga) hl
  unfold cellG
  rw [if_neg (by show ¬ t < 7; omega), if_neg (by show ¬ t = 10; omega), if_neg (by show ¬ t = 11; omega)]
  refine ⟨ht2, ?_⟩
  rw [e1, arrV_store]
  congr 2
  funext q
  by_cases hq : q = i.toNatClampNeg <;> simp [updV, upd2_same, hq]
end LATE
