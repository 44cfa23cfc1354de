/-! THE CLAIM OUT OF ONE WALK OF THE LAW'S BODY. Your part is whole_start (and what it stands on); all else here is the same for every law, but numbers. -/
def R_law : String := "BeforeItDripsLaw"
def lw_P (b : Addr) (xs : List Int32) (args : Array Value) (s : State) : Prop := args = #[.ref b] ∧ s.IntsAt b xs ∧ xs.length ≤ 3072 ∧ (Jvm.Cond.and given_1 narrow_1).before args s = true
def lw_Q (_ : Array Value) (s : State) (o : Outcome) (t : State) : Prop := o = .returned (some (.int 1)) ∧ Framed s o t [] 600000 7302249
def lw_Z (below : List Frame) (a : Array Value) (s : State) : State → Prop := fun t => ∃ o, t.status = .running ∧ Ended t below o ∧ lw_Q a s o t
/-- the law's own end, with 1 on the stack, nothing written that was there before, its room as the claim has it -/
theorem lw_ret {p : Program} {l : Launch} {e : Env} {s : State} {m : MethodId} {below : List Frame} {meth : Method} {c : Code} {b : Nat} (hx : p.tables.exec = Jvm.exec) (hb : c.code = code) (hr : meth.sig.returnType = ret) (hlocks : meth.locks = false) {pc : Nat} {H : Heap} {ls : Array Slot} (hdg : decode code pc = .ok (.ireturn, 1)) : W p l e room_1 s m #[Value.ref b] below meth c H [] 600000 7302249 (lw_Z below #[Value.ref b] s) (F0 m pc ls [.int 1]) := by
  intro T hT X
  obtain ⟨fs, hret, hrun, hended, hW, hframe⟩ := X.leave (v := some (.int 1)) (hlocks := hlocks) (fun h => by rw [hr] at h; cases h)
  have hmeth' : T.vm.method? m = some meth := X.method'
  refine ⟨T.setFrames fs, ?_, .returned (some (.int 1)), hrun, hended, rfl, ⟨_, rfl⟩, hW, hframe⟩
  jvm_step X.here [X.here.top, hx, hb, hdg, hmeth', hr, ret, narrow_b1]
  (try refine ⟨rfl, ?_⟩); (try refine ⟨rfl, ?_⟩)
  first | (intro acts; rw [hret _ acts rfl rfl rfl]) | rw [hret _ _ rfl rfl rfl]
  exact Steps.refl _
/-- what holds at the law's entry: the machine, the code, the tables' words (any of lw_tbl by 'hts w (by decide +kernel)'), the script of L ints xs at the cell b, what the Statement gives of the start (any of its parts by flat_of_before) -/
def lw_At (p : Program) (s : State) (m : MethodId) (meth : Method) (c : Code) (b L : Nat) (xs : Nat → Int32) : Prop :=
  p.tables.exec = Jvm.exec ∧ c.code = code ∧ meth.sig.returnType = ret ∧ c.maxLocals = 4 ∧ s.vm.findClass R_law = some m.cls ∧ (∀ w ∈ lw_tbl, w.before #[Value.ref b] s = true) ∧ va_X b L xs s s.heap ∧ b < s.heap.size ∧ meth.locks = false ∧ (Jvm.Cond.and given_1 narrow_1).before #[Value.ref b] s = true
/-! THE LAW'S WALK: a judgement at one fixed start. -/
/-- the context: the machine, the code, the tables' words, what lies there, the script of n ints xs at the cell b -/
def LC (G : GG) (b n : Nat) (xs : Nat → Int32) (p : Program) (s : State) (m : MethodId) (meth : Method) (c : Code) : Prop :=
  p.tables.exec = Jvm.exec ∧ c.code = code ∧ c.maxLocals = 4 ∧ s.vm.findClass R_law = some m.cls ∧ (∀ w ∈ TT, w.before #[Value.ref b] s = true) ∧ KK G s ∧ va_X b n xs s G.2.2.1 ∧ b < G.2.2.1.size ∧ G.2.2.1 = s.heap ∧ meth.sig.returnType = ret ∧ meth.locks = false
abbrev LW : Type := Program × Launch × Env × State × MethodId × List Frame × Method × Code
def Lv (G : GG) (b : Nat) (w : LW) (kc ks pc : Nat) (lv : List (Nat × Value)) (st : List Value) (h : PH) : Prop :=
  ∀ (H : Heap) (locs : List Loc) (ls : Array Slot), RelH G h H → (∀ x ∈ locs, G.2.2.1.size ≤ x.base) → lv_has ls 4 lv →
    W w.1 w.2.1 w.2.2.1 room_1 w.2.2.2.1 w.2.2.2.2.1 #[Value.ref b] w.2.2.2.2.2.1 w.2.2.2.2.2.2.1 w.2.2.2.2.2.2.2 H locs kc ks (lw_Z w.2.2.2.2.2.1 #[Value.ref b] w.2.2.2.1) (F0 w.2.2.2.2.1 pc ls st)
def LCw (G : GG) (b n : Nat) (xs : Nat → Int32) (w : LW) : Prop := LC G b n xs w.1 w.2.2.2.1 w.2.2.2.2.1 w.2.2.2.2.2.2.1 w.2.2.2.2.2.2.2
theorem wsL_good {N : MI} (h : Cond.code (myM N) (mbM N) (mlM N) (mrM N) ∈ TT) : GoodIn TT (wsM N) := by
  intro w hw
  rcases List.mem_cons.mp hw with rfl | hw
  · exact ⟨h, good_of_word (TT_tbl h).2⟩
  · exact ⟨hw, good_of_word (TT_tbl hw).2⟩
section LV
variable {G : GG} {b n : Nat} {xs : Nat → Int32} {w : LW} {kc ks pc : Nat} {lv : List (Nat × Value)} {rest : List Value} {h : PH}
theorem lx_iconst {k : Int} {v : Int32} (X : LCw G b n xs w) (hdg : decode code pc = .ok (.iconst k, 1)) (hv : Int32.ofInt k = v) (kk : Lv G b w kc ks (pc + 1) lv (.int v :: rest) h) : Lv G b w kc ks pc lv rest h := fun H locs ls R L hl => lv_iconst X.1 X.2.1 hdg hv (kk H locs ls R L hl)
theorem lx_bipush {k : Int} {v : Int32} (X : LCw G b n xs w) (hdg : decode code pc = .ok (.bipush k, 2)) (hv : (Int8.ofInt k).toInt32 = v) (kk : Lv G b w kc ks (pc + 2) lv (.int v :: rest) h) : Lv G b w kc ks pc lv rest h := fun H locs ls R L hl => lv_bipush X.1 X.2.1 hdg hv (kk H locs ls R L hl)
theorem lx_iadd {x y : Int32} (X : LCw G b n xs w) (hdg : decode code pc = .ok (.iadd, 1)) (kk : Lv G b w kc ks (pc + 1) lv (.int (x + y) :: rest) h) : Lv G b w kc ks pc lv (.int y :: .int x :: rest) h := fun H locs ls R L hl => lv_iadd X.1 X.2.1 hdg (kk H locs ls R L hl)
theorem lx_isub {x y : Int32} (X : LCw G b n xs w) (hdg : decode code pc = .ok (.isub, 1)) (kk : Lv G b w kc ks (pc + 1) lv (.int (x - y) :: rest) h) : Lv G b w kc ks pc lv (.int y :: .int x :: rest) h := fun H locs ls R L hl => lv_isub X.1 X.2.1 hdg (kk H locs ls R L hl)
theorem lx_iand {x y : Int32} (X : LCw G b n xs w) (hdg : decode code pc = .ok (.iand, 1)) (kk : Lv G b w kc ks (pc + 1) lv (.int (x &&& y) :: rest) h) : Lv G b w kc ks pc lv (.int y :: .int x :: rest) h := fun H locs ls R L hl => lv_iand X.1 X.2.1 hdg (kk H locs ls R L hl)
theorem lx_land {x y : Int64} (X : LCw G b n xs w) (hdg : decode code pc = .ok (.land, 1)) (kk : Lv G b w kc ks (pc + 1) lv (.long (x &&& y) :: rest) h) : Lv G b w kc ks pc lv (.long y :: .long x :: rest) h := fun H locs ls R L hl => lv_land X.1 X.2.1 hdg (kk H locs ls R L hl)
theorem lx_lor {x y : Int64} (X : LCw G b n xs w) (hdg : decode code pc = .ok (.lor, 1)) (kk : Lv G b w kc ks (pc + 1) lv (.long (x ||| y) :: rest) h) : Lv G b w kc ks pc lv (.long y :: .long x :: rest) h := fun H locs ls R L hl => lv_lor X.1 X.2.1 hdg (kk H locs ls R L hl)
theorem lx_lshl {x v : Int64} {y : Int32} (X : LCw G b n xs w) (hdg : decode code pc = .ok (.lshl, 1)) (hv : x <<< (y.toInt64 &&& 63) = v) (kk : Lv G b w kc ks (pc + 1) lv (.long v :: rest) h) : Lv G b w kc ks pc lv (.int y :: .long x :: rest) h := fun H locs ls R L hl => lv_lshl X.1 X.2.1 hdg hv (kk H locs ls R L hl)
theorem lx_i2l {x : Int32} {v : Int64} (X : LCw G b n xs w) (hdg : decode code pc = .ok (.i2l, 1)) (hv : x.toInt64 = v) (kk : Lv G b w kc ks (pc + 1) lv (.long v :: rest) h) : Lv G b w kc ks pc lv (.int x :: rest) h := fun H locs ls R L hl => lv_i2l X.1 X.2.1 hdg hv (kk H locs ls R L hl)
theorem lx_ldc2 {index : Nat} {v : Int64} (X : LCw G b n xs w) (hc : Cond.constantLong R_law index v ∈ TT) (hdg : decode code pc = .ok (.ldc2_w index, 3)) (kk : Lv G b w kc ks (pc + 3) lv (.long v :: rest) h) : Lv G b w kc ks pc lv rest h := fun H locs ls R L hl => lv_ldc2 X.1 X.2.1 X.2.2.2.1 (X.2.2.2.2.1 _ hc) hdg (kk H locs ls R L hl)
theorem lx_lcmp {x y : Int64} (X : LCw G b n xs w) (hdg : decode code pc = .ok (.lcmp, 1)) (kk : Lv G b w kc ks (pc + 1) lv (.int (lg_cmp x y) :: rest) h) : Lv G b w kc ks pc lv (.long y :: .long x :: rest) h := fun H locs ls R L hl => W.lcmp X.1 X.2.1 hdg (kk H locs ls R L hl)
theorem lx_dup {va : Value} (X : LCw G b n xs w) (hdg : decode code pc = .ok (.dup, 1)) (hva : va.category = 1) (kk : Lv G b w kc ks (pc + 1) lv (va :: va :: rest) h) : Lv G b w kc ks pc lv (va :: rest) h := fun H locs ls R L hl => lv_dup X.1 X.2.1 hdg hva (kk H locs ls R L hl)
theorem lx_iload_n {k : Fin 4} {i : Nat} {x : Int32} (X : LCw G b n xs w) (j : Nat) (hdg : decode code pc = .ok (.iload_n k, 1)) (hi : (k : Nat) = i) (hj : lv[j]? = some (i, .int x)) (kk : Lv G b w kc ks (pc + 1) lv (.int x :: rest) h) : Lv G b w kc ks pc lv rest h := fun H locs ls R L hl => lv_iload_n X.1 X.2.1 hdg hi (lv_at hl j hj) (kk H locs ls R L hl)
theorem lx_aload_n {k : Fin 4} {i x : Nat} (X : LCw G b n xs w) (j : Nat) (hdg : decode code pc = .ok (.aload_n k, 1)) (hi : (k : Nat) = i) (hj : lv[j]? = some (i, .ref x)) (kk : Lv G b w kc ks (pc + 1) lv (.ref x :: rest) h) : Lv G b w kc ks pc lv rest h := fun H locs ls R L hl => lv_aload_n X.1 X.2.1 hdg hi (lv_at hl j hj) (kk H locs ls R L hl)
theorem lx_istore_n {k : Fin 4} {i : Nat} {x : Int32} {lv' : List (Nat × Value)} (X : LCw G b n xs w) (hdg : decode code pc = .ok (.istore_n k, 1)) (hi : (k : Nat) = i) (hn : i < 4) (hl' : (i, Value.int x) :: lv.filter (fun q => !(q.1 == i) && !(q.1 + 1 == i && q.2.category == 2)) = lv') (kk : Lv G b w kc ks (pc + 1) lv' rest h) : Lv G b w kc ks pc lv (.int x :: rest) h := fun H locs ls R L hl => lv_istore_n X.1 X.2.1 hdg hi hl hn hl' (fun ls' hl2 => kk H locs ls' R L hl2)
theorem lx_astore_n {k : Fin 4} {i x : Nat} {lv' : List (Nat × Value)} (X : LCw G b n xs w) (hdg : decode code pc = .ok (.astore_n k, 1)) (hi : (k : Nat) = i) (hn : i < 4) (hl' : (i, Value.ref x) :: lv.filter (fun q => !(q.1 == i) && !(q.1 + 1 == i && q.2.category == 2)) = lv') (kk : Lv G b w kc ks (pc + 1) lv' rest h) : Lv G b w kc ks pc lv (.ref x :: rest) h := fun H locs ls R L hl => lv_astore_n X.1 X.2.1 hdg hi hl hn hl' (fun ls' hl2 => kk H locs ls' R L hl2)
theorem lx_iinc {i : Nat} {k : Int} {x v : Int32} {lv' : List (Nat × Value)} (X : LCw G b n xs w) (j : Nat) (hdg : decode code pc = .ok (.iinc i k, 3)) (hj : lv[j]? = some (i, .int x)) (hv : x + Int32.ofInt k = v) (hn : i < 4) (hl' : (i, Value.int v) :: lv.filter (fun q => !(q.1 == i) && !(q.1 + 1 == i && q.2.category == 2)) = lv') (kk : Lv G b w kc ks (pc + 3) lv' rest h) : Lv G b w kc ks pc lv rest h := fun H locs ls R L hl => lv_iinc (k := j) X.1 X.2.1 hdg hl hj hv hn hl' (fun ls' hl2 => kk H locs ls' R L hl2)
theorem lx_sub {lv' : List (Nat × Value)} (js : List Nat) (hj : lv_pick lv js = lv') (kk : Lv G b w kc ks pc lv' rest h) : Lv G b w kc ks pc lv rest h := fun H locs ls R L hl => kk H locs ls R L (lv_sub hl js hj)
theorem lx_icmp_eq {x y : Int32} {off : Int} {tgt : Nat} (X : LCw G b n xs w) (hdg : decode code pc = .ok (.if_icmp .eq off, 3)) (ht : (pc : Int) + off = (tgt : Int)) (kt : x = y → Lv G b w kc ks tgt lv rest h) (kf : ¬ x = y → Lv G b w kc ks (pc + 3) lv rest h) : Lv G b w kc ks pc lv (.int y :: .int x :: rest) h := fun H locs ls R L hl => lv_icmp_eq X.1 X.2.1 hdg ht (fun z => kt z H locs ls R L hl) (fun z => kf z H locs ls R L hl)
theorem lx_icmp_gt {x y : Int32} {off : Int} {tgt : Nat} (X : LCw G b n xs w) (hdg : decode code pc = .ok (.if_icmp .gt off, 3)) (ht : (pc : Int) + off = (tgt : Int)) (kt : y < x → Lv G b w kc ks tgt lv rest h) (kf : ¬ y < x → Lv G b w kc ks (pc + 3) lv rest h) : Lv G b w kc ks pc lv (.int y :: .int x :: rest) h := fun H locs ls R L hl => lv_icmp_gt X.1 X.2.1 hdg ht (fun z => kt z H locs ls R L hl) (fun z => kf z H locs ls R L hl)
theorem lx_goto {off : Int} {tgt : Nat} (X : LCw G b n xs w) (hdg : decode code pc = .ok (.goto off, 3)) (ht : (pc : Int) + off = (tgt : Int)) (kk : Lv G b w kc ks tgt lv rest h) : Lv G b w kc ks pc lv rest h := fun H locs ls R L hl => lv_goto X.1 X.2.1 hdg ht (kk H locs ls R L hl)
theorem lx_tableIn {dflt lo hi : Int} {offs : Array Int} {len : Nat} {x : Int32} {off : Int} {tgt : Nat} (X : LCw G b n xs w) (hdg : decode code pc = .ok (.tableswitch dflt lo hi offs, len)) (h1 : ¬ x.toInt < lo) (h2 : ¬ hi < x.toInt) (ho : offs[(x.toInt - lo).toNat]? = some off) (ht : (pc : Int) + off = (tgt : Int)) (kk : Lv G b w kc ks tgt lv rest h) : Lv G b w kc ks pc lv (.int x :: rest) h := fun H locs ls R L hl => lv_tableIn X.1 X.2.1 hdg h1 h2 ho ht (kk H locs ls R L hl)
theorem lx_tableOut {dflt lo hi : Int} {offs : Array Int} {len : Nat} {x : Int32} {tgt : Nat} (X : LCw G b n xs w) (hdg : decode code pc = .ok (.tableswitch dflt lo hi offs, len)) (hx : x.toInt < lo ∨ hi < x.toInt) (ht : (pc : Int) + dflt = (tgt : Int)) (kk : Lv G b w kc ks tgt lv rest h) : Lv G b w kc ks pc lv (.int x :: rest) h := fun H locs ls R L hl => lv_tableOut X.1 X.2.1 hdg hx ht (kk H locs ls R L hl)
/-- the script: its ints, its length -/
theorem lx_sld {i : Int32} (X : LCw G b n xs w) (hin : vp_in i n) (hdg : decode code pc = .ok (.iaload, 1)) (kk : Lv G b w kc ks (pc + 1) lv (.int (xs i.toNatClampNeg) :: rest) h) : Lv G b w kc ks pc lv (.int i :: .ref b :: rest) h := fun H locs ls R L hl => by
  obtain ⟨scr, h1, h2, h3, h4, h5⟩ := X.2.2.2.2.2.2.1
  have hlt : i.toNatClampNeg < n := Nat.not_le.mp fun q => hin (Or.inr q)
  exact W.iald (v := .int (xs i.toNatClampNeg)) X.1 X.2.1 (by rw [R.2.2.1 b X.2.2.2.2.2.2.2.1]; exact h1) h2 h3 (by rw [h4]; exact hin) (h5 _ hlt) rfl rfl hdg (kk H locs ls R L hl)
theorem lx_slen (X : LCw G b n xs w) (hdg : decode code pc = .ok (.arraylength, 1)) (kk : Lv G b w kc ks (pc + 1) lv (.int (Int32.ofNat n) :: rest) h) : Lv G b w kc ks pc lv (.ref b :: rest) h := fun H locs ls R L hl => by
  obtain ⟨scr, h1, h2, h3, h4, h5⟩ := X.2.2.2.2.2.2.1
  exact W.alen (n := Int32.ofNat n) X.1 X.2.1 (by rw [R.2.2.1 b X.2.2.2.2.2.2.2.1]; exact h1) h2 (by rw [h4] <;> rfl) rfl rfl hdg (kk H locs ls R L hl)
theorem lx_run {N : MI} {idx d' mc' ms' : Nat} {Q' : Option Value → PH → Prop} {p : Program} {l : Launch} {e : Env} {s : State} {m : MethodId} {args a : Array Value} {below : List Frame} {meth : Method} {c : Code} {H : Heap} {locs : List Loc} {ls : Array Slot} {st : List Value} {QQ : State → Prop}
    (hr : va_Run p l e room_1 s m args below meth c H locs kc ks mc' ms' (F0 m pc ls st) rest (QcG G Q' a) (fun q => G.2.2.1.size ≤ q)) (L : ∀ x ∈ locs, G.2.2.1.size ≤ x.base)
    (kk : ∀ (v : Option Value) (h' : PH) (H1 : Heap) (locs1 : List Loc), Q' v h' → RelH G h' H1 → (∀ x ∈ locs1, G.2.2.1.size ≤ x.base) → W p l e room_1 s m args below meth c H1 locs1 (kc + mc') (ks + ms') QQ (F0 m (pc + 3) ls (v.toList ++ rest))) :
    W p l e room_1 s m args below meth c H locs kc ks QQ (F0 m pc ls st) := by
  intro T hT X
  obtain ⟨v, st₀, t, T', LL, h0, X', hL, e1, e2, ⟨v', h', hv, hq, hR⟩, st2⟩ := hr T hT X
  cases hv
  obtain ⟨t2, a1, b1⟩ := kk v h' T'.heap (locs ++ LL) hq (by rw [e1]; exact hR) (fun x hx => by
    rcases List.mem_append.mp hx with z | z
    · exact L x z
    · exact hL x z) T' rfl X'
  exact ⟨t2, st2 t2 a1, b1⟩
theorem lx_invV {N : MI} {idx d' mc' ms' ci nn k0 a : Nat} {As st : List Value} {Q' : Option Value → PH → Prop} (X : LCw G b n xs w) (hM : MtG G d' N mc' ms' (.ref a :: As) h Q') (hC : CalV N ci nn) (hlk : Cond.methodLink R_law idx (myM N) ∈ TT) (hd : d' ≤ 100) (hs : h.2.1 a = some (ci, k0)) (hst : st = As.reverse ++ .ref a :: rest) (hn : As.length = nn) (hW : (rest.map fun v => v.category).sum ≤ 8) (h1 : kc + mc' ≤ 600000) (h2 : ks + ms' ≤ 7302249) (hdg : decode code pc = .ok (.invokevirtual idx, 3))
    (kk : ∀ (v : Option Value) (h' : PH), Q' v h' → Lv G b w (kc + mc') (ks + ms') (pc + 3) lv (v.toList ++ rest) h') : Lv G b w kc ks pc lv st h := by
  intro H locs ls R L hl
  obtain ⟨⟨c1, c2, c3, c4⟩, c5, c6, c7, c8⟩ := hC
  have hts : ∀ q ∈ TT, q.before #[Value.ref b] w.2.2.2.1 = true := X.2.2.2.2.1
  obtain ⟨-, cell, q1, q2, q3, q4⟩ := R.obj hs c7
  have hcls := (X.2.2.2.2.2.1.1.1 ci _ (vwCl_at c7)).2.1
  refine lx_run (N := N) (idx := idx) (d' := d') (G := G) (Q' := Q') (va_runV (C := RXG ci) (own := R_law) (index := idx) (y := myM N) (bytes := mbM N) (maxL := mlM N) (ret := mrM N) (ws := wsM N) (rm := rmD d' mc' ms') (n := nn) ⟨X.1, X.2.1, X.2.2.1, X.2.2.2.1, hts⟩ (hM w.2.1) ⟨?_, hts _ c5, hts _ c6⟩ ⟨blindG, ⟨cell, q1, by rw [q3]; rfl, by rw [q2]; exact hcls⟩, preG X.2.2.2.2.2.1 R _⟩ rfl hn hl.1 hst (lv_room hW) hdg ⟨h1, h2⟩) L (fun v h' H1 locs1 hq hR L1 => kk v h' hq H1 locs1 ls hR L1 hl)
  refine callB_of (ws' := TT) nn hts (wsL_good c1) rfl rfl rfl (hts _ c2) (hts _ hlk) ⟨c3.1, c3.2, c8⟩ ⟨?_, ?_⟩
  · show d' + 1 ≤ 2048
    omega
  · show 8 + (mlM N + 11) + 64 * d' ≤ 84000
    omega
theorem lx_invI {N : MI} {idx d' mc' ms' nn a : Nat} {As st : List Value} {Q' : Option Value → PH → Prop} (X : LCw G b n xs w) (hM : MtG G d' N mc' ms' (.ref a :: As) h Q') (hC : CalI N nn) (hlk : Cond.methodLink R_law idx (myM N) ∈ TT) (hd : d' ≤ 100) (hst : st = As.reverse ++ .ref a :: rest) (hn : As.length = nn) (hW : (rest.map fun v => v.category).sum ≤ 8) (h1 : kc + mc' ≤ 600000) (h2 : ks + ms' ≤ 7302249) (hdg : decode code pc = .ok (.invokespecial idx, 3))
    (kk : ∀ (v : Option Value) (h' : PH), Q' v h' → Lv G b w (kc + mc') (ks + ms') (pc + 3) lv (v.toList ++ rest) h') : Lv G b w kc ks pc lv st h := by
  intro H locs ls R L hl
  obtain ⟨⟨c1, c2, c3, c4⟩, c5, c6, c7, c8⟩ := hC
  have hts : ∀ q ∈ TT, q.before #[Value.ref b] w.2.2.2.1 = true := X.2.2.2.2.1
  have hw0 : wsM N = Cond.code (myM N) (mbM N) (mlM N) none :: TT := by unfold wsM; rw [c7]
  refine lx_run (N := N) (idx := idx) (d' := d') (G := G) (Q' := Q') (va_runI (own := R_law) (index := idx) (y := myM N) (bytes := mbM N) (maxL := mlM N) (ws := wsM N) (rm := rmD d' mc' ms') (n := nn) ⟨X.1, X.2.1, X.2.2.1, X.2.2.2.1, hts⟩ (hM w.2.1) ⟨?_, c6, hts _ c5⟩ ⟨blindG, preG X.2.2.2.2.2.1 R _⟩ rfl hn hl.1 hst (lv_room hW) hdg ⟨h1, h2⟩) L (fun v h' H1 locs1 hq hR L1 => kk v h' hq H1 locs1 ls hR L1 hl)
  refine callB_of (ws' := TT) nn hts (wsL_good c1) hw0 rfl rfl (hts _ c2) (hts _ hlk) ⟨c3.1, c3.2, c8⟩ ⟨?_, ?_⟩
  · show d' + 1 ≤ 2048
    omega
  · show 8 + (mlM N + 11) + 64 * d' ≤ 84000
    omega
theorem lx_new {idx ci : Nat} (X : LCw G b n xs w) (hc : ci < 7) (hcl : Cond.classLink R_law idx (RXG ci) ∈ TT) (hin : Cond.instantiable (RXG ci) (nFG ci) ∈ TT) (hini : Cond.initialized (RXG ci) ∈ TT) (h1 : kc + 1 ≤ 600000) (h2 : ks + nFG ci ≤ 7302249) (hdg : decode code pc = .ok (.new idx, 3))
    (kk : Lv G b w (kc + 1) (ks + nFG ci) (pc + 3) lv (.ref h.1 :: rest) (pushH h (ci, 0))) : Lv G b w kc ks pc lv rest h := by
  intro H locs ls R L hl
  have hts : ∀ q ∈ TT, q.before #[Value.ref b] w.2.2.2.1 = true := X.2.2.2.2.1
  have hKn := X.2.2.2.2.2.1.1.1 ci _ (vwCl_at hc)
  refine W.newcK X.1 X.2.1 X.2.2.2.1 (hts _ hcl) (hts _ hin) (hts _ hini) rfl hdg h1 h2 hKn.2.1 rfl fun H1 kC hkC e1 z1 o1 => ?_
  have hs := R.1
  rw [show H.size = h.1 from hs] at e1 ⊢
  refine kk H1 locs ls (R.push z1 o1 ?_) L hl
  unfold cellG
  rw [if_pos hc]
  refine (u_born (ftyG ci) hts (u_wsG hc) hKn hkC e1 (fun k hk => ftyG_ok hc hk)).to (fun k hk => ?_)
  rw [dflG hc hk]
  unfold fvalG
  show _ = if isRf (ftyG ci k) = true then (if h.1 = h.1 then fun _ => .null else h.2.2.1 h.1) k else Value.int ((if h.1 = h.1 then fun _ => 0 else h.2.2.2.1 h.1) k)
  rw [if_pos rfl, if_pos rfl]
/-- the heap as a base without cells -/
theorem lx_nil {st : List Value} (kk : Lv G b w kc ks pc lv st (emb h [])) : Lv G b w kc ks pc lv st h := fun H locs ls R L hl => kk H locs ls (emb_nil R) L hl
/-- the end -/
theorem lx_ret (X : LCw G b n xs w) (h1 : kc ≤ 600000) (h2 : ks ≤ 7302249) (hdg : decode code pc = .ok (.ireturn, 1)) : Lv G b w kc ks pc lv [.int 1] h := fun H locs ls R L hl => by
  refine va_forget (fun q hq => by rw [← X.2.2.2.2.2.2.2.2.1]; exact L q hq) ?_
  refine W.widen h1 h2 ?_
  exact lw_ret X.1 X.2.1 X.2.2.2.2.2.2.2.2.2.1 X.2.2.2.2.2.2.2.2.2.2 hdg
end LV
