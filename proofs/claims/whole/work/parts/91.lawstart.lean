/-! FROM THE LAW'S ENTRY -/
theorem s0X_at (h : PH) (X : LX) (k : Nat) : (s0X X).1 k = (emb h X).2.2.2.1 (plA h.1 k) ∧ (s0X X).2 k = (emb h X).2.2.2.2 (plA h.1 k) := ⟨funext fun j => emb_I.symm, funext fun j => emb_L.symm⟩
theorem INV_start (h : PH) : INV h.1 (emb h M5F).1 (fun _ => (emb h M5F).1) S0M T0F (emb (emb h M5F) X6F) := by
  have e77 : (emb h M5F).1 = h.1 + 77 := by
    show h.1 + M5F.length = h.1 + 77
    rw [M5F_len]
  have N := newH_X6 (emb h M5F)
  have hlt : ∀ k : Nat, k < 77 → plA h.1 k < (emb h M5F).1 := fun k hk => by rw [e77]; exact Nat.add_lt_add_left hk h.1
  have L5 := layM5 h
  refine ⟨⟨L5.1, fun k e hk => ?_⟩, fun k hk => ?_, FO.start N (fun q hq => by rw [e77]; exact hq.2), rfl, rfl⟩
  · have hk77 : k < 77 := by
      have := LayOK.lt hk
      rw [lyM_len] at this
      exact this
    obtain ⟨e1, e2, e3, e4⟩ := N.2.1 _ (hlt k hk77)
    rw [e1, e2]
    exact L5.2 k e hk
  · obtain ⟨e1, e2, e3, e4⟩ := N.2.1 _ (hlt k hk)
    rw [e3, e4]
    exact s0X_at h M5F k
def headD : Bool := okD 0 (.new 7) 3 && (okD 3 .dup 1 && (okD 4 (.invokespecial 9) 3 && (okD 7 (.astore_n 1) 1 && (okD 8 (.new 10) 3 && (okD 11 .dup 1 && (okD 12 (.invokespecial 12) 3 && (okD 15 (.astore_n 2) 1 && (okD 16 (.iconst 0) 1 && okD 17 (.istore_n 3) 1))))))))
theorem headD_ok : headD = true := by decide +kernel
theorem MCT_0 : MCT T0F = 110 := by
  have : cntF T0F = 0 := by decide
  unfold MCT
  rw [this]
theorem MST_0 : MST T0F = 1967 := by
  have : cntF T0F = 0 := by decide
  unfold MST
  rw [this]
section START
variable {G : GG} {b n : Nat} {xs : Nat → Int32} {w : LW} {h : PH}
theorem law_mk5 {lv : List (Nat × Value)} (X : LCw G b n xs w) (d1 : decode code 0 = .ok (.new 7, 3)) (d2 : decode code 3 = .ok (.dup, 1)) (d3 : decode code 4 = .ok (.invokespecial 9, 3)) (kk : Lv G b w 77 1176 7 lv [.ref h.1] (emb h M5F)) : Lv G b w 0 0 0 lv [] h := by
  refine lx_nil ?_
  refine lx_new (ci := 5) X (by decide) (TT_1 14 rfl rfl) (TT_1 15 rfl rfl) (TT_1 1 rfl rfl) (by decide) (by decide) d1 ?_
  rw [emb_addC]
  refine lx_dup X d2 rfl ?_
  refine lx_invI (As := []) (rest := [.ref h.1]) X (okxX5_init h (addC (5, 0) []) 0 rfl G) calX5_init (TT_1 16 rfl rfl) (by decide) rfl rfl (Nat.le_of_ble_eq_true rfl) (by decide) (by decide) d3 (fun v h' hq => ?_)
  obtain ⟨q1, q2⟩ := hq
  subst q1
  subst q2
  exact kk
theorem law_mk6 {lv : List (Nat × Value)} (X : LCw G b n xs w) (d1 : decode code 8 = .ok (.new 10, 3)) (d2 : decode code 11 = .ok (.dup, 1)) (d3 : decode code 12 = .ok (.invokespecial 12, 3)) (kk : Lv G b w 110 1967 15 lv [.ref h.1] (emb h X6F)) : Lv G b w 77 1176 8 lv [] h := by
  refine lx_nil ?_
  refine lx_new (ci := 6) X (by decide) (TT_4 126 rfl rfl) (TT_4 127 rfl rfl) (TT_1 7 rfl rfl) (by decide) (by decide) d1 ?_
  rw [emb_addC]
  refine lx_dup X d2 rfl ?_
  refine lx_invI (As := []) (rest := [.ref h.1]) X (okxX6_init h (addC (6, 0) []) 0 rfl G) calX6_init (TT_4 128 rfl rfl) (by decide) rfl rfl (Nat.le_of_ble_eq_true rfl) (by decide) (by decide) d3 (fun v h' hq => ?_)
  obtain ⟨q1, q2⟩ := hq
  subst q1
  subst q2
  exact kk
theorem law_start (X : LCw G b n xs w) (hn : n ≤ 3072) : Lv G b w 0 0 0 [(0, .ref b)] [] h := by
  have hD := headD_ok
  unfold headD at hD
  simp only [Bool.and_eq_true] at hD
  obtain ⟨e1, e2, e3, e4, e5, e6, e7, e8, e9, e10⟩ := hD
  refine law_mk5 X (okD_ok e1) (okD_ok e2) (okD_ok e3) ?_
  refine lx_astore_n (lv' := [(1, .ref h.1), (0, .ref b)]) X (okD_ok e4) rfl (by decide) rfl ?_
  refine law_mk6 X (okD_ok e5) (okD_ok e6) (okD_ok e7) ?_
  have J := INV_start h
  generalize emb h M5F = h2 at J ⊢
  generalize emb h2 X6F = h3 at J ⊢
  refine lx_astore_n (lv' := [(2, .ref h2.1), (1, .ref h.1), (0, .ref b)]) X (okD_ok e8) rfl (by decide) rfl ?_
  refine lx_iconst (v := 0) X (okD_ok e9) (by decide) ?_
  refine lx_istore_n (lv' := [(3, .int 0), (2, .ref h2.1), (1, .ref h.1), (0, .ref b)]) X (okD_ok e10) rfl (by decide) rfl ?_
  refine lx_sub (lv' := lvL b h.1 h2.1 (i32 (6 * 0))) [3, 2, 1, 0] rfl ?_
  have K := law_loop X hn n 0 (fun _ => h2.1) S0M T0F h3 (by omega) (by decide) J RR_start
  rw [MCT_0, MST_0] at K
  exact K
end START
/-- YOUR PART: from the entry, for every script of at most 3072 ints, the law comes to its end with true -/
theorem whole_start {p : Program} {e : Env} {s : State} {m : MethodId} {below : List Frame} {meth : Method} {c : Code} (l : Launch) (hflags : l.flags = flags0) {b L : Nat} {xs : Nat → Int32} (hL : L ≤ 3072) (C0 : lw_At p s m meth c b L xs) : W p l e room_1 s m #[Value.ref b] below meth c s.heap [] 0 0 (lw_Z below #[Value.ref b] s) (entryFrame m ([Value.ref b] : List Value).toArray 4) := by
  obtain ⟨hx, hb, hr, hml, hown, hts, hX, hbl, hlocks, hgv⟩ := C0
  obtain ⟨G, hG, hK⟩ := KK_start hts hgv
  have X : LCw G b L xs (p, l, e, s, m, below, meth, c) := ⟨hx, hb, hml, hown, fun w hw => hts w (TT_tbl hw).1, hK, by rw [hG]; exact hX, by rw [hG]; exact hbl, hG, hr, hlocks⟩
  have hl := lv_entry ([.ref b]) (n := 4) (Nat.le_of_ble_eq_true rfl)
  rw [lg_entry_eq]
  generalize (lg_sl ([.ref b]) ++ List.replicate (4 - (lg_sl ([.ref b])).length) Slot.unset).toArray = ls at hl ⊢
  have hl : lv_has ls 4 [(0, .ref b)] := hl
  have R0 : RelH G (s.heap.size, fun _ => none, fun _ _ => .null, fun _ _ => 0, fun _ _ => 0) s.heap := ⟨rfl, by rw [hG]; exact Nat.le_refl _, fun q hq => by rw [hG], fun q kn h => by cases h⟩
  have K : Lv G b (p, l, e, s, m, below, meth, c) 0 0 0 [(0, .ref b)] [] (s.heap.size, fun _ => none, fun _ _ => .null, fun _ _ => 0, fun _ _ => 0) := law_start X hL
  exact K s.heap [] ls R0 (fun x hx => by cases hx) hl
