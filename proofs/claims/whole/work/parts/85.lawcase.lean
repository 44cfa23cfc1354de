/-! WHAT THE HEAP HOLDS BETWEEN THE LAW'S CALLS; one case of its switch. -/
def XA (a : Nat) : Nat → Prop := fun q => a ≤ q ∧ q < a + 77
theorem injP {a n : Nat} : injN (plA a) n := fun i j _ _ e => by unfold plA at e; omega
def INV (a br : Nat) (ob : List Nat → Nat) (S : SS) (T : TF) (h : PH) : Prop :=
  LayOK lyM (plA a) h ∧ (∀ k : Nat, k < 77 → S.1 k = h.2.2.2.1 (plA a k) ∧ S.2 k = h.2.2.2.2 (plA a k)) ∧ FO (XA a) ob T h ∧ T.1 [] = true ∧ ob [] = br
theorem FO.other {X : Nat → Prop} {ob : List Nat → Nat} {t : TF} {h : PH} {pl : Nat → Nat} {m : Nat} {s : SS} (F : FO X ob t h) (hX : ∀ k : Nat, k < m → X (pl k)) : FO X ob t (LH pl m h s) := by
  obtain ⟨F1, F2, F3, F4⟩ := F
  refine ⟨fun p hp => ?_, F2, F3, F4⟩
  obtain ⟨g1, g2, g3, g4⟩ := F1 p hp
  have off : ∀ k : Nat, k < 33 → ∀ j : Nat, j < m → ob p + k ≠ pl j := fun k hk j hj e => (g2 k hk).2.2 (e ▸ hX j hj)
  exact ⟨g1, fun k hk => ⟨(mrg_off (off k hk)).trans (g2 k hk).1, (mrg_off (off k hk)).trans (g2 k hk).2.1, (g2 k hk).2.2⟩, g3, g4⟩
section INVS
variable {a br : Nat} {ob : List Nat → Nat} {S S' : SS} {T T' : TF} {h h' : PH}
theorem INV.lh (J : INV a br ob S T h) : LH (plA a) lyM.length h S = h := by
  rw [lyM_len]
  exact LH_alike injP (fun k hk => (J.2.1 k hk).1) (fun k hk => (J.2.1 k hk).2)
theorem INV.put (J : INV a br ob S T h) (S' : SS) : INV a br ob S' T (LH (plA a) lyM.length h S') := by
  rw [lyM_len]
  exact ⟨J.1, fun k hk => ⟨(mrg_at injP hk).symm, (mrg_at injP hk).symm⟩, J.2.2.1.other (fun k hk => ⟨Nat.le_add_right a k, Nat.add_lt_add_left hk a⟩), J.2.2.2⟩
theorem INV.ref {ob' : List Nat → Nat} (J : INV a br ob S T h) (hl : leF T T') (ho : ∀ p : List Nat, T.1 p = true → ob' p = ob p) (F : FO (XA a) ob' T' h') (Fx : FrX (XA a) h h') : INV a br ob' S T' h' := by
  have hx : ∀ k : Nat, k < 77 → XA a (plA a k) := fun k hk => ⟨Nat.le_add_right a k, Nat.add_lt_add_left hk a⟩
  refine ⟨⟨J.1.1, fun k e hk => ?_⟩, fun k hk => ?_, F, hl _ J.2.2.2.1, (ho _ J.2.2.2.1).trans J.2.2.2.2⟩
  · have hk77 : k < 77 := by
      have := LayOK.lt hk
      rw [lyM_len] at this
      exact this
    obtain ⟨e1, e2, e3, e4⟩ := Fx.2 _ (hx k hk77)
    rw [e1, e2]
    exact J.1.2 k e hk
  · obtain ⟨e1, e2, e3, e4⟩ := Fx.2 _ (hx k hk)
    rw [e3, e4]
    exact J.2.1 k hk
end INVS
/-- the reference's part of a case -/
def RefC {ρ : Type} (rv : ρ → Option Value) (d : Nat) (N : MI) (As : List Value) (f : TF → Option (ρ × TF)) : Prop :=
  ∀ (X : Nat → Prop) (h : PH) (ob : List Nat → Nat) (t : TF) (r : ρ) (t' : TF) (a : Nat) (G : GG), AtF ob t [] a → FO X ob t h → f t = some (r, t') →
    leF t t' ∧ ∃ Q' : Option Value → PH → Prop, MtG G d N (CC t t') (CS t t') (.ref a :: As) h Q' ∧ ∀ (v : Option Value) (h' : PH), Q' v h' → QP X ob t h (fun x _ => rv x) r t' v h'
theorem RefC.late {d : Nat} {N : MI} {As : List Value} {f : TF → Option (Int32 × TF)} (hM : MtP d N rwI [] (fun a => .ref a :: As) f) : RefC rvI d N As f := fun X h ob t r t' a G ha F hf => ⟨hM.1 t r t' ha.1 hf, _, hM.2 X h ob t r t' a ha F hf G, fun _ _ q => q⟩
abbrev upT {ρ : Type} (f : SS → Option (ρ × SS)) : TF → Option (ρ × TF) := fun T => (f (T.2 [])).bind fun z => some (z.1, wrT T [] z.2)
theorem RefC.loc {ρ : Type} {rv : ρ → Option Value} {d : Nat} {N : MI} {As : List Value} {f : SS → Option (ρ × SS)} (hM : MtF d N lyR rv (fun _ pl => .ref (pl 0) :: As) f) : RefC rv d N As (upT f) := fun X h ob t r t' a G ha F hf => by
  obtain ⟨⟨r1, s1⟩, g1, g2⟩ := Option.bind_eq_some_iff.mp hf
  cases g2
  refine ⟨leF.wr, Qf rv (plA a) 33 h r1 s1, ?_, fun v h' q => ?_⟩
  · have hMt := hM (plA a) h (F.lay ha) (t.2 []) r1 s1 g1 G
    rw [lyR_len, F.sel ha] at hMt
    rw [CC_wr, CS_wr, CC_rf, CS_rf]
    exact hMt
  · obtain ⟨e1, e2⟩ := q
    obtain ⟨F1, F2⟩ := F.put (s := s1) ha
    subst e1
    subst e2
    exact ⟨ob, rfl, fun _ _ => rfl, F1, F2⟩
theorem Both.up {L : Int} {f g : SS → Option (Int32 × SS)} {S : SS} {T : TF} (h : Both L (f S) (g (T.2 [])) T) : BothT L (f S) (upT g T) := by
  obtain ⟨r, S', s', h1, h2, h3⟩ := h
  refine ⟨r, S', wrT T [] s', h1, ?_, h3⟩
  show (g (T.2 [])).bind _ = _
  rw [h2]
  rfl
/-- what has been made -/
def MCT (T : TF) : Nat := 110 + 33 * cntF T
def MST (T : TF) : Nat := 1967 + 791 * cntF T
theorem MCT_add {T T' : TF} (h : leF T T') : MCT T + CC T T' = MCT T' := by
  have := cntF_le h
  unfold MCT CC
  omega
theorem MST_add {T T' : TF} (h : leF T T') : MST T + CS T T' = MST T' := by
  have := cntF_le h
  unfold MST CS
  omega
theorem cntF_14 {T : TF} : cntF T ≤ 14 := List.length_filter_le T.1 UF
theorem MCT_le {T : TF} : MCT T ≤ 600000 := by
  have := cntF_14 (T := T)
  unfold MCT
  omega
theorem MST_le {T : TF} : MST T ≤ 7302249 := by
  have := cntF_14 (T := T)
  unfold MST
  omega
section CASE
variable {G : GG} {b n : Nat} {xs : Nat → Int32} {w : LW} {kc ks pc : Nat} {lv : List (Nat × Value)} {rest : List Value} {h : PH} {a br : Nat} {ob : List Nat → Nat} {S : SS} {T : TF}
theorem lx_cls {N : MI} {idx d' nn : Nat} {As st : List Value} {ρ : Type} {rv : ρ → Option Value} {f : SS → Option (ρ × SS)} {r : ρ} {S' : SS} (X : LCw G b n xs w) (J : INV a br ob S T h) (hM : MtF d' N lyM rv (fun _ pl => .ref (pl 0) :: As) f) (hf : f S = some (r, S')) (hC : CalV N 5 nn) (hlk : Cond.methodLink R_law idx (myM N) ∈ TT) (hd : d' ≤ 100) (hst : st = As.reverse ++ .ref a :: rest) (hn : As.length = nn) (hW : (rest.map fun v => v.category).sum ≤ 8) (h1 : kc ≤ 600000) (h2 : ks ≤ 7302249) (hdg : decode code pc = .ok (.invokevirtual idx, 3))
    (kk : ∀ h' : PH, INV a br ob S' T h' → Lv G b w kc ks (pc + 3) lv ((rv r).toList ++ rest) h') : Lv G b w kc ks pc lv st h := by
  have hMt := hM (plA a) h J.1 S r S' hf G
  rw [J.lh] at hMt
  refine lx_invV (mc' := 0) (ms' := 0) X hMt hC hlk hd (J.1.sh (k := 0) rfl) hst hn hW h1 h2 hdg (fun v h' hq => ?_)
  obtain ⟨e1, e2⟩ := hq
  subst e1
  subst e2
  exact kk _ (J.put S')
theorem lx_ref {ρ : Type} {rv : ρ → Option Value} {N : MI} {idx d' nn : Nat} {As st : List Value} {f : TF → Option (ρ × TF)} {r : ρ} {T' : TF} (X : LCw G b n xs w) (J : INV a br ob S T h) (hM : RefC rv d' N As f) (hf : f T = some (r, T')) (hC : CalV N 6 nn) (hlk : Cond.methodLink R_law idx (myM N) ∈ TT) (hd : d' ≤ 100) (hst : st = As.reverse ++ .ref br :: rest) (hn : As.length = nn) (hW : (rest.map fun v => v.category).sum ≤ 8) (hdg : decode code pc = .ok (.invokevirtual idx, 3))
    (kk : ∀ (ob' : List Nat → Nat) (h' : PH), INV a br ob' S T' h' → Lv G b w (MCT T') (MST T') (pc + 3) lv ((rv r).toList ++ rest) h') : Lv G b w (MCT T) (MST T) pc lv st h := by
  have ha : AtF ob T [] br := ⟨J.2.2.2.1, J.2.2.2.2⟩
  obtain ⟨hl, Q', hMt, hQ⟩ := hM (XA a) h ob T r T' br G ha J.2.2.1 hf
  refine lx_invV X hMt hC hlk hd (J.2.2.1.shA (k := 0) ha rfl) hst hn hW (by rw [MCT_add hl]; exact MCT_le) (by rw [MST_add hl]; exact MST_le) hdg (fun v h' hq => ?_)
  obtain ⟨ob', e1, e2, F, Fx⟩ := hQ v h' hq
  subst e1
  rw [MCT_add hl, MST_add hl]
  exact kk ob' h' (J.ref hl e2 F Fx)
/-- the law's locals -/
abbrev lvL (b a br : Nat) (i : Int32) : List (Nat × Value) := [(0, .ref b), (1, .ref a), (2, .ref br), (3, .int i)]
def okD (pc : Nat) (i : Instr) (len : Nat) : Bool := decide (decode code pc = .ok (i, len))
theorem okD_ok {pc : Nat} {i : Instr} {len : Nat} (h : okD pc i len = true) : decode code pc = .ok (i, len) := of_decide_eq_true h
def argD (p k : Nat) : Bool := okD p (.aload_n 0) 1 && (okD (p + 1) (.iload_n 3) 1 && (okD (p + 2) (.iconst (k : Int)) 1 && (okD (p + 3) .iadd 1 && okD (p + 4) .iaload 1)))
def argsD (p : Nat) : Nat → Bool
  | 0 => true
  | k + 1 => argsD p k && argD (p + 5 * k) (k + 1)
def stkL (xs : Nat → Int32) (I : Nat) : Nat → List Value
  | 0 => []
  | k + 1 => .int (xs (I + (k + 1))) :: stkL xs I k
theorem stkL_len {I : Nat} : ∀ k : Nat, (stkL xs I k).length = k
  | 0 => rfl
  | k + 1 => congrArg (· + 1) (stkL_len k)
theorem iconst_i32 : ∀ k : Nat, k < 6 → Int32.ofInt (k : Int) = i32 k := by decide
theorem vp_in_i32 {k m : Nat} (h : k < m) (hm : m ≤ 3072) : vp_in (i32 k) m := by
  have hb : B31 k := by unfold B31; omega
  refine fun z => ?_
  rcases z with z | z
  · have e : (0 : Int32) = i32 0 := rfl
    rw [e, i32_lt hb (by unfold B31; omega)] at z
    omega
  · rw [i32_nat hb] at z
    omega
theorem lx_arg {I k : Nat} (X : LCw G b n xs w) (hI : I + k < n) (hn : n ≤ 3072) (hk : k < 6) (hD : argD pc k = true) (kk : Lv G b w kc ks (pc + 5) (lvL b a br (i32 I)) (.int (xs (I + k)) :: rest) h) : Lv G b w kc ks pc (lvL b a br (i32 I)) rest h := by
  unfold argD at hD
  simp only [Bool.and_eq_true] at hD
  obtain ⟨d1, d2, d3, d4, d5⟩ := hD
  refine lx_aload_n X 0 (okD_ok d1) rfl rfl ?_
  refine lx_iload_n X 3 (okD_ok d2) rfl rfl ?_
  refine lx_iconst X (okD_ok d3) (iconst_i32 k hk) ?_
  refine lx_iadd X (okD_ok d4) ?_
  rw [i32_add]
  refine lx_sld X (vp_in_i32 hI hn) (okD_ok d5) ?_
  rw [i32_nat (by unfold B31; omega)]
  exact kk
theorem lx_args {I : Nat} (X : LCw G b n xs w) (hI : I + 6 ≤ n) (hn : n ≤ 3072) : ∀ {k : Nat}, k ≤ 5 → argsD pc k = true → Lv G b w kc ks (pc + 5 * k) (lvL b a br (i32 I)) (stkL xs I k ++ rest) h → Lv G b w kc ks pc (lvL b a br (i32 I)) rest h
  | 0, _, _, kk => kk
  | k + 1, hk, hD, kk => by
    have hD2 : (argsD pc k && argD (pc + 5 * k) (k + 1)) = true := hD
    rw [Bool.and_eq_true] at hD2
    refine lx_args X hI hn (k := k) (by omega) hD2.1 ?_
    exact lx_arg X (k := k + 1) (by omega) hn (by omega) hD2.2 kk
def caseD (q k i1 i2 : Nat) (off : Int) : Bool := okD q (.aload_n 1) 1 && (argsD (q + 1) k && (okD (q + 1 + 5 * k) (.invokevirtual i1) 3 && (okD (q + 1 + 5 * k + 3) (.aload_n 2) 1 && (argsD (q + 1 + 5 * k + 4) k && (okD (q + 1 + 5 * k + 4 + 5 * k) (.invokevirtual i2) 3 && (okD (q + 1 + 5 * k + 4 + 5 * k + 3) (.if_icmp .eq off) 3 && decide (((q + 1 + 5 * k + 4 + 5 * k + 3 : Nat) : Int) + off = ((1649 : Nat) : Int))))))))
/-- a case: both are asked, both answer alike, on to the next -/
theorem law_case {I q k i1 i2 d5 d6 : Nat} {off L' : Int} {N5 N6 : MI} {As : List Value} {f5 : SS → Option (Int32 × SS)} {f6 : TF → Option (Int32 × TF)} (X : LCw G b n xs w) (hI : I + 6 ≤ n) (hn : n ≤ 3072) (hk : k ≤ 5) (hAs : (stkL xs I k).reverse = As) (hD : caseD q k i1 i2 off = true) (J : INV a br ob S T h)
    (hM5 : MtF d5 N5 lyM rvI (fun _ pl => .ref (pl 0) :: As) f5) (hM6 : RefC rvI d6 N6 As f6) (hC5 : CalV N5 5 k) (hC6 : CalV N6 6 k) (hl5 : Cond.methodLink R_law i1 (myM N5) ∈ TT) (hl6 : Cond.methodLink R_law i2 (myM N6) ∈ TT) (hd5 : d5 ≤ 100) (hd6 : d6 ≤ 100) (hB : BothT L' (f5 S) (f6 T))
    (kk : ∀ (ob' : List Nat → Nat) (S' : SS) (T' : TF) (h' : PH), INV a br ob' S' T' h' → RR L' S' T' → Lv G b w (MCT T') (MST T') 1649 (lvL b a br (i32 I)) [] h') : Lv G b w (MCT T) (MST T) q (lvL b a br (i32 I)) [] h := by
  subst hAs
  unfold caseD at hD
  simp only [Bool.and_eq_true, decide_eq_true_eq] at hD
  obtain ⟨e1, e2, e3, e4, e5, e6, e7, e8⟩ := hD
  obtain ⟨r, S', T', g5, g6, hR⟩ := hB
  refine lx_aload_n X 1 (okD_ok e1) rfl rfl ?_
  refine lx_args X hI hn hk e2 ?_
  refine lx_cls (As := (stkL xs I k).reverse) (rest := []) X J hM5 g5 hC5 hl5 hd5 (by rw [List.reverse_reverse]) (by rw [List.length_reverse]; exact stkL_len k) (by decide) MCT_le MST_le (okD_ok e3) (fun h1 J1 => ?_)
  refine lx_aload_n X 2 (okD_ok e4) rfl rfl ?_
  refine lx_args X hI hn hk e5 ?_
  refine lx_ref (As := (stkL xs I k).reverse) (rest := [.int r]) X J1 hM6 g6 hC6 hl6 hd6 (by rw [List.reverse_reverse]; rfl) (by rw [List.length_reverse]; exact stkL_len k) (Nat.le_of_ble_eq_true rfl) (okD_ok e6) (fun ob' h2 J2 => ?_)
  exact lx_icmp_eq X (okD_ok e7) e8 (fun _ => kk ob' S' T' h2 J2 hR) (fun z => absurd rfl z)
end CASE
