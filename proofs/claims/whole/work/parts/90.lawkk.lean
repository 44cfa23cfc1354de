/-! WHAT LIES THERE AT THE LAW'S START -/
def stX : List Cond := flatC (Jvm.Cond.and given_1 narrow_1)
def tmS (i : Nat) : Term := Term.string (strOwn i) (strIdx i)
def inX (c : Cond) : Bool := stX.contains c
def cdS (i : Nat) : List Cond := [Cond.exactly (tmS i) "java/lang/String", Cond.eq (.field (tmS i) "java/lang/String" "coder" "B") (.int 0), Cond.arrayOf (.field (tmS i) "java/lang/String" "value" "[B") .byte, Cond.eq (.length (.field (tmS i) "java/lang/String" "value" "[B")) (.int (Int32.ofNat (strLen.getD i 0)))]
def ceS (i j : Nat) : Cond := Cond.eq (.elem (.field (tmS i) "java/lang/String" "value" "[B") (.int (Int32.ofNat j))) (.int ((strByt.getD i []).getD j 0))
theorem cdS_in : (List.range 7).all (fun i => (cdS i).all inX && (List.range (strLen.getD i 0)).all (fun j => inX (ceS i j))) = true := by decide +kernel
theorem neS_in : (List.range 7).all (fun i => (List.range 7).all (fun j => i == j || (inX (Cond.not (Cond.eq (tmS i) (tmS j))) || inX (Cond.not (Cond.eq (tmS j) (tmS i)))))) = true := by decide +kernel
theorem eqS_in : (List.range 7).all (fun i => inX (Cond.eq (tmS i) (tmS (7 + i))) || inX (Cond.eq (tmS (7 + i)) (tmS i))) = true := by decide +kernel
theorem srS_in : (List.range 14).all (fun i => lw_tbl.contains (Cond.stringRef (strOwn i) (strIdx i) (strTxt i))) = true := by decide +kernel
def tmO : Term := Term.static "BeforeItDrips$Cone" "ORDER_ROWS" "[I"
theorem ord_in : (inX (Cond.arrayOf tmO .int) && (inX (Cond.eq (.length tmO) (.int (Int32.ofNat 18))) && (inX (Cond.eq (.static "java/lang/String" "COMPACT_STRINGS" "Z") (.int 1)) && (inX (Cond.isRef (.static "jdk/internal/util/Preconditions" "SIOOBE_FORMATTER" "Ljava/util/function/BiFunction;")) && (List.range 18).all (fun j => inX (Cond.eq (.elem tmO (.int (Int32.ofNat j))) (.int (orderRows.getD j 0)))))))) = true := by decide +kernel
theorem inst_in : (List.range 7).all (fun k => lw_tbl.contains (Cond.instantiable (RXG k) (nFG k))) = true := by decide +kernel
theorem nest_in : nestW.all (fun w => lw_tbl.contains w && w.onTables) = true := by decide +kernel
def arrW : List Cond := [.arrayClass .int, .arrayClass .long, .arrayOver (.object RX3), .arrayOver (.object RX0), .arrayOver (.object RX6), .arrayOver (.array .int), .arrayOver (.array .long)]
theorem arr_in : arrW.all (fun w => lw_tbl.contains w) = true := by decide +kernel
def stW : List Cond := [.laysStatic "BeforeItDrips$Cone" "ORDER_ROWS" "[I", .initialized "BeforeItDrips$Cone", .laysStatic "java/lang/String" "COMPACT_STRINGS" "Z", .initialized "java/lang/String", .laysStatic "jdk/internal/util/Preconditions" "SIOOBE_FORMATTER" "Ljava/util/function/BiFunction;", .initialized "jdk/internal/util/Preconditions"]
theorem st_in : stW.all (fun w => lw_tbl.contains w) = true := by decide +kernel
section KKS
variable {s : State} {args : Array Value}
theorem eqR {t u : Term} {a : Nat} (h : (Cond.eq t u).before args s = true) (ht : t.eval args s none [] s = some (.ref a)) : u.eval args s none [] s = some (.ref a) := by
  cases hv : u.eval args s none [] s with
  | none => simp [Cond.before, Cond.holds, Cond.value, hv, ht] at h
  | some w =>
    simp only [Cond.before, Cond.holds, Cond.value, hv, ht] at h
    cases w <;> simp_all
theorem eqR' {t u : Term} {a : Nat} (h : (Cond.eq u t).before args s = true) (ht : t.eval args s none [] s = some (.ref a)) : u.eval args s none [] s = some (.ref a) := by
  cases hv : u.eval args s none [] s with
  | none => simp [Cond.before, Cond.holds, Cond.value, hv] at h
  | some w =>
    simp only [Cond.before, Cond.holds, Cond.value, hv, ht] at h
    cases w <;> simp_all
theorem all_at {f : Nat → Bool} {n : Nat} (h : (List.range n).all f = true) {k : Nat} (hk : k < n) : f k = true := List.all_eq_true.mp h k (List.mem_range.mpr hk)
theorem arr_at (hts : ∀ w ∈ lw_tbl, w.before args s = true) : ∀ k : Nat, ∃ cA : ClassId, k < 7 → ArrOfT s cA (atyG k) ∧ va_RA s cA (atyG k) := by
  have h0 : ∀ w ∈ arrW, w.before args s = true := fun w hw => hts w (List.contains_iff_mem.mp (List.all_eq_true.mp arr_in w hw))
  have prim : ∀ ty : FieldType, (Cond.arrayClass ty).before args s = true → ∃ cA : ClassId, ArrOfT s cA ty ∧ s.vm.findClass ("[" ++ ty.toString) = some cA := by
    intro ty h
    obtain ⟨c, k, comp, h1, h2, h3⟩ := Cond.arrayClass_spec (args := args) (first := s) (o := none) (s := s) (idx := []) h
    exact ⟨c, fun N z => ⟨(fun k h => by cases h), k, h2, comp, h3⟩, h1⟩
  have obj : ∀ C : String, (Cond.arrayOver (.object C)).before args s = true → ∃ cA : ClassId, ArrOfT s cA (.object C) ∧ va_RA s cA (.object C) := by
    intro C h
    obtain ⟨comp, c, k, h1, h2, h3, h4, h5⟩ := Cond.arrayOver_spec (args := args) (first := s) (o := none) (s := s) (idx := []) h
    exact ⟨c, fun N z => ⟨(fun k h => by cases h), k, h3, comp, h4⟩, k, comp, h3, h4, h1, h5⟩
  have arr : ∀ ty : FieldType, (Cond.arrayOver (.array ty)).before args s = true → ∃ cA : ClassId, ArrOfT s cA (.array ty) ∧ s.vm.findClass ("[" ++ (FieldType.array ty).toString) = some cA := by
    intro ty h
    obtain ⟨comp, c, k, h1, h3, h4, h5⟩ := Cond.arrayOver_specA (args := args) (first := s) (o := none) (s := s) (idx := []) h
    exact ⟨c, fun N z => ⟨(fun k h => by cases h), k, h3, comp, h4⟩, h5⟩
  intro k
  by_cases hk : k < 7
  · rcases (show k = 0 ∨ k = 1 ∨ k = 2 ∨ k = 3 ∨ k = 4 ∨ k = 5 ∨ k = 6 by omega) with rfl | rfl | rfl | rfl | rfl | rfl | rfl
    · obtain ⟨c, h1, h2⟩ := prim .int (h0 _ (by simp [arrW]))
      exact ⟨c, fun _ => ⟨h1, h2⟩⟩
    · obtain ⟨c, h1, h2⟩ := prim .long (h0 _ (by simp [arrW]))
      exact ⟨c, fun _ => ⟨h1, h2⟩⟩
    · obtain ⟨c, h1, h2⟩ := obj RX3 (h0 _ (by simp [arrW]))
      exact ⟨c, fun _ => ⟨h1, h2⟩⟩
    · obtain ⟨c, h1, h2⟩ := obj RX0 (h0 _ (by simp [arrW]))
      exact ⟨c, fun _ => ⟨h1, h2⟩⟩
    · obtain ⟨c, h1, h2⟩ := obj RX6 (h0 _ (by simp [arrW]))
      exact ⟨c, fun _ => ⟨h1, h2⟩⟩
    · obtain ⟨c, h1, h2⟩ := arr .int (h0 _ (by simp [arrW]))
      exact ⟨c, fun _ => ⟨h1, h2⟩⟩
    · obtain ⟨c, h1, h2⟩ := arr .long (h0 _ (by simp [arrW]))
      exact ⟨c, fun _ => ⟨h1, h2⟩⟩
  · exact ⟨0, fun h => absurd h hk⟩
theorem cls_at (hts : ∀ w ∈ lw_tbl, w.before args s = true) : ∀ k : Nat, ∃ q : ClassId × (Nat → Nat), k < 7 → u_Kn s (RXG k) (TXG k) (nFG k) q.1 q.2 := by
  intro k
  by_cases hk : k < 7
  · obtain ⟨cC, iS, h⟩ := u_known (C := RXG k) (T := TXG k) (N := nFG k) (n := nFG k) hts (fun w hw => (TT_tbl (u_wsG hk w hw)).1) (hts _ (List.contains_iff_mem.mp (all_at inst_in hk)))
    exact ⟨(cC, iS), fun _ => h⟩
  · exact ⟨(0, fun _ => 0), fun h => absurd h hk⟩
theorem vwCl_lt {k : Nat} {q : vw_C} (h : vwCl[k]? = some q) : k < 7 := (List.getElem?_eq_some_iff.mp h).1
/-- all that the walks ask of the start -/
theorem KK_start (hts : ∀ w ∈ lw_tbl, w.before args s = true) (hgv : (Jvm.Cond.and given_1 narrow_1).before args s = true) : ∃ G : GG, G.2.2.1 = s.heap ∧ KK G s := by
  obtain ⟨dq, hdq⟩ := Classical.axiomOfChoice (cls_at hts)
  obtain ⟨cA, hcA⟩ := Classical.axiomOfChoice (arr_at hts)
  have hx : ∀ c : Cond, inX c = true → c.before args s = true := fun c hc => flat_of_before _ hgv c (List.contains_iff_mem.mp hc)
  have hst : ∀ w ∈ stW, w.before args s = true := fun w hw => hts w (List.contains_iff_mem.mp (List.all_eq_true.mp st_in w hw))
  have hA : ∀ a : Nat, a < s.heap.size → ¬ (fun q => s.heap.size ≤ q) a := fun a ha => Nat.not_le.mpr ha
  have h1 := cdS_in
  have cd : ∀ i : Nat, i < 7 → (∀ c ∈ cdS i, c.before args s = true) ∧ ∀ j : Nat, j < strLen.getD i 0 → (ceS i j).before args s = true := by
    intro i hi
    have q := all_at h1 hi
    rw [Bool.and_eq_true] at q
    exact ⟨fun c hc => hx c (List.all_eq_true.mp q.1 c hc), fun j hj => hx _ (all_at q.2 hj)⟩
  obtain ⟨adK, adV, hS, hev⟩ := vk_Sof (args := args) (s := s) (N := 7) (tm := tmS) (len := strLen) (byt := strByt) (A := fun q => s.heap.size ≤ q)
    (fun i hi => by rcases (show i = 0 ∨ i = 1 ∨ i = 2 ∨ i = 3 ∨ i = 4 ∨ i = 5 ∨ i = 6 by omega) with rfl | rfl | rfl | rfl | rfl | rfl | rfl <;> decide)
    (fun i hi => (cd i hi).1 _ (by simp [cdS])) (fun i hi => (cd i hi).1 _ (by simp [cdS])) (fun i hi => (cd i hi).1 _ (by simp [cdS])) (fun i hi => (cd i hi).1 _ (by simp [cdS])) (fun i hi j hj => (cd i hi).2 j hj)
    (fun i j hi hj hne => by
      have q := all_at (all_at neS_in hi) hj
      rw [Bool.or_eq_true, Bool.or_eq_true] at q
      rcases q with q | q | q
      · exact absurd (by simpa using q) hne
      · exact Or.inl (hx _ q)
      · exact Or.inr (hx _ q)) hA
  have ho := ord_in
  simp only [Bool.and_eq_true] at ho
  obtain ⟨o1, o2, o3, o4, o5⟩ := ho
  obtain ⟨t, ht, hT⟩ := va_Tof (args := args) (s := s) (tm := tmO) (ty := .int) (N := 18) (f := fun j => .int (orderRows.getD j 0)) (A := fun q => s.heap.size ≤ q) (by decide) (hx _ o1) (va_eqt (hx _ o2)) (fun j hj => va_eqt (hx _ (all_at o5 hj))) hA
  refine ⟨((fun k => (dq k).1, fun k => (dq k).2), cA, s.heap, fun i => if i = 20 then t else adK i, adV), rfl, ⟨fun k q hq => ?_, fun k q hq => ?_⟩, fun w hw => ?_, ⟨⟨?_, ?_⟩, ?_, fun i hi => ?_, ?_, ?_⟩, fun C hC => ?_, fun ty hty => ?_⟩
  · have hk := vwCl_lt hq
    rw [vwCl_at hk] at hq
    cases hq
    exact hdq k hk
  · have hk : k < 7 := by
      have := (List.getElem?_eq_some_iff.mp hq).1
      simpa [tysG] using this
    rw [tysG_at _ hk] at hq
    cases hq
    exact hcA k hk
  · have q := List.all_eq_true.mp nest_in w hw
    rw [Bool.and_eq_true] at q
    exact va_Nw.of q.2 (hts w (List.contains_iff_mem.mp q.1))
  · exact va_Zref (hst _ (by simp [stW])) (hst _ (by simp [stW])) ht hA
  · exact hT
  · refine ⟨fun i hi => ?_, fun i j hi hj e => ?_⟩
    · have e : (if i = 20 then t else adK i) = adK i := if_neg (by omega)
      dsimp only
      rw [e]
      exact hS.1 i hi
    · dsimp only at e
      rw [if_neg (by omega), if_neg (by omega)] at e
      exact hS.2 i j hi hj e
  · have q := List.contains_iff_mem.mp (all_at srS_in hi)
    have e : (if i % 7 = 20 then t else adK (i % 7)) = adK (i % 7) := if_neg (by omega)
    dsimp only
    rw [e]
    refine vk_R.of (A := args) (hts _ q) ?_
    by_cases h7 : i < 7
    · rw [Nat.mod_eq_of_lt h7]
      exact hev i h7
    · obtain ⟨k, rfl⟩ : ∃ k, i = 7 + k := ⟨i - 7, by omega⟩
      have hk : k < 7 := by omega
      rw [show (7 + k) % 7 = k by omega]
      have z := all_at eqS_in hk
      rw [Bool.or_eq_true] at z
      rcases z with z | z
      · exact eqR (hx _ z) (hev k hk)
      · exact eqR' (hx _ z) (hev k hk)
  · exact va_Zof (hst _ (by simp [stW])) (hst _ (by simp [stW])) (va_eqi (hx _ o3)) hA
  · exact va_Zqof (hst _ (by simp [stW])) (hst _ (by simp [stW])) (hx _ o4) hA
  · have h0 : ∀ w ∈ arrW, w.before args s = true := fun w hw => hts w (List.contains_iff_mem.mp (List.all_eq_true.mp arr_in w hw))
    refine va_AO.of (A := args) ?_
    simp only [List.mem_cons, List.not_mem_nil, or_false] at hC
    rcases hC with rfl | rfl | rfl <;> exact h0 _ (by simp [arrW])
  · have h0 : ∀ w ∈ arrW, w.before args s = true := fun w hw => hts w (List.contains_iff_mem.mp (List.all_eq_true.mp arr_in w hw))
    have h2 : (Cond.arrayOver (.array ty)).before args s = true := by
      simp only [List.mem_cons, List.not_mem_nil, or_false] at hty
      rcases hty with rfl | rfl <;> exact h0 _ (by simp [arrW])
    exact h2
end KKS
