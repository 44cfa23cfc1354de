/-! THE JUDGEMENT Ev: the machine's W, packaged: a method's run over a heap told by five planes (size, shapes, references, ints, longs), at real addresses. -/
def TT : List Cond := lw_tbl.filter goodWord
theorem TT_in {w : Cond} (h : w ∈ lw_tbl) (g : goodWord w = true) : w ∈ TT := List.mem_filter.mpr ⟨h, g⟩
theorem TT_at {w : Cond} (i : Nat) (h : lw_tbl[i]? = some w) (g : goodWord w = true) : w ∈ TT := TT_in (List.mem_of_getElem? h) g
theorem TT_1 {w : Cond} (i : Nat) (h : tables_1_1[i]? = some w) (g : goodWord w = true) : w ∈ TT := TT_in (List.mem_append_right _ (show w ∈ tables_1 from List.mem_append_left _ (List.mem_of_getElem? h))) g
theorem TT_2 {w : Cond} (i : Nat) (h : tables_1_2[i]? = some w) (g : goodWord w = true) : w ∈ TT := TT_in (List.mem_append_right _ (show w ∈ tables_1 from List.mem_append_right _ (List.mem_append_left _ (List.mem_of_getElem? h)))) g
theorem TT_3 {w : Cond} (i : Nat) (h : tables_1_3[i]? = some w) (g : goodWord w = true) : w ∈ TT := TT_in (List.mem_append_right _ (show w ∈ tables_1 from List.mem_append_right _ (List.mem_append_right _ (List.mem_append_left _ (List.mem_of_getElem? h))))) g
theorem TT_4 {w : Cond} (i : Nat) (h : tables_1_4[i]? = some w) (g : goodWord w = true) : w ∈ TT := TT_in (List.mem_append_right _ (show w ∈ tables_1 from List.mem_append_right _ (List.mem_append_right _ (List.mem_append_right _ (List.mem_append_left _ (List.mem_of_getElem? h)))))) g
theorem TT_5 {w : Cond} (i : Nat) (h : tables_1_5[i]? = some w) (g : goodWord w = true) : w ∈ TT := TT_in (List.mem_append_right _ (show w ∈ tables_1 from List.mem_append_right _ (List.mem_append_right _ (List.mem_append_right _ (List.mem_append_right _ (List.mem_append_left _ (List.mem_of_getElem? h))))))) g
theorem TT_6 {w : Cond} (i : Nat) (h : tables_1_6[i]? = some w) (g : goodWord w = true) : w ∈ TT := TT_in (List.mem_append_right _ (show w ∈ tables_1 from List.mem_append_right _ (List.mem_append_right _ (List.mem_append_right _ (List.mem_append_right _ (List.mem_append_right _ (List.mem_of_getElem? h))))))) g
theorem TP_1 {y : MethodName} {n : Nat} (i : Nat) (h : lw_privs_1[i]? = some (y, n)) : Cond.selects y.cls y y ∈ TT := TT_in (List.mem_append_left _ (show Cond.selects y.cls y y ∈ k2_sels lw_privs from List.mem_map.mpr ⟨(y, n), show (y, n) ∈ lw_privs from List.mem_append_left _ (List.mem_of_getElem? h), rfl⟩)) rfl
theorem TP_2 {y : MethodName} {n : Nat} (i : Nat) (h : lw_privs_2[i]? = some (y, n)) : Cond.selects y.cls y y ∈ TT := TT_in (List.mem_append_left _ (show Cond.selects y.cls y y ∈ k2_sels lw_privs from List.mem_map.mpr ⟨(y, n), show (y, n) ∈ lw_privs from List.mem_append_right _ (List.mem_append_left _ (List.mem_of_getElem? h)), rfl⟩)) rfl
theorem TP_3 {y : MethodName} {n : Nat} (i : Nat) (h : lw_privs_3[i]? = some (y, n)) : Cond.selects y.cls y y ∈ TT := TT_in (List.mem_append_left _ (show Cond.selects y.cls y y ∈ k2_sels lw_privs from List.mem_map.mpr ⟨(y, n), show (y, n) ∈ lw_privs from List.mem_append_right _ (List.mem_append_right _ (List.mem_append_left _ (List.mem_of_getElem? h))), rfl⟩)) rfl
theorem TP_4 {y : MethodName} {n : Nat} (i : Nat) (h : lw_privs_4[i]? = some (y, n)) : Cond.selects y.cls y y ∈ TT := TT_in (List.mem_append_left _ (show Cond.selects y.cls y y ∈ k2_sels lw_privs from List.mem_map.mpr ⟨(y, n), show (y, n) ∈ lw_privs from List.mem_append_right _ (List.mem_append_right _ (List.mem_append_right _ (List.mem_append_left _ (List.mem_of_getElem? h)))), rfl⟩)) rfl
theorem TP_5 {y : MethodName} {n : Nat} (i : Nat) (h : lw_privs_5[i]? = some (y, n)) : Cond.selects y.cls y y ∈ TT := TT_in (List.mem_append_left _ (show Cond.selects y.cls y y ∈ k2_sels lw_privs from List.mem_map.mpr ⟨(y, n), show (y, n) ∈ lw_privs from List.mem_append_right _ (List.mem_append_right _ (List.mem_append_right _ (List.mem_append_right _ (List.mem_append_left _ (List.mem_of_getElem? h))))), rfl⟩)) rfl
theorem TP_6 {y : MethodName} {n : Nat} (i : Nat) (h : lw_privs_6[i]? = some (y, n)) : Cond.selects y.cls y y ∈ TT := TT_in (List.mem_append_left _ (show Cond.selects y.cls y y ∈ k2_sels lw_privs from List.mem_map.mpr ⟨(y, n), show (y, n) ∈ lw_privs from List.mem_append_right _ (List.mem_append_right _ (List.mem_append_right _ (List.mem_append_right _ (List.mem_append_right _ (List.mem_of_getElem? h))))), rfl⟩)) rfl
theorem TT_tbl {w : Cond} (h : w ∈ TT) : w ∈ lw_tbl ∧ goodWord w = true := List.mem_filter.mp h
/-- a method: whose, its name, code, locals, what it returns -/
abbrev MI : Type := String × MethodName × ByteArray × Nat × Option FieldType
abbrev moM (M : MI) : String := M.1
abbrev myM (M : MI) : MethodName := M.2.1
abbrev mbM (M : MI) : ByteArray := M.2.2.1
abbrev mlM (M : MI) : Nat := M.2.2.2.1
abbrev mrM (M : MI) : Option FieldType := M.2.2.2.2
def wsM (M : MI) : List Cond := Cond.code (myM M) (mbM M) (mlM M) (mrM M) :: TT
theorem wsM_good {M N : MI} (h : Cond.code (myM N) (mbM N) (mlM N) (mrM N) ∈ TT) : GoodIn (wsM M) (wsM N) := by
  intro w hw
  rcases List.mem_cons.mp hw with rfl | hw
  · exact ⟨List.mem_cons_of_mem _ h, good_of_word (TT_tbl h).2⟩
  · exact ⟨List.mem_cons_of_mem _ hw, good_of_word (TT_tbl hw).2⟩
/-- the heap: its size, shapes (kind, length), references, ints, longs -/
abbrev PH : Type := Nat × (Nat → Option (Nat × Nat)) × (Nat → Nat → Value) × (Nat → Nat → Int32) × (Nat → Nat → Int64)
/-- classes' and slots' numbers; array classes; the heap at the law's entry; what lies there -/
abbrev GG : Type := va_G × (Nat → ClassId) × Heap × (Nat → Nat) × (Nat → Nat)
def atyG : Nat → FieldType := fun k => match k with
  | 0 => .int
  | 1 => .long
  | 2 => .object RX3
  | 3 => .object RX0
  | 4 => .object RX6
  | 5 => .array .int
  | _ => .array .long
def tysG (G : GG) : List (ClassId × FieldType) := (List.range 7).map (fun k => (G.2.1 k, atyG k))
theorem tysG_at (G : GG) {k : Nat} (hk : k < 7) : (tysG G)[k]? = some (G.2.1 k, atyG k) := by
  simp [tysG, hk]
def ftyG (ci k : Nat) : FieldType := match ci with
  | 0 => tyX0 k
  | 1 => tyX1 k
  | 2 => tyX2 k
  | 3 => tyX3 k
  | 4 => tyX4 k
  | 5 => tyX5 k
  | _ => tyX6 k
def TXG (ci : Nat) : u_T := match ci with
  | 0 => TX0
  | 1 => TX1
  | 2 => TX2
  | 3 => TX3
  | 4 => TX4
  | 5 => TX5
  | _ => TX6
def RXG (ci : Nat) : String := match ci with
  | 0 => RX0
  | 1 => RX1
  | 2 => RX2
  | 3 => RX3
  | 4 => RX4
  | 5 => RX5
  | _ => RX6
def nFG (ci : Nat) : Nat := match ci with
  | 0 => 16
  | 1 => 6
  | 2 => 5
  | 3 => 3
  | 4 => 7
  | 5 => 9
  | _ => 45
theorem vwCl_at {ci : Nat} (h : ci < 7) : vwCl[ci]? = some (RXG ci, TXG ci, nFG ci) := by
  rcases (show ci = 0 ∨ ci = 1 ∨ ci = 2 ∨ ci = 3 ∨ ci = 4 ∨ ci = 5 ∨ ci = 6 by omega) with rfl | rfl | rfl | rfl | rfl | rfl | rfl <;> rfl
def isRf (t : FieldType) : Bool := match t with
  | .object _ => true
  | .array _ => true
  | _ => false
def fvalG (h : PH) (ci q k : Nat) : Value := if isRf (ftyG ci k) = true then h.2.2.1 q k else .int (h.2.2.2.1 q k)
def cellG (G : GG) (h : PH) (q : Nat) (kn : Nat × Nat) (H : Heap) : Prop :=
  if kn.1 < 7 then t_OB q (G.1.1 kn.1) (nFG kn.1) (G.1.2 kn.1) H (fun j => fvalG h kn.1 q j)
  else if kn.1 = 10 then H[q]? = some (arrV (G.2.1 0) kn.2 (fun j => .int (h.2.2.2.1 q j)))
  else if kn.1 = 11 then H[q]? = some (arrV (G.2.1 1) kn.2 (fun j => .long (h.2.2.2.2 q j)))
  else kn.1 < 17 ∧ H[q]? = some (arrV (G.2.1 (kn.1 - 10)) kn.2 (fun j => h.2.2.1 q j))
def RelH (G : GG) (h : PH) (H : Heap) : Prop :=
  H.size = h.1 ∧ G.2.2.1.size ≤ H.size ∧ (∀ q : Nat, q < G.2.2.1.size → H[q]? = G.2.2.1[q]?) ∧
  ∀ (q : Nat) (kn : Nat × Nat), h.2.1 q = some kn → G.2.2.1.size ≤ q ∧ cellG G h q kn H
/-- the private constructors of nest mates -/
def nestW : List Cond := [Cond.methodLinkNest RX5 9 yX4_init "BeforeItDrips", Cond.methodLinkNest RX4 11 yX0_init "BeforeItDrips", Cond.methodLinkNest RX5 24 yX0_init "BeforeItDrips", Cond.methodLinkNest RX2 31 yX0_init "BeforeItDrips", Cond.methodLinkNest RX5 44 yX1_init "BeforeItDrips", Cond.methodLinkNest RX5 57 yX3_init "BeforeItDrips"]
def orderRows : List Int32 := [0, 1, 2, 0, 2, 1, 1, 0, 2, 1, 2, 0, 2, 0, 1, 2, 1, 0]
def strLen : List Nat := [5, 5, 3, 4, 4, 6, 4]
def strByt : List (List Int32) := [[115, 105, 100, 101, 115], [115, 99, 111, 111, 112], [115, 117, 110], [104, 111, 108, 100], [98, 114, 105, 109], [108, 105, 99, 107, 101, 114], [108, 105, 99, 107]]
def strOwn (i : Nat) : String := if i < 7 then RX1 else RX6
def strIdx (i : Nat) : Nat := ([38, 54, 59, 64, 69, 74, 79, 216, 224, 226, 230, 232, 234, 236] : List Nat).getD i 0
def strTxt (i : Nat) : String := (["sides", "scoop", "sun", "hold", "brim", "licker", "lick"] : List String).getD (i % 7) ""
/-- the old cells that the code reads: the table of orders, the words of kerbs -/
def KX (G : GG) (U : State) : Prop :=
  (va_Z "BeforeItDrips$Cone" "ORDER_ROWS" "[I" (.ref (G.2.2.2.1 20)) (fun q => G.2.2.1.size ≤ q) U G.2.2.1 ∧ va_T .int (G.2.2.2.1 20) 18 (fun j => .int (orderRows.getD j 0)) (fun q => G.2.2.1.size ≤ q) U G.2.2.1) ∧
  vk_S 7 strLen strByt G.2.2.2.1 G.2.2.2.2 (fun q => G.2.2.1.size ≤ q) U G.2.2.1 ∧ (∀ i : Nat, i < 14 → vk_R (strOwn i) (strIdx i) (strTxt i) (G.2.2.2.1 (i % 7)) U) ∧
  va_Z "java/lang/String" "COMPACT_STRINGS" "Z" (.int 1) (fun q => G.2.2.1.size ≤ q) U G.2.2.1 ∧ va_Zq "jdk/internal/util/Preconditions" "SIOOBE_FORMATTER" "Ljava/util/function/BiFunction;" (fun q => G.2.2.1.size ≤ q) U G.2.2.1
theorem xa_mv {u U : State} {ty : FieldType} (ha : u.vm.Alike U.vm) (h : (Cond.arrayOver ty).before #[] u = true) : (Cond.arrayOver ty).before #[] U = true := by
  have h1 : (Cond.arrayOver ty).before #[] (u.setVm U.vm) = true := by rw [Cond.arrayOver_setVmC ha]; exact h
  unfold Cond.before Cond.holds at h1 ⊢
  simp only [Cond.value] at h1 ⊢
  exact h1
def aoW : List FieldType := [.object RX3, .object RX0, .object RX6, .array .int, .array .long]
def KK (G : GG) (U : State) : Prop := va_K G.1 vwCl (tysG G) U ∧ (∀ w ∈ nestW, va_Nw w U) ∧ KX G U ∧ (∀ C ∈ [RX3, RX0, RX6], va_AO C U) ∧ ∀ ty ∈ [FieldType.int, .long], (Cond.arrayOver (.array ty)).before #[] U = true
theorem KK.same {G : GG} {u U : State} (hv : u.vm = U.vm) (h : KK G u) : KK G U := by
  have ha : u.vm.Alike U.vm := by rw [hv]; exact Vm.Alike.refl _
  obtain ⟨h1, h2, ⟨⟨h3, h4⟩, h5, h6, h7, h77⟩, h8, h9⟩ := h
  refine ⟨h1.moved ha, fun w hw => va_Nw.same ?_ hv (h2 w hw), ⟨⟨h3.moved ha, h4.moved ha⟩, h5.moved ha, fun i hi => vk_R.same hv.symm (h6 i hi), h7.moved ha, h77.moved ha⟩, fun C hC => (h8 C hC).moved ha, fun ty ht => xa_mv ha (h9 ty ht)⟩
  have hall : nestW.all (fun w => w.onTables) = true := by decide +kernel
  exact List.all_eq_true.mp hall w hw
theorem KK.warm {G : GG} {s U : State} (hW : s.WarmedH U.vm) (h : KK G s) : KK G U := by
  have ha : s.vm.Alike U.vm := hW.alike
  obtain ⟨h1, h2, ⟨⟨h3, h4⟩, h5, h6, h7, h77⟩, h8, h9⟩ := h
  refine ⟨h1.moved ha, fun w hw => ?_, ⟨⟨h3.moved ha, h4.moved ha⟩, h5.moved ha, fun i hi => vk_R.warm hW (h6 i hi), h7.moved ha, h77.moved ha⟩, fun C hC => (h8 C hC).moved ha, fun ty ht => xa_mv ha (h9 ty ht)⟩
  have h99 := h2 w hw
  simp only [nestW, List.mem_cons, List.not_mem_nil, or_false] at hw
  rcases hw with rfl | rfl | rfl | rfl | rfl | rfl <;> exact va_Nw.warmM hW h99
def rmD (d mc ms : Nat) : Room := { frames := d, cells := mc, slots := ms, locals := 64 * d }
/-- the context of a method's run -/
def CX (G : GG) (M : MI) (p : Program) (s : State) (m : MethodId) (args : Array Value) (meth : Method) (c : Code) : Prop :=
  p.tables.exec = Jvm.exec ∧ c.code = mbM M ∧ c.maxLocals = mlM M ∧ s.vm.findClass (moM M) = some m.cls ∧ (∀ w ∈ wsM M, w.before args s = true) ∧ meth.sig.returnType = mrM M ∧ meth.locks = false ∧ KK G s ∧ meth.name = (myM M).name
def QcG (G : GG) (Q : Option Value → PH → Prop) : Array Value → State → Outcome → State → Prop := fun _ _ o t => ∃ (v : Option Value) (h : PH), o = .returned v ∧ Q v h ∧ RelH G h t.heap
def Ev (G : GG) (d : Nat) (M : MI) (mc ms : Nat) (Q : Option Value → PH → Prop) (kc ks pc : Nat) (lv : List (Nat × Value)) (st : List Value) (h : PH) : Prop :=
  ∀ (p : Program) (l : Launch) (e : Env) (s : State) (m : MethodId) (args : Array Value) (below : List Frame) (meth : Method) (c : Code) (H : Heap) (locs : List Loc) (ls : Array Slot),
    CX G M p s m args meth c → RelH G h H → (∀ x ∈ locs, G.2.2.1.size ≤ x.base) → lv_has ls (mlM M) lv →
    W p l e (rmD d mc ms) s m args below meth c H locs kc ks (MQ below (QcG G Q) args s mc ms (fun q => G.2.2.1.size ≤ q)) (F0 m pc ls st)
/-- a method's contract at given arguments and heap -/
def MtG (G : GG) (d : Nat) (M : MI) (mc ms : Nat) (av : List Value) (h : PH) (Q : Option Value → PH → Prop) : Prop :=
  ∀ l : Launch, Met l (myM M) (wsM M) (rmD d mc ms) (va_Pc av (fun U => KK G U ∧ RelH G h U.heap)) (QcG G Q) mc ms (fun q => G.2.2.1.size ≤ q)
def Mt (d : Nat) (M : MI) (mc ms : Nat) (av : GG → List Value) (h : PH) (Q : Option Value → PH → Prop) : Prop := ∀ G : GG, MtG G d M mc ms (av G) h Q
theorem MtG.of {G : GG} {d : Nat} {M : MI} {mc ms : Nat} {av : List Value} {h : PH} {Q : Option Value → PH → Prop} (hpl : plainName (myM M).cls = true) (ho : moM M = (myM M).cls) (hl : (lg_sl av).length ≤ mlM M)
    (body : Ev G d M mc ms Q 0 0 0 (lv_args 0 av) [] h) : MtG G d M mc ms av h Q := by
  intro l
  refine Met.ofW (cc := mbM M) (maxL := mlM M) (ret := mrM M) (ws' := TT) hpl rfl ?_
  intro p e s m args below meth c s₁ B hml hv
  obtain ⟨rfl, hK, hR⟩ := hv
  have hown : s.vm.findClass (moM M) = some m.cls := by rw [ho]; exact findClass_of_methodNamed B.named
  have hX : CX G M p s m av.toArray meth c := ⟨B.exec, B.bytes, hml, hown, atoms_spec (ws := wsM M) B.pre, B.returns, B.notSynchronized, hK, (name_of_methodNamed B.named B.method).1⟩
  have hle := lv_entry av (n := mlM M) hl
  rw [lg_entry_eq]
  exact body p l e s m _ below meth c s.heap [] _ hX hR (fun x hx => by cases hx) hle
section EV
variable {G : GG} {d : Nat} {M : MI} {mc ms : Nat} {Q : Option Value → PH → Prop} {kc ks pc : Nat} {lv : List (Nat × Value)} {rest : List Value} {h : PH}
theorem ev_iconst {n : Int} {v : Int32} (hdg : decode (mbM M) pc = .ok (.iconst n, 1)) (hv : Int32.ofInt n = v)     (k : Ev G d M mc ms Q kc ks (pc + 1) lv (.int v :: rest) h) : Ev G d M mc ms Q kc ks pc lv (rest) h := fun p l e s m args below meth c H locs ls X R L hl => lv_iconst X.1 X.2.1 hdg hv (k p l e s m args below meth c H locs ls X R L hl)
theorem ev_bipush {n : Int} {v : Int32} (hdg : decode (mbM M) pc = .ok (.bipush n, 2)) (hv : (Int8.ofInt n).toInt32 = v)     (k : Ev G d M mc ms Q kc ks (pc + 2) lv (.int v :: rest) h) : Ev G d M mc ms Q kc ks pc lv (rest) h := fun p l e s m args below meth c H locs ls X R L hl => lv_bipush X.1 X.2.1 hdg hv (k p l e s m args below meth c H locs ls X R L hl)
theorem ev_sipush {n : Int} {v : Int32} (hdg : decode (mbM M) pc = .ok (.sipush n, 3)) (hv : (Int16.ofInt n).toInt32 = v)     (k : Ev G d M mc ms Q kc ks (pc + 3) lv (.int v :: rest) h) : Ev G d M mc ms Q kc ks pc lv (rest) h := fun p l e s m args below meth c H locs ls X R L hl => lv_sipush X.1 X.2.1 hdg hv (k p l e s m args below meth c H locs ls X R L hl)
theorem ev_lconst {n : Fin 2} {v : Int64} (hdg : decode (mbM M) pc = .ok (.lconst n, 1)) (hv : Int64.ofNat (n : Nat) = v)     (k : Ev G d M mc ms Q kc ks (pc + 1) lv (.long v :: rest) h) : Ev G d M mc ms Q kc ks pc lv (rest) h := fun p l e s m args below meth c H locs ls X R L hl => lv_lconst X.1 X.2.1 hdg hv (k p l e s m args below meth c H locs ls X R L hl)
theorem ev_iadd {x y : Int32} (hdg : decode (mbM M) pc = .ok (.iadd, 1))      (k : Ev G d M mc ms Q kc ks (pc + 1) lv (.int (x + y) :: rest) h) : Ev G d M mc ms Q kc ks pc lv (.int y :: .int x :: rest) h := fun p l e s m args below meth c H locs ls X R L hl => lv_iadd X.1 X.2.1 hdg (k p l e s m args below meth c H locs ls X R L hl)
theorem ev_isub {x y : Int32} (hdg : decode (mbM M) pc = .ok (.isub, 1))      (k : Ev G d M mc ms Q kc ks (pc + 1) lv (.int (x - y) :: rest) h) : Ev G d M mc ms Q kc ks pc lv (.int y :: .int x :: rest) h := fun p l e s m args below meth c H locs ls X R L hl => lv_isub X.1 X.2.1 hdg (k p l e s m args below meth c H locs ls X R L hl)
theorem ev_imul {x y : Int32} (hdg : decode (mbM M) pc = .ok (.imul, 1))      (k : Ev G d M mc ms Q kc ks (pc + 1) lv (.int (x * y) :: rest) h) : Ev G d M mc ms Q kc ks pc lv (.int y :: .int x :: rest) h := fun p l e s m args below meth c H locs ls X R L hl => lv_imul X.1 X.2.1 hdg (k p l e s m args below meth c H locs ls X R L hl)
theorem ev_idiv {x y : Int32} (hdg : decode (mbM M) pc = .ok (.idiv, 1)) (hne : ¬ y = 0)     (k : Ev G d M mc ms Q kc ks (pc + 1) lv (.int (x / y) :: rest) h) : Ev G d M mc ms Q kc ks pc lv (.int y :: .int x :: rest) h := fun p l e s m args below meth c H locs ls X R L hl => lv_idiv X.1 X.2.1 hdg hne (k p l e s m args below meth c H locs ls X R L hl)
theorem ev_irem {x y : Int32} (hdg : decode (mbM M) pc = .ok (.irem, 1)) (hne : ¬ y = 0)     (k : Ev G d M mc ms Q kc ks (pc + 1) lv (.int (x - x / y * y) :: rest) h) : Ev G d M mc ms Q kc ks pc lv (.int y :: .int x :: rest) h := fun p l e s m args below meth c H locs ls X R L hl => lv_irem X.1 X.2.1 hdg hne (k p l e s m args below meth c H locs ls X R L hl)
theorem ev_ineg {x : Int32} (hdg : decode (mbM M) pc = .ok (.ineg, 1))      (k : Ev G d M mc ms Q kc ks (pc + 1) lv (.int (-x) :: rest) h) : Ev G d M mc ms Q kc ks pc lv (.int x :: rest) h := fun p l e s m args below meth c H locs ls X R L hl => lv_ineg X.1 X.2.1 hdg (k p l e s m args below meth c H locs ls X R L hl)
theorem ev_iand {x y : Int32} (hdg : decode (mbM M) pc = .ok (.iand, 1))      (k : Ev G d M mc ms Q kc ks (pc + 1) lv (.int (x &&& y) :: rest) h) : Ev G d M mc ms Q kc ks pc lv (.int y :: .int x :: rest) h := fun p l e s m args below meth c H locs ls X R L hl => lv_iand X.1 X.2.1 hdg (k p l e s m args below meth c H locs ls X R L hl)
theorem ev_ior {x y : Int32} (hdg : decode (mbM M) pc = .ok (.ior, 1))      (k : Ev G d M mc ms Q kc ks (pc + 1) lv (.int (x ||| y) :: rest) h) : Ev G d M mc ms Q kc ks pc lv (.int y :: .int x :: rest) h := fun p l e s m args below meth c H locs ls X R L hl => lv_ior X.1 X.2.1 hdg (k p l e s m args below meth c H locs ls X R L hl)
theorem ev_ixor {x y : Int32} (hdg : decode (mbM M) pc = .ok (.ixor, 1))      (k : Ev G d M mc ms Q kc ks (pc + 1) lv (.int (x ^^^ y) :: rest) h) : Ev G d M mc ms Q kc ks pc lv (.int y :: .int x :: rest) h := fun p l e s m args below meth c H locs ls X R L hl => lv_ixor X.1 X.2.1 hdg (k p l e s m args below meth c H locs ls X R L hl)
theorem ev_ishl {x y : Int32} (hdg : decode (mbM M) pc = .ok (.ishl, 1))      (k : Ev G d M mc ms Q kc ks (pc + 1) lv (.int (x <<< (y &&& 31)) :: rest) h) : Ev G d M mc ms Q kc ks pc lv (.int y :: .int x :: rest) h := fun p l e s m args below meth c H locs ls X R L hl => lv_ishl X.1 X.2.1 hdg (k p l e s m args below meth c H locs ls X R L hl)
theorem ev_ishr {x y : Int32} (hdg : decode (mbM M) pc = .ok (.ishr, 1))      (k : Ev G d M mc ms Q kc ks (pc + 1) lv (.int (x >>> (y &&& 31)) :: rest) h) : Ev G d M mc ms Q kc ks pc lv (.int y :: .int x :: rest) h := fun p l e s m args below meth c H locs ls X R L hl => lv_ishr X.1 X.2.1 hdg (k p l e s m args below meth c H locs ls X R L hl)
theorem ev_iushr {x y v : Int32} (hdg : decode (mbM M) pc = .ok (.iushr, 1)) (hv : (x.toUInt32 >>> (y.toUInt32 &&& Int32.toUInt32 31)).toInt32 = v)     (k : Ev G d M mc ms Q kc ks (pc + 1) lv (.int v :: rest) h) : Ev G d M mc ms Q kc ks pc lv (.int y :: .int x :: rest) h := fun p l e s m args below meth c H locs ls X R L hl => lv_iushr X.1 X.2.1 hdg hv (k p l e s m args below meth c H locs ls X R L hl)
theorem ev_ladd {x y : Int64} (hdg : decode (mbM M) pc = .ok (.ladd, 1))      (k : Ev G d M mc ms Q kc ks (pc + 1) lv (.long (x + y) :: rest) h) : Ev G d M mc ms Q kc ks pc lv (.long y :: .long x :: rest) h := fun p l e s m args below meth c H locs ls X R L hl => lv_ladd X.1 X.2.1 hdg (k p l e s m args below meth c H locs ls X R L hl)
theorem ev_lsub {x y : Int64} (hdg : decode (mbM M) pc = .ok (.lsub, 1))      (k : Ev G d M mc ms Q kc ks (pc + 1) lv (.long (x - y) :: rest) h) : Ev G d M mc ms Q kc ks pc lv (.long y :: .long x :: rest) h := fun p l e s m args below meth c H locs ls X R L hl => lv_lsub X.1 X.2.1 hdg (k p l e s m args below meth c H locs ls X R L hl)
theorem ev_lmul {x y : Int64} (hdg : decode (mbM M) pc = .ok (.lmul, 1))      (k : Ev G d M mc ms Q kc ks (pc + 1) lv (.long (x * y) :: rest) h) : Ev G d M mc ms Q kc ks pc lv (.long y :: .long x :: rest) h := fun p l e s m args below meth c H locs ls X R L hl => lv_lmul X.1 X.2.1 hdg (k p l e s m args below meth c H locs ls X R L hl)
theorem ev_land {x y : Int64} (hdg : decode (mbM M) pc = .ok (.land, 1))      (k : Ev G d M mc ms Q kc ks (pc + 1) lv (.long (x &&& y) :: rest) h) : Ev G d M mc ms Q kc ks pc lv (.long y :: .long x :: rest) h := fun p l e s m args below meth c H locs ls X R L hl => lv_land X.1 X.2.1 hdg (k p l e s m args below meth c H locs ls X R L hl)
theorem ev_lor {x y : Int64} (hdg : decode (mbM M) pc = .ok (.lor, 1))      (k : Ev G d M mc ms Q kc ks (pc + 1) lv (.long (x ||| y) :: rest) h) : Ev G d M mc ms Q kc ks pc lv (.long y :: .long x :: rest) h := fun p l e s m args below meth c H locs ls X R L hl => lv_lor X.1 X.2.1 hdg (k p l e s m args below meth c H locs ls X R L hl)
theorem ev_lshl {x v : Int64} {y : Int32} (hdg : decode (mbM M) pc = .ok (.lshl, 1)) (hv : x <<< (y.toInt64 &&& 63) = v)     (k : Ev G d M mc ms Q kc ks (pc + 1) lv (.long v :: rest) h) : Ev G d M mc ms Q kc ks pc lv (.int y :: .long x :: rest) h := fun p l e s m args below meth c H locs ls X R L hl => lv_lshl X.1 X.2.1 hdg hv (k p l e s m args below meth c H locs ls X R L hl)
theorem ev_i2l {x : Int32} {v : Int64} (hdg : decode (mbM M) pc = .ok (.i2l, 1)) (hv : x.toInt64 = v)     (k : Ev G d M mc ms Q kc ks (pc + 1) lv (.long v :: rest) h) : Ev G d M mc ms Q kc ks pc lv (.int x :: rest) h := fun p l e s m args below meth c H locs ls X R L hl => lv_i2l X.1 X.2.1 hdg hv (k p l e s m args below meth c H locs ls X R L hl)
theorem ev_l2i {x : Int64} {v : Int32} (hdg : decode (mbM M) pc = .ok (.l2i, 1)) (hv : x.toInt32 = v)     (k : Ev G d M mc ms Q kc ks (pc + 1) lv (.int v :: rest) h) : Ev G d M mc ms Q kc ks pc lv (.long x :: rest) h := fun p l e s m args below meth c H locs ls X R L hl => lv_l2i X.1 X.2.1 hdg hv (k p l e s m args below meth c H locs ls X R L hl)
theorem ev_i2b {x : Int32} {v : Int32} (hdg : decode (mbM M) pc = .ok (.i2b, 1)) (hv : x.toInt8.toInt32 = v)     (k : Ev G d M mc ms Q kc ks (pc + 1) lv (.int v :: rest) h) : Ev G d M mc ms Q kc ks pc lv (.int x :: rest) h := fun p l e s m args below meth c H locs ls X R L hl => lv_i2b X.1 X.2.1 hdg hv (k p l e s m args below meth c H locs ls X R L hl)
theorem ev_i2s {x : Int32} {v : Int32} (hdg : decode (mbM M) pc = .ok (.i2s, 1)) (hv : x.toInt16.toInt32 = v)     (k : Ev G d M mc ms Q kc ks (pc + 1) lv (.int v :: rest) h) : Ev G d M mc ms Q kc ks pc lv (.int x :: rest) h := fun p l e s m args below meth c H locs ls X R L hl => lv_i2s X.1 X.2.1 hdg hv (k p l e s m args below meth c H locs ls X R L hl)
theorem ev_dup {va : Value} (hdg : decode (mbM M) pc = .ok (.dup, 1)) (hva : va.category = 1)     (k : Ev G d M mc ms Q kc ks (pc + 1) lv (va :: va :: rest) h) : Ev G d M mc ms Q kc ks pc lv (va :: rest) h := fun p l e s m args below meth c H locs ls X R L hl => lv_dup X.1 X.2.1 hdg hva (k p l e s m args below meth c H locs ls X R L hl)
theorem ev_pop {va : Value} (hdg : decode (mbM M) pc = .ok (.pop, 1)) (hva : va.category = 1)     (k : Ev G d M mc ms Q kc ks (pc + 1) lv (rest) h) : Ev G d M mc ms Q kc ks pc lv (va :: rest) h := fun p l e s m args below meth c H locs ls X R L hl => lv_pop X.1 X.2.1 hdg hva (k p l e s m args below meth c H locs ls X R L hl)
theorem ev_dup_x1 {va vb : Value} (hdg : decode (mbM M) pc = .ok (.dup_x1, 1)) (hva : va.category = 1) (hvb : vb.category = 1)     (k : Ev G d M mc ms Q kc ks (pc + 1) lv (va :: vb :: va :: rest) h) : Ev G d M mc ms Q kc ks pc lv (va :: vb :: rest) h := fun p l e s m args below meth c H locs ls X R L hl => lv_dup_x1 X.1 X.2.1 hdg hva hvb (k p l e s m args below meth c H locs ls X R L hl)
theorem ev_dup_x2 {va vb vd : Value} (hdg : decode (mbM M) pc = .ok (.dup_x2, 1)) (hva : va.category = 1) (hvb : vb.category = 1) (hvd : vd.category = 1)     (k : Ev G d M mc ms Q kc ks (pc + 1) lv (va :: vb :: vd :: va :: rest) h) : Ev G d M mc ms Q kc ks pc lv (va :: vb :: vd :: rest) h := fun p l e s m args below meth c H locs ls X R L hl => lv_dup_x2 X.1 X.2.1 hdg hva hvb hvd (k p l e s m args below meth c H locs ls X R L hl)
theorem ev_dup2_11 {va vb : Value} (hdg : decode (mbM M) pc = .ok (.dup2, 1)) (hva : va.category = 1) (hvb : vb.category = 1)     (k : Ev G d M mc ms Q kc ks (pc + 1) lv (va :: vb :: va :: vb :: rest) h) : Ev G d M mc ms Q kc ks pc lv (va :: vb :: rest) h := fun p l e s m args below meth c H locs ls X R L hl => lv_dup2_11 X.1 X.2.1 hdg hva hvb (k p l e s m args below meth c H locs ls X R L hl)
theorem ev_if_eq {x : Int32} {off : Int} {tgt : Nat} (hdg : decode (mbM M) pc = .ok (.ifCond .eq off, 3)) (ht : (pc : Int) + off = (tgt : Int))     (kt : x = 0 → Ev G d M mc ms Q kc ks tgt lv rest h) (kf : ¬ x = 0 → Ev G d M mc ms Q kc ks (pc + 3) lv rest h) : Ev G d M mc ms Q kc ks pc lv (.int x :: rest) h := fun p l e s m args below meth c H locs ls X R L hl => lv_if_eq X.1 X.2.1 hdg ht (fun z => kt z p l e s m args below meth c H locs ls X R L hl) (fun z => kf z p l e s m args below meth c H locs ls X R L hl)
theorem ev_if_ne {x : Int32} {off : Int} {tgt : Nat} (hdg : decode (mbM M) pc = .ok (.ifCond .ne off, 3)) (ht : (pc : Int) + off = (tgt : Int))     (kt : ¬ x = 0 → Ev G d M mc ms Q kc ks tgt lv rest h) (kf : x = 0 → Ev G d M mc ms Q kc ks (pc + 3) lv rest h) : Ev G d M mc ms Q kc ks pc lv (.int x :: rest) h := fun p l e s m args below meth c H locs ls X R L hl => lv_if_ne X.1 X.2.1 hdg ht (fun z => kt z p l e s m args below meth c H locs ls X R L hl) (fun z => kf z p l e s m args below meth c H locs ls X R L hl)
theorem ev_if_lt {x : Int32} {off : Int} {tgt : Nat} (hdg : decode (mbM M) pc = .ok (.ifCond .lt off, 3)) (ht : (pc : Int) + off = (tgt : Int))     (kt : x < 0 → Ev G d M mc ms Q kc ks tgt lv rest h) (kf : ¬ x < 0 → Ev G d M mc ms Q kc ks (pc + 3) lv rest h) : Ev G d M mc ms Q kc ks pc lv (.int x :: rest) h := fun p l e s m args below meth c H locs ls X R L hl => lv_if_lt X.1 X.2.1 hdg ht (fun z => kt z p l e s m args below meth c H locs ls X R L hl) (fun z => kf z p l e s m args below meth c H locs ls X R L hl)
theorem ev_if_ge {x : Int32} {off : Int} {tgt : Nat} (hdg : decode (mbM M) pc = .ok (.ifCond .ge off, 3)) (ht : (pc : Int) + off = (tgt : Int))     (kt : 0 ≤ x → Ev G d M mc ms Q kc ks tgt lv rest h) (kf : ¬ 0 ≤ x → Ev G d M mc ms Q kc ks (pc + 3) lv rest h) : Ev G d M mc ms Q kc ks pc lv (.int x :: rest) h := fun p l e s m args below meth c H locs ls X R L hl => lv_if_ge X.1 X.2.1 hdg ht (fun z => kt z p l e s m args below meth c H locs ls X R L hl) (fun z => kf z p l e s m args below meth c H locs ls X R L hl)
theorem ev_if_gt {x : Int32} {off : Int} {tgt : Nat} (hdg : decode (mbM M) pc = .ok (.ifCond .gt off, 3)) (ht : (pc : Int) + off = (tgt : Int))     (kt : 0 < x → Ev G d M mc ms Q kc ks tgt lv rest h) (kf : ¬ 0 < x → Ev G d M mc ms Q kc ks (pc + 3) lv rest h) : Ev G d M mc ms Q kc ks pc lv (.int x :: rest) h := fun p l e s m args below meth c H locs ls X R L hl => lv_if_gt X.1 X.2.1 hdg ht (fun z => kt z p l e s m args below meth c H locs ls X R L hl) (fun z => kf z p l e s m args below meth c H locs ls X R L hl)
theorem ev_if_le {x : Int32} {off : Int} {tgt : Nat} (hdg : decode (mbM M) pc = .ok (.ifCond .le off, 3)) (ht : (pc : Int) + off = (tgt : Int))     (kt : x ≤ 0 → Ev G d M mc ms Q kc ks tgt lv rest h) (kf : ¬ x ≤ 0 → Ev G d M mc ms Q kc ks (pc + 3) lv rest h) : Ev G d M mc ms Q kc ks pc lv (.int x :: rest) h := fun p l e s m args below meth c H locs ls X R L hl => lv_if_le X.1 X.2.1 hdg ht (fun z => kt z p l e s m args below meth c H locs ls X R L hl) (fun z => kf z p l e s m args below meth c H locs ls X R L hl)
theorem ev_icmp_eq {x y : Int32} {off : Int} {tgt : Nat} (hdg : decode (mbM M) pc = .ok (.if_icmp .eq off, 3)) (ht : (pc : Int) + off = (tgt : Int))     (kt : x = y → Ev G d M mc ms Q kc ks tgt lv rest h) (kf : ¬ x = y → Ev G d M mc ms Q kc ks (pc + 3) lv rest h) : Ev G d M mc ms Q kc ks pc lv (.int y :: .int x :: rest) h := fun p l e s m args below meth c H locs ls X R L hl => lv_icmp_eq X.1 X.2.1 hdg ht (fun z => kt z p l e s m args below meth c H locs ls X R L hl) (fun z => kf z p l e s m args below meth c H locs ls X R L hl)
theorem ev_icmp_ne {x y : Int32} {off : Int} {tgt : Nat} (hdg : decode (mbM M) pc = .ok (.if_icmp .ne off, 3)) (ht : (pc : Int) + off = (tgt : Int))     (kt : ¬ x = y → Ev G d M mc ms Q kc ks tgt lv rest h) (kf : x = y → Ev G d M mc ms Q kc ks (pc + 3) lv rest h) : Ev G d M mc ms Q kc ks pc lv (.int y :: .int x :: rest) h := fun p l e s m args below meth c H locs ls X R L hl => lv_icmp_ne X.1 X.2.1 hdg ht (fun z => kt z p l e s m args below meth c H locs ls X R L hl) (fun z => kf z p l e s m args below meth c H locs ls X R L hl)
theorem ev_icmp_lt {x y : Int32} {off : Int} {tgt : Nat} (hdg : decode (mbM M) pc = .ok (.if_icmp .lt off, 3)) (ht : (pc : Int) + off = (tgt : Int))     (kt : x < y → Ev G d M mc ms Q kc ks tgt lv rest h) (kf : ¬ x < y → Ev G d M mc ms Q kc ks (pc + 3) lv rest h) : Ev G d M mc ms Q kc ks pc lv (.int y :: .int x :: rest) h := fun p l e s m args below meth c H locs ls X R L hl => lv_icmp_lt X.1 X.2.1 hdg ht (fun z => kt z p l e s m args below meth c H locs ls X R L hl) (fun z => kf z p l e s m args below meth c H locs ls X R L hl)
theorem ev_icmp_ge {x y : Int32} {off : Int} {tgt : Nat} (hdg : decode (mbM M) pc = .ok (.if_icmp .ge off, 3)) (ht : (pc : Int) + off = (tgt : Int))     (kt : y ≤ x → Ev G d M mc ms Q kc ks tgt lv rest h) (kf : ¬ y ≤ x → Ev G d M mc ms Q kc ks (pc + 3) lv rest h) : Ev G d M mc ms Q kc ks pc lv (.int y :: .int x :: rest) h := fun p l e s m args below meth c H locs ls X R L hl => lv_icmp_ge X.1 X.2.1 hdg ht (fun z => kt z p l e s m args below meth c H locs ls X R L hl) (fun z => kf z p l e s m args below meth c H locs ls X R L hl)
theorem ev_icmp_gt {x y : Int32} {off : Int} {tgt : Nat} (hdg : decode (mbM M) pc = .ok (.if_icmp .gt off, 3)) (ht : (pc : Int) + off = (tgt : Int))     (kt : y < x → Ev G d M mc ms Q kc ks tgt lv rest h) (kf : ¬ y < x → Ev G d M mc ms Q kc ks (pc + 3) lv rest h) : Ev G d M mc ms Q kc ks pc lv (.int y :: .int x :: rest) h := fun p l e s m args below meth c H locs ls X R L hl => lv_icmp_gt X.1 X.2.1 hdg ht (fun z => kt z p l e s m args below meth c H locs ls X R L hl) (fun z => kf z p l e s m args below meth c H locs ls X R L hl)
theorem ev_icmp_le {x y : Int32} {off : Int} {tgt : Nat} (hdg : decode (mbM M) pc = .ok (.if_icmp .le off, 3)) (ht : (pc : Int) + off = (tgt : Int))     (kt : x ≤ y → Ev G d M mc ms Q kc ks tgt lv rest h) (kf : ¬ x ≤ y → Ev G d M mc ms Q kc ks (pc + 3) lv rest h) : Ev G d M mc ms Q kc ks pc lv (.int y :: .int x :: rest) h := fun p l e s m args below meth c H locs ls X R L hl => lv_icmp_le X.1 X.2.1 hdg ht (fun z => kt z p l e s m args below meth c H locs ls X R L hl) (fun z => kf z p l e s m args below meth c H locs ls X R L hl)
theorem ev_goto {off : Int} {tgt : Nat} (hdg : decode (mbM M) pc = .ok (.goto off, 3)) (ht : (pc : Int) + off = (tgt : Int)) (k : Ev G d M mc ms Q kc ks tgt lv rest h) : Ev G d M mc ms Q kc ks pc lv rest h := fun p l e s m args below meth c H locs ls X R L hl => lv_goto X.1 X.2.1 hdg ht (k p l e s m args below meth c H locs ls X R L hl)
theorem ev_tableIn {dflt lo hi : Int} {offs : Array Int} {len : Nat} {x : Int32} {off : Int} {tgt : Nat} (hdg : decode (mbM M) pc = .ok (.tableswitch dflt lo hi offs, len)) (h1 : ¬ x.toInt < lo) (h2 : ¬ hi < x.toInt) (ho : offs[(x.toInt - lo).toNat]? = some off) (ht : (pc : Int) + off = (tgt : Int))     (k : Ev G d M mc ms Q kc ks tgt lv rest h) : Ev G d M mc ms Q kc ks pc lv (.int x :: rest) h := fun p l e s m args below meth c H locs ls X R L hl => lv_tableIn X.1 X.2.1 hdg h1 h2 ho ht (k p l e s m args below meth c H locs ls X R L hl)
theorem ev_tableOut {dflt lo hi : Int} {offs : Array Int} {len : Nat} {x : Int32} {tgt : Nat} (hdg : decode (mbM M) pc = .ok (.tableswitch dflt lo hi offs, len)) (hx : x.toInt < lo ∨ hi < x.toInt) (ht : (pc : Int) + dflt = (tgt : Int))     (k : Ev G d M mc ms Q kc ks tgt lv rest h) : Ev G d M mc ms Q kc ks pc lv (.int x :: rest) h := fun p l e s m args below meth c H locs ls X R L hl => lv_tableOut X.1 X.2.1 hdg hx ht (k p l e s m args below meth c H locs ls X R L hl)
theorem ev_ifnull {x : Nat} {off : Int} (hdg : decode (mbM M) pc = .ok (.ifnull off, 3)) (k : Ev G d M mc ms Q kc ks (pc + 3) lv rest h) : Ev G d M mc ms Q kc ks pc lv (.ref x :: rest) h := fun p l e s m args below meth c H locs ls X R L hl => lv_ifnull X.1 X.2.1 hdg (k p l e s m args below meth c H locs ls X R L hl)
theorem ev_ifnonnull {x : Nat} {off : Int} {tgt : Nat} (hdg : decode (mbM M) pc = .ok (.ifnonnull off, 3)) (ht : (pc : Int) + off = (tgt : Int)) (k : Ev G d M mc ms Q kc ks tgt lv rest h) : Ev G d M mc ms Q kc ks pc lv (.ref x :: rest) h := fun p l e s m args below meth c H locs ls X R L hl => lv_ifnonnull X.1 X.2.1 hdg ht (k p l e s m args below meth c H locs ls X R L hl)
theorem ev_ifnullN {off : Int} {tgt : Nat} (hdg : decode (mbM M) pc = .ok (.ifnull off, 3)) (ht : (pc : Int) + off = (tgt : Int)) (k : Ev G d M mc ms Q kc ks tgt lv rest h) : Ev G d M mc ms Q kc ks pc lv (.null :: rest) h := fun p l e s m args below meth c H locs ls X R L hl => lv_ifnullN X.1 X.2.1 hdg ht (k p l e s m args below meth c H locs ls X R L hl)
theorem ev_ifnonnullN {off : Int} (hdg : decode (mbM M) pc = .ok (.ifnonnull off, 3)) (k : Ev G d M mc ms Q kc ks (pc + 3) lv rest h) : Ev G d M mc ms Q kc ks pc lv (.null :: rest) h := fun p l e s m args below meth c H locs ls X R L hl => lv_ifnonnullN X.1 X.2.1 hdg (k p l e s m args below meth c H locs ls X R L hl)
theorem ev_null (hdg : decode (mbM M) pc = .ok (.aconst_null, 1)) (k : Ev G d M mc ms Q kc ks (pc + 1) lv (.null :: rest) h) : Ev G d M mc ms Q kc ks pc lv rest h := fun p l e s m args below meth c H locs ls X R L hl => lv_null X.1 X.2.1 hdg (k p l e s m args below meth c H locs ls X R L hl)
theorem ev_iload_n {k : Fin 4} {i : Nat} {x : Int32} (j : Nat) (hdg : decode (mbM M) pc = .ok (.iload_n k, 1)) (hi : (k : Nat) = i) (hj : lv[j]? = some (i, .int x)) (kk : Ev G d M mc ms Q kc ks (pc + 1) lv (.int x :: rest) h) : Ev G d M mc ms Q kc ks pc lv rest h := fun p l e s m args below meth c H locs ls X R L hl => lv_iload_n X.1 X.2.1 hdg hi (lv_at hl j hj) (kk p l e s m args below meth c H locs ls X R L hl)
theorem ev_iload {i : Nat} {x : Int32} (j : Nat) (hdg : decode (mbM M) pc = .ok (.iload i, 2)) (hj : lv[j]? = some (i, .int x)) (kk : Ev G d M mc ms Q kc ks (pc + 2) lv (.int x :: rest) h) : Ev G d M mc ms Q kc ks pc lv rest h := fun p l e s m args below meth c H locs ls X R L hl => lv_iload X.1 X.2.1 hdg (lv_at hl j hj) (kk p l e s m args below meth c H locs ls X R L hl)
theorem ev_lload_n {k : Fin 4} {i : Nat} {x : Int64} (j : Nat) (hdg : decode (mbM M) pc = .ok (.lload_n k, 1)) (hi : (k : Nat) = i) (hj : lv[j]? = some (i, .long x)) (kk : Ev G d M mc ms Q kc ks (pc + 1) lv (.long x :: rest) h) : Ev G d M mc ms Q kc ks pc lv rest h := fun p l e s m args below meth c H locs ls X R L hl => lv_lload_n X.1 X.2.1 hdg hi (lv_at hl j hj) (kk p l e s m args below meth c H locs ls X R L hl)
theorem ev_lload {i : Nat} {x : Int64} (j : Nat) (hdg : decode (mbM M) pc = .ok (.lload i, 2)) (hj : lv[j]? = some (i, .long x)) (kk : Ev G d M mc ms Q kc ks (pc + 2) lv (.long x :: rest) h) : Ev G d M mc ms Q kc ks pc lv rest h := fun p l e s m args below meth c H locs ls X R L hl => lv_lload X.1 X.2.1 hdg (lv_at hl j hj) (kk p l e s m args below meth c H locs ls X R L hl)
theorem ev_aload_n {k : Fin 4} {i x : Nat} (j : Nat) (hdg : decode (mbM M) pc = .ok (.aload_n k, 1)) (hi : (k : Nat) = i) (hj : lv[j]? = some (i, .ref x)) (kk : Ev G d M mc ms Q kc ks (pc + 1) lv (.ref x :: rest) h) : Ev G d M mc ms Q kc ks pc lv rest h := fun p l e s m args below meth c H locs ls X R L hl => lv_aload_n X.1 X.2.1 hdg hi (lv_at hl j hj) (kk p l e s m args below meth c H locs ls X R L hl)
theorem ev_aload {i x : Nat} (j : Nat) (hdg : decode (mbM M) pc = .ok (.aload i, 2)) (hj : lv[j]? = some (i, .ref x)) (kk : Ev G d M mc ms Q kc ks (pc + 2) lv (.ref x :: rest) h) : Ev G d M mc ms Q kc ks pc lv rest h := fun p l e s m args below meth c H locs ls X R L hl => lv_aload X.1 X.2.1 hdg (lv_at hl j hj) (kk p l e s m args below meth c H locs ls X R L hl)
theorem ev_istore_n {k : Fin 4} {i : Nat} {x : Int32} {lv' : List (Nat × Value)} (hdg : decode (mbM M) pc = .ok (.istore_n k, 1)) (hi : (k : Nat) = i) (hn : i < mlM M) (hl' : (i, Value.int x) :: lv.filter (fun q => !(q.1 == i) && !(q.1 + 1 == i && q.2.category == 2)) = lv') (kk : Ev G d M mc ms Q kc ks (pc + 1) lv' rest h) : Ev G d M mc ms Q kc ks pc lv (.int x :: rest) h := fun p l e s m args below meth c H locs ls X R L hl => lv_istore_n X.1 X.2.1 hdg hi hl hn hl' (fun ls' hl2 => kk p l e s m args below meth c H locs ls' X R L hl2)
theorem ev_istore {i : Nat} {x : Int32} {lv' : List (Nat × Value)} (hdg : decode (mbM M) pc = .ok (.istore i, 2)) (hn : i < mlM M) (hl' : (i, Value.int x) :: lv.filter (fun q => !(q.1 == i) && !(q.1 + 1 == i && q.2.category == 2)) = lv') (kk : Ev G d M mc ms Q kc ks (pc + 2) lv' rest h) : Ev G d M mc ms Q kc ks pc lv (.int x :: rest) h := fun p l e s m args below meth c H locs ls X R L hl => lv_istore X.1 X.2.1 hdg hl hn hl' (fun ls' hl2 => kk p l e s m args below meth c H locs ls' X R L hl2)
theorem ev_lstore_n {k : Fin 4} {i : Nat} {x : Int64} {lv' : List (Nat × Value)} (hdg : decode (mbM M) pc = .ok (.lstore_n k, 1)) (hi : (k : Nat) = i) (hn : i + 1 < mlM M) (hl' : (i, Value.long x) :: lv.filter (fun q => !(q.1 == i) && (!(q.1 == i + 1) && !(q.1 + 1 == i && q.2.category == 2))) = lv') (kk : Ev G d M mc ms Q kc ks (pc + 1) lv' rest h) : Ev G d M mc ms Q kc ks pc lv (.long x :: rest) h := fun p l e s m args below meth c H locs ls X R L hl => lv_lstore_n X.1 X.2.1 hdg hi hl hn hl' (fun ls' hl2 => kk p l e s m args below meth c H locs ls' X R L hl2)
theorem ev_lstore {i : Nat} {x : Int64} {lv' : List (Nat × Value)} (hdg : decode (mbM M) pc = .ok (.lstore i, 2)) (hn : i + 1 < mlM M) (hl' : (i, Value.long x) :: lv.filter (fun q => !(q.1 == i) && (!(q.1 == i + 1) && !(q.1 + 1 == i && q.2.category == 2))) = lv') (kk : Ev G d M mc ms Q kc ks (pc + 2) lv' rest h) : Ev G d M mc ms Q kc ks pc lv (.long x :: rest) h := fun p l e s m args below meth c H locs ls X R L hl => lv_lstore X.1 X.2.1 hdg hl hn hl' (fun ls' hl2 => kk p l e s m args below meth c H locs ls' X R L hl2)
theorem ev_astore_n {k : Fin 4} {i x : Nat} {lv' : List (Nat × Value)} (hdg : decode (mbM M) pc = .ok (.astore_n k, 1)) (hi : (k : Nat) = i) (hn : i < mlM M) (hl' : (i, Value.ref x) :: lv.filter (fun q => !(q.1 == i) && !(q.1 + 1 == i && q.2.category == 2)) = lv') (kk : Ev G d M mc ms Q kc ks (pc + 1) lv' rest h) : Ev G d M mc ms Q kc ks pc lv (.ref x :: rest) h := fun p l e s m args below meth c H locs ls X R L hl => lv_astore_n X.1 X.2.1 hdg hi hl hn hl' (fun ls' hl2 => kk p l e s m args below meth c H locs ls' X R L hl2)
theorem ev_astore {i x : Nat} {lv' : List (Nat × Value)} (hdg : decode (mbM M) pc = .ok (.astore i, 2)) (hn : i < mlM M) (hl' : (i, Value.ref x) :: lv.filter (fun q => !(q.1 == i) && !(q.1 + 1 == i && q.2.category == 2)) = lv') (kk : Ev G d M mc ms Q kc ks (pc + 2) lv' rest h) : Ev G d M mc ms Q kc ks pc lv (.ref x :: rest) h := fun p l e s m args below meth c H locs ls X R L hl => lv_astore X.1 X.2.1 hdg hl hn hl' (fun ls' hl2 => kk p l e s m args below meth c H locs ls' X R L hl2)
theorem ev_iinc {i : Nat} {n : Int} {x v : Int32} {lv' : List (Nat × Value)} (j : Nat) (hdg : decode (mbM M) pc = .ok (.iinc i n, 3)) (hj : lv[j]? = some (i, .int x)) (hv : x + Int32.ofInt n = v) (hn : i < mlM M) (hl' : (i, Value.int v) :: lv.filter (fun q => !(q.1 == i) && !(q.1 + 1 == i && q.2.category == 2)) = lv') (kk : Ev G d M mc ms Q kc ks (pc + 3) lv' rest h) : Ev G d M mc ms Q kc ks pc lv rest h := fun p l e s m args below meth c H locs ls X R L hl => lv_iinc (k := j) X.1 X.2.1 hdg hl hj hv hn hl' (fun ls' hl2 => kk p l e s m args below meth c H locs ls' X R L hl2)
/-- fewer locals, in any order -/
theorem ev_sub {lv' : List (Nat × Value)} (js : List Nat) (hj : lv_pick lv js = lv') (kk : Ev G d M mc ms Q kc ks pc lv' rest h) : Ev G d M mc ms Q kc ks pc lv rest h := fun p l e s m args below meth c H locs ls X R L hl => kk p l e s m args below meth c H locs ls X R L (lv_sub hl js hj)
theorem ev_lcmp {x y : Int64} (hdg : decode (mbM M) pc = .ok (.lcmp, 1)) (kk : Ev G d M mc ms Q kc ks (pc + 1) lv (.int (lg_cmp x y) :: rest) h) : Ev G d M mc ms Q kc ks pc lv (.long y :: .long x :: rest) h := fun p l e s m args below meth c H locs ls X R L hl => W.lcmp X.1 X.2.1 hdg (kk p l e s m args below meth c H locs ls X R L hl)
theorem ev_ldc {index : Nat} {v : Int32} (hc : Cond.constant (moM M) index v ∈ TT) (hdg : decode (mbM M) pc = .ok (.ldc index, 2)) (kk : Ev G d M mc ms Q kc ks (pc + 2) lv (.int v :: rest) h) : Ev G d M mc ms Q kc ks pc lv rest h := fun p l e s m args below meth c H locs ls X R L hl => lv_ldc X.1 X.2.1 X.2.2.2.1 (X.2.2.2.2.1 _ (List.mem_cons_of_mem _ hc)) hdg (kk p l e s m args below meth c H locs ls X R L hl)
theorem ev_ldc2 {index : Nat} {v : Int64} (hc : Cond.constantLong (moM M) index v ∈ TT) (hdg : decode (mbM M) pc = .ok (.ldc2_w index, 3)) (kk : Ev G d M mc ms Q kc ks (pc + 3) lv (.long v :: rest) h) : Ev G d M mc ms Q kc ks pc lv rest h := fun p l e s m args below meth c H locs ls X R L hl => lv_ldc2 X.1 X.2.1 X.2.2.2.1 (X.2.2.2.2.1 _ (List.mem_cons_of_mem _ hc)) hdg (kk p l e s m args below meth c H locs ls X R L hl)
theorem ev_ldcw {index : Nat} {v : Int32} (hc : Cond.constant (moM M) index v ∈ TT) (hdg : decode (mbM M) pc = .ok (.ldc_w index, 3)) (kk : Ev G d M mc ms Q kc ks (pc + 3) lv (.int v :: rest) h) : Ev G d M mc ms Q kc ks pc lv rest h := fun p l e s m args below meth c H locs ls X R L hl => lv_ldcw X.1 X.2.1 X.2.2.2.1 (X.2.2.2.2.1 _ (List.mem_cons_of_mem _ hc)) hdg (kk p l e s m args below meth c H locs ls X R L hl)
theorem ev_ldcS {index i : Nat} (hi : i < 14) (ho : strOwn i = moM M) (hx : strIdx i = index) (hdg : decode (mbM M) pc = .ok (.ldc index, 2)) (kk : Ev G d M mc ms Q kc ks (pc + 2) lv (.ref (G.2.2.2.1 (i % 7)) :: rest) h) : Ev G d M mc ms Q kc ks pc lv rest h := fun p l e s m args below meth c H locs ls X R L hl => va_ldcS X.1 X.2.1 X.2.2.2.1 (by
  have z := X.2.2.2.2.2.2.2.1.2.2.1.2.2.1 i hi
  rw [ho, hx] at z
  exact z) hdg (kk p l e s m args below meth c H locs ls X R L hl)
/-- a field's link, at the code of M -/
def FL (M : MI) (idx ci j : Nat) : Prop := Cond.fieldLink (moM M) idx (TXG ci j).1 (TXG ci j).2.1 (TXG ci j).2.2.1 ∈ TT ∧ ci < 7 ∧ j < nFG ci
theorem RelH.obj {H : Heap} (R : RelH G h H) {q ci n : Nat} (hs : h.2.1 q = some (ci, n)) (hc : ci < 7) : G.2.2.1.size ≤ q ∧ t_OB q (G.1.1 ci) (nFG ci) (G.1.2 ci) H (fun j => fvalG h ci q j) := by
  obtain ⟨a, b⟩ := R.2.2.2 q _ hs
  unfold cellG at b
  rw [if_pos hc] at b
  exact ⟨a, b⟩
theorem RelH.ints {H : Heap} (R : RelH G h H) {q n : Nat} (hs : h.2.1 q = some (10, n)) : G.2.2.1.size ≤ q ∧ H[q]? = some (arrV (G.2.1 0) n (fun j => .int (h.2.2.2.1 q j))) := by
  obtain ⟨a, b⟩ := R.2.2.2 q _ hs
  unfold cellG at b
  rw [if_neg (show ¬ (10 : Nat) < 7 by decide), if_pos rfl] at b
  exact ⟨a, b⟩
theorem RelH.lngs {H : Heap} (R : RelH G h H) {q n : Nat} (hs : h.2.1 q = some (11, n)) : G.2.2.1.size ≤ q ∧ H[q]? = some (arrV (G.2.1 1) n (fun j => .long (h.2.2.2.2 q j))) := by
  obtain ⟨a, b⟩ := R.2.2.2 q _ hs
  unfold cellG at b
  rw [if_neg (show ¬ (11 : Nat) < 7 by decide), if_neg (show ¬ (11 : Nat) = 10 by decide), if_pos rfl] at b
  exact ⟨a, b⟩
theorem RelH.refs {H : Heap} (R : RelH G h H) {q k n : Nat} (hs : h.2.1 q = some (k, n)) (h1 : 12 ≤ k) : G.2.2.1.size ≤ q ∧ k < 17 ∧ H[q]? = some (arrV (G.2.1 (k - 10)) n (fun j => h.2.2.1 q j)) := by
  obtain ⟨a, b⟩ := R.2.2.2 q _ hs
  unfold cellG at b
  rw [if_neg (by show ¬ k < 7; omega), if_neg (by show ¬ k = 10; omega), if_neg (by show ¬ k = 11; omega)] at b
  exact ⟨a, b⟩
theorem u_wsG {ci : Nat} (hc : ci < 7) : ∀ w ∈ u_ws (RXG ci) (TXG ci) (nFG ci), w ∈ TT := by
  have h0 : (List.range 7).all (fun c => (u_ws (RXG c) (TXG c) (nFG c)).all (fun w => lw_tbl.contains w && goodWord w)) = true := by decide +kernel
  intro w hw
  have h1 := List.all_eq_true.mp (List.all_eq_true.mp h0 ci (List.mem_range.mpr hc)) w hw
  simp only [Bool.and_eq_true, List.contains_iff_mem] at h1
  exact TT_in h1.1 h1.2
theorem ftyG_ok {ci k : Nat} (hc : ci < 7) (hk : k < nFG ci) : parseFieldDescriptor (TXG ci k).2.2.1 = some (ftyG ci k) := by
  rcases (show ci = 0 ∨ ci = 1 ∨ ci = 2 ∨ ci = 3 ∨ ci = 4 ∨ ci = 5 ∨ ci = 6 by omega) with rfl | rfl | rfl | rfl | rfl | rfl | rfl
  · exact tyX0_ok k hk
  · exact tyX1_ok k hk
  · exact tyX2_ok k hk
  · exact tyX3_ok k hk
  · exact tyX4_ok k hk
  · exact tyX5_ok k hk
  · exact tyX6_ok k hk
theorem nmG_ok {ci : Nat} (hc : ci < 7) : ∀ a, a < nFG ci → ∀ b, b < nFG ci → a ≠ b → (TXG ci a).2.1 ≠ (TXG ci b).2.1 := by
  rcases (show ci = 0 ∨ ci = 1 ∨ ci = 2 ∨ ci = 3 ∨ ci = 4 ∨ ci = 5 ∨ ci = 6 by omega) with rfl | rfl | rfl | rfl | rfl | rfl | rfl
  · exact nmX0
  · exact nmX1
  · exact nmX2
  · exact nmX3
  · exact nmX4
  · exact nmX5
  · exact nmX6
theorem ev_getf {idx ci j n a : Nat} {v : Value} (hs : h.2.1 a = some (ci, n)) (hF : FL M idx ci j) (hv : fvalG h ci a j = v) (hdg : decode (mbM M) pc = .ok (.getfield idx, 3)) (kk : Ev G d M mc ms Q kc ks (pc + 3) lv (v :: rest) h) : Ev G d M mc ms Q kc ks pc lv (.ref a :: rest) h := by
  intro p l e s m args below meth c H locs ls X R L hl
  obtain ⟨hlk, hc, hj⟩ := hF
  have hts : ∀ w ∈ TT, w.before args s = true := fun w hw => X.2.2.2.2.1 w (List.mem_cons_of_mem _ hw)
  obtain ⟨-, cell, q1, q2, q3, q4⟩ := R.obj hs hc
  obtain ⟨hS, hfc, kC, hkC, hkind⟩ := X.2.2.2.2.2.2.2.1.1.1 ci _ (vwCl_at hc)
  obtain ⟨cf, kf, fi, f, hi, hsl⟩ := hS j hj
  refine W.getf X.1 X.2.1 X.2.2.2.1 (hts _ hlk) hi (u_facts hfc hkC (u_lays hts (u_wsG hc) hj) hi).1 q1 (by rw [q3]; exact fun z => by cases z) (v := v) ?_ rfl rfl hdg (kk p l e s m args below meth c H locs ls X R L hl)
  rw [hsl]
  exact (q4 j hj).trans (congrArg some hv)
/-- one more int at a place -/
def upd2 {α : Type} (S : Nat → Nat → α) (a i : Nat) (v : α) : Nat → Nat → α := fun q => if q = a then (fun j => if j = i then v else S q j) else S q
theorem upd2_same {α : Type} {S : Nat → Nat → α} {a i j : Nat} {v : α} : upd2 S a i v a j = if j = i then v else S a j := by simp [upd2]
theorem upd2_ne {α : Type} {S : Nat → Nat → α} {a i q : Nat} {v : α} (z : q ≠ a) : upd2 S a i v q = S q := by simp [upd2, z]
theorem RelH.write {H H1 : Heap} (R : RelH G h H) {a : Nat} {kn : Nat × Nat} {P : Nat → Nat → Value} {S : Nat → Nat → Int32} {LL : Nat → Nat → Int64} (hs : h.2.1 a = some kn) (hz : H1.size = H.size) (oq : ∀ q : Nat, q ≠ a → H1[q]? = H[q]?)
    (hP : ∀ q : Nat, q ≠ a → P q = h.2.2.1 q) (hS : ∀ q : Nat, q ≠ a → S q = h.2.2.2.1 q) (hL : ∀ q : Nat, q ≠ a → LL q = h.2.2.2.2 q) (hc : cellG G (h.1, h.2.1, P, S, LL) a kn H1) : RelH G (h.1, h.2.1, P, S, LL) H1 := by
  have ha := (R.2.2.2 a kn hs).1
  refine ⟨hz.trans R.1, by rw [hz]; exact R.2.1, fun q hq => ?_, fun q kq hq => ?_⟩
  · rw [oq q (by omega)]
    exact R.2.2.1 q hq
  · by_cases z : q = a
    · subst z
      have e : kq = kn := Option.some.inj (hq.symm.trans hs)
      subst e
      exact ⟨ha, hc⟩
    · obtain ⟨g1, g2⟩ := R.2.2.2 q kq hq
      refine ⟨g1, ?_⟩
      unfold cellG at g2 ⊢
      split at g2
      · rename_i y
        rw [if_pos y]
        refine (g2.kept (oq q z)).to (fun k _ => ?_)
        simp only [fvalG, hP q z, hS q z]
      · rename_i y
        rw [if_neg y]
        split at g2
        · rename_i y
          rw [if_pos y, oq q z, g2]
          simp only [hS q z]
        · rename_i y
          rw [if_neg y]
          split at g2
          · rename_i y
            rw [if_pos y, oq q z, g2]
            simp only [hL q z]
          · rename_i y
            rw [if_neg y]
            refine ⟨g2.1, ?_⟩
            rw [oq q z, g2.2]
            simp only [hP q z]
theorem locs_app {G : GG} {locs : List Loc} {a k : Nat} (L : ∀ x ∈ locs, G.2.2.1.size ≤ x.base) (ha : G.2.2.1.size ≤ a) : ∀ x ∈ locs ++ [(⟨a, k⟩ : Loc)], G.2.2.1.size ≤ x.base := by
  intro x hx
  rcases List.mem_append.mp hx with q | q
  · exact L x q
  · rw [List.mem_singleton.mp q]
    exact ha
theorem ev_putI {idx ci j n a : Nat} {x : Int32} (hs : h.2.1 a = some (ci, n)) (hF : FL M idx ci j) (hfin : (TXG ci j).2.2.2 = false) (hrf : isRf (ftyG ci j) = false) (hn : narrow (ftyG ci j) (.int x) = .int x) (hfit : fits (ftyG ci j) (.int x) = true) (hdg : decode (mbM M) pc = .ok (.putfield idx, 3))
    (kk : Ev G d M mc ms Q kc ks (pc + 3) lv rest (h.1, h.2.1, h.2.2.1, upd2 h.2.2.2.1 a j x, h.2.2.2.2)) : Ev G d M mc ms Q kc ks pc lv (.int x :: .ref a :: rest) h := by
  intro p l e s m args below meth c H locs ls X R L hl
  obtain ⟨hlk, hc, hj⟩ := hF
  have hts : ∀ w ∈ TT, w.before args s = true := fun w hw => X.2.2.2.2.1 w (List.mem_cons_of_mem _ hw)
  obtain ⟨hga, cell, q1, q2, q3, q4⟩ := R.obj hs hc
  have hK := X.2.2.2.2.2.2.2.1.1
  have hap := va_apart (own := moM M) hts (u_wsG hc) (ftyG ci) (fun k hk => ftyG_ok hc hk) (nmG_ok hc) hK (vwCl_at hc)
  obtain ⟨hS, hfc, kC, hkC, hkind⟩ := hK.1 ci _ (vwCl_at hc)
  obtain ⟨cf, kf, fi, f, hi, hsl⟩ := hS j hj
  have hlay := hts _ (u_wsG hc _ (u_in_lay hj))
  unfold u_lay at hlay
  rw [if_neg (by rw [hfin]; decide)] at hlay
  have hst := (u_facts hfc hkC (u_lays hts (u_wsG hc) hj) hi).1
  have h6 := u_store hfc hkC hkind hlay hi (ftyG_ok hc hj) hn hfit
  refine W.putK X.1 X.2.1 (f := f) ⟨X.2.2.2.1, hts _ hlk, ⟨_, _, _, hi⟩, hst⟩ (by rw [q2]; exact h6) q1 q3 (by rw [hsl]; exact k2_hasslot (q4 j hj)) rfl rfl hdg fun H' e1 e2 e3 => ?_
  rw [hsl] at e1 ⊢
  refine kk p l e s m args below meth c H' _ ls X (R.write hs e2 e3 (fun q _ => rfl) (fun q z => upd2_ne z) (fun q _ => rfl) ?_) (locs_app L hga) hl
  unfold cellG
  rw [if_pos hc]
  refine t_OB.to (V := updV (fun k => fvalG h ci a k) j (.int x)) ⟨_, e1, q2, q3, t_set q4 hap hj (.int x)⟩ (fun k hk => ?_)
  unfold updV fvalG
  by_cases z : k = j
  · subst z
    simp [hrf, upd2_same]
  · simp [z, upd2_same]
theorem ev_putR {idx ci j n a : Nat} {v : Value} (hs : h.2.1 a = some (ci, n)) (hF : FL M idx ci j) (hfin : (TXG ci j).2.2.2 = false) (hrf : isRf (ftyG ci j) = true) (hn : narrow (ftyG ci j) v = v) (hfit : fits (ftyG ci j) v = true) (hdg : decode (mbM M) pc = .ok (.putfield idx, 3))
    (kk : Ev G d M mc ms Q kc ks (pc + 3) lv rest (h.1, h.2.1, upd2 h.2.2.1 a j v, h.2.2.2.1, h.2.2.2.2)) : Ev G d M mc ms Q kc ks pc lv (v :: .ref a :: rest) h := by
  intro p l e s m args below meth c H locs ls X R L hl
  obtain ⟨hlk, hc, hj⟩ := hF
  have hts : ∀ w ∈ TT, w.before args s = true := fun w hw => X.2.2.2.2.1 w (List.mem_cons_of_mem _ hw)
  obtain ⟨hga, cell, q1, q2, q3, q4⟩ := R.obj hs hc
  have hK := X.2.2.2.2.2.2.2.1.1
  have hap := va_apart (own := moM M) hts (u_wsG hc) (ftyG ci) (fun k hk => ftyG_ok hc hk) (nmG_ok hc) hK (vwCl_at hc)
  obtain ⟨hS, hfc, kC, hkC, hkind⟩ := hK.1 ci _ (vwCl_at hc)
  obtain ⟨cf, kf, fi, f, hi, hsl⟩ := hS j hj
  have hlay := hts _ (u_wsG hc _ (u_in_lay hj))
  unfold u_lay at hlay
  rw [if_neg (by rw [hfin]; decide)] at hlay
  have hst := (u_facts hfc hkC (u_lays hts (u_wsG hc) hj) hi).1
  have h6 := u_store hfc hkC hkind hlay hi (ftyG_ok hc hj) hn hfit
  refine W.putK X.1 X.2.1 (f := f) ⟨X.2.2.2.1, hts _ hlk, ⟨_, _, _, hi⟩, hst⟩ (by rw [q2]; exact h6) q1 q3 (by rw [hsl]; exact k2_hasslot (q4 j hj)) rfl rfl hdg fun H' e1 e2 e3 => ?_
  rw [hsl] at e1 ⊢
  refine kk p l e s m args below meth c H' _ ls X (R.write hs e2 e3 (fun q z => upd2_ne z) (fun q _ => rfl) (fun q _ => rfl) ?_) (locs_app L hga) hl
  unfold cellG
  rw [if_pos hc]
  refine t_OB.to (V := updV (fun k => fvalG h ci a k) j v) ⟨_, e1, q2, q3, t_set q4 hap hj v⟩ (fun k hk => ?_)
  unfold updV fvalG
  by_cases z : k = j
  · subst z
    simp [hrf, upd2_same]
  · simp [z, upd2_same]
/-- a final field, in its class's constructor -/
theorem ev_putF {idx ci j n a : Nat} {v : Value} (hs : h.2.1 a = some (ci, n)) (hF : FL M idx ci j) (hfin : (TXG ci j).2.2.2 = true) (hin : (myM M).name = "<init>") (hdecl : (TXG ci j).1 = moM M) (hrf : isRf (ftyG ci j) = true) (hn : narrow (ftyG ci j) v = v) (hfit : fits (ftyG ci j) v = true) (hdg : decode (mbM M) pc = .ok (.putfield idx, 3))
    (kk : Ev G d M mc ms Q kc ks (pc + 3) lv rest (h.1, h.2.1, upd2 h.2.2.1 a j v, h.2.2.2.1, h.2.2.2.2)) : Ev G d M mc ms Q kc ks pc lv (v :: .ref a :: rest) h := by
  intro p l e s m args below meth c H locs ls X R L hl
  obtain ⟨hlk, hc, hj⟩ := hF
  have hts : ∀ w ∈ TT, w.before args s = true := fun w hw => X.2.2.2.2.1 w (List.mem_cons_of_mem _ hw)
  obtain ⟨hga, cell, q1, q2, q3, q4⟩ := R.obj hs hc
  have hK := X.2.2.2.2.2.2.2.1.1
  have hap := va_apart (own := moM M) hts (u_wsG hc) (ftyG ci) (fun k hk => ftyG_ok hc hk) (nmG_ok hc) hK (vwCl_at hc)
  obtain ⟨hS, hfc, kC, hkC, hkind⟩ := hK.1 ci _ (vwCl_at hc)
  obtain ⟨cf, kf, fi, f, hi, hsl⟩ := hS j hj
  have hlay := hts _ (u_wsG hc _ (u_in_lay hj))
  unfold u_lay at hlay
  rw [if_pos hfin] at hlay
  have hst := (u_facts hfc hkC (u_lays hts (u_wsG hc) hj) hi).1
  have hcf : m.cls = cf := by
    obtain ⟨_, _, c', _, _, _, -, -, hf', -, -, -, hown2, -⟩ := Cond.laysFinal_spec hlay
    have e1 : c' = cf := by have := hi.symm.trans hf'; simp at this; exact this.1.symm
    rw [hdecl] at hown2
    rw [← e1]; exact Option.some.inj (X.2.2.2.1.symm.trans hown2)
  have h6 := u_fits hfc hkC hkind (Or.inr hlay) hi (ftyG_ok hc hj) hn hfit
  refine W.putFinK X.1 X.2.1 X.2.2.2.1 (hts _ hlk) hi hst hcf (X.2.2.2.2.2.2.2.2.trans hin) (by rw [q2]; exact h6) q1 q3 (by rw [hsl]; exact k2_hasslot (q4 j hj)) rfl rfl hdg fun H' e1 e2 e3 => ?_
  rw [hsl] at e1 ⊢
  refine kk p l e s m args below meth c H' _ ls X (R.write hs e2 e3 (fun q z => upd2_ne z) (fun q _ => rfl) (fun q _ => rfl) ?_) (locs_app L hga) hl
  unfold cellG
  rw [if_pos hc]
  refine t_OB.to (V := updV (fun k => fvalG h ci a k) j v) ⟨_, e1, q2, q3, t_set q4 hap hj v⟩ (fun k hk => ?_)
  unfold updV fvalG
  by_cases z : k = j
  · subst z
    simp [hrf, upd2_same]
  · simp [z, upd2_same]
theorem ev_iaload {a n : Nat} {i : Int32} (hs : h.2.1 a = some (10, n)) (hin : vp_in i n) (hdg : decode (mbM M) pc = .ok (.iaload, 1)) (kk : Ev G d M mc ms Q kc ks (pc + 1) lv (.int (h.2.2.2.1 a i.toNatClampNeg) :: rest) h) : Ev G d M mc ms Q kc ks pc lv (.int i :: .ref a :: rest) h := by
  intro p l e s m args below meth c H locs ls X R L hl
  obtain ⟨-, hcell⟩ := R.ints hs
  have hlt : i.toNatClampNeg < n := Nat.not_le.mp fun q => hin (Or.inr q)
  exact W.iald (v := .int (h.2.2.2.1 a i.toNatClampNeg)) X.1 X.2.1 hcell ((X.2.2.2.2.2.2.2.1.1.2 0 _ (tysG_at G (by decide))).1 n (fun j => .int (h.2.2.2.1 a j))) (fun q => by cases q) (by rw [arrV_size]; exact hin) (by rw [arrV_read _ _ hlt]) rfl rfl hdg (kk p l e s m args below meth c H locs ls X R L hl)
theorem ev_laload {a n : Nat} {i : Int32} (hs : h.2.1 a = some (11, n)) (hin : vp_in i n) (hdg : decode (mbM M) pc = .ok (.laload, 1)) (kk : Ev G d M mc ms Q kc ks (pc + 1) lv (.long (h.2.2.2.2 a i.toNatClampNeg) :: rest) h) : Ev G d M mc ms Q kc ks pc lv (.int i :: .ref a :: rest) h := by
  intro p l e s m args below meth c H locs ls X R L hl
  obtain ⟨-, hcell⟩ := R.lngs hs
  have hlt : i.toNatClampNeg < n := Nat.not_le.mp fun q => hin (Or.inr q)
  exact W.lald (v := .long (h.2.2.2.2 a i.toNatClampNeg)) X.1 X.2.1 hcell ((X.2.2.2.2.2.2.2.1.1.2 1 _ (tysG_at G (by decide))).1 n (fun j => .long (h.2.2.2.2 a j))) (fun q => by cases q) (by rw [arrV_size]; exact hin) (by rw [arrV_read _ _ hlt]) rfl rfl hdg (kk p l e s m args below meth c H locs ls X R L hl)
theorem atyG_ref {k : Nat} (h2 : 2 ≤ k) : (atyG k).isReference = true := by
  unfold atyG
  split <;> first | omega | rfl
theorem ev_aaload {a n t : Nat} {i : Int32} {v : Value} (hs : h.2.1 a = some (t, n)) (ht : 12 ≤ t) (hin : vp_in i n) (hv : h.2.2.1 a i.toNatClampNeg = v) (hdg : decode (mbM M) pc = .ok (.aaload, 1)) (kk : Ev G d M mc ms Q kc ks (pc + 1) lv (v :: rest) h) : Ev G d M mc ms Q kc ks pc lv (.int i :: .ref a :: rest) h := by
  intro p l e s m args below meth c H locs ls X R L hl
  obtain ⟨-, ht2, hcell⟩ := R.refs hs ht
  have hlt : i.toNatClampNeg < n := Nat.not_le.mp fun q => hin (Or.inr q)
  exact W.aald (v := v) (ty := atyG (t - 10)) X.1 X.2.1 hcell ((X.2.2.2.2.2.2.2.1.1.2 (t - 10) _ (tysG_at G (by omega))).1 n (fun j => h.2.2.1 a j)) (atyG_ref (by omega)) (fun q => by cases q) (by rw [arrV_size]; exact hin) (by rw [arrV_read _ _ hlt, hv]) rfl rfl hdg (kk p l e s m args below meth c H locs ls X R L hl)
theorem ev_iastore {a n : Nat} {i x : Int32} (hs : h.2.1 a = some (10, n)) (hin : vp_in i n) (hdg : decode (mbM M) pc = .ok (.iastore, 1)) (kk : Ev G d M mc ms Q kc ks (pc + 1) lv rest (h.1, h.2.1, h.2.2.1, upd2 h.2.2.2.1 a i.toNatClampNeg x, h.2.2.2.2)) : Ev G d M mc ms Q kc ks pc lv (.int x :: .int i :: .ref a :: rest) h := by
  intro p l e s m args below meth c H locs ls X R L hl
  obtain ⟨hga, hcell⟩ := R.ints hs
  refine W.iast X.1 X.2.1 hcell ((X.2.2.2.2.2.2.2.1.1.2 0 _ (tysG_at G (by decide))).1 n (fun j => .int (h.2.2.2.1 a j))) (fun q => by cases q) (by rw [arrV_size]; exact hin) rfl rfl hdg fun H1 e1 z oq => ?_
  refine kk p l e s m args below meth c H1 _ ls X (R.write hs z oq (fun q _ => rfl) (fun q z => upd2_ne z) (fun q _ => rfl) ?_) (locs_app L hga) hl
  unfold cellG
  rw [if_neg (show ¬ (10 : Nat) < 7 by decide), if_pos rfl, e1, arrV_store]
  congr 2
  funext q
  by_cases hq : q = i.toNatClampNeg <;> simp [updV, upd2_same, hq]
theorem ev_lastore {a n : Nat} {i : Int32} {x : Int64} (hs : h.2.1 a = some (11, n)) (hin : vp_in i n) (hdg : decode (mbM M) pc = .ok (.lastore, 1)) (kk : Ev G d M mc ms Q kc ks (pc + 1) lv rest (h.1, h.2.1, h.2.2.1, h.2.2.2.1, upd2 h.2.2.2.2 a i.toNatClampNeg x)) : Ev G d M mc ms Q kc ks pc lv (.long x :: .int i :: .ref a :: rest) h := by
  intro p l e s m args below meth c H locs ls X R L hl
  obtain ⟨hga, hcell⟩ := R.lngs hs
  refine W.last X.1 X.2.1 hcell ((X.2.2.2.2.2.2.2.1.1.2 1 _ (tysG_at G (by decide))).1 n (fun j => .long (h.2.2.2.2 a j))) (fun q => by cases q) (by rw [arrV_size]; exact hin) rfl rfl hdg fun H1 e1 z oq => ?_
  refine kk p l e s m args below meth c H1 _ ls X (R.write hs z oq (fun q _ => rfl) (fun q _ => rfl) (fun q z => upd2_ne z) ?_) (locs_app L hga) hl
  unfold cellG
  rw [if_neg (show ¬ (11 : Nat) < 7 by decide), if_neg (show ¬ (11 : Nat) = 10 by decide), if_pos rfl, e1, arrV_store]
  congr 2
  funext q
  by_cases hq : q = i.toNatClampNeg <;> simp [updV, upd2_same, hq]
theorem ev_alenI {a n : Nat} {v : Int32} (hs : h.2.1 a = some (10, n)) (hv : Int32.ofNat n = v) (hdg : decode (mbM M) pc = .ok (.arraylength, 1)) (kk : Ev G d M mc ms Q kc ks (pc + 1) lv (.int v :: rest) h) : Ev G d M mc ms Q kc ks pc lv (.ref a :: rest) h := by
  intro p l e s m args below meth c H locs ls X R L hl
  obtain ⟨-, hcell⟩ := R.ints hs
  exact W.alen (n := v) X.1 X.2.1 hcell ((X.2.2.2.2.2.2.2.1.1.2 0 _ (tysG_at G (by decide))).1 n (fun j => .int (h.2.2.2.1 a j))) (by rw [arrV_size]; exact hv) rfl rfl hdg (kk p l e s m args below meth c H locs ls X R L hl)
/-- the returns -/
theorem ev_iret {x : Int32} (hr : mrM M = some .int) (hq : Q (some (.int x)) h) (h1 : kc ≤ mc) (h2 : ks ≤ ms) (hdg : decode (mbM M) pc = .ok (.ireturn, 1)) : Ev G d M mc ms Q kc ks pc lv [.int x] h := by
  intro p l e s m args below meth c H locs ls X R L hl
  refine W.widen h1 h2 ?_
  exact W.iret X.1 X.2.1 (X.2.2.2.2.2.1.trans hr) (fun t ht _ => ⟨_, h, rfl, hq, by rw [ht]; exact R⟩) L hdg X.2.2.2.2.2.2.1
theorem ev_lret {x : Int64} (hr : mrM M = some .long) (hq : Q (some (.long x)) h) (h1 : kc ≤ mc) (h2 : ks ≤ ms) (hdg : decode (mbM M) pc = .ok (.lreturn, 1)) : Ev G d M mc ms Q kc ks pc lv [.long x] h := by
  intro p l e s m args below meth c H locs ls X R L hl
  refine W.widen h1 h2 ?_
  exact W.lret X.1 X.2.1 (X.2.2.2.2.2.1.trans hr) (fun t ht _ => ⟨_, h, rfl, hq, by rw [ht]; exact R⟩) L hdg X.2.2.2.2.2.2.1
theorem ev_vret (hr : mrM M = none) (hq : Q none h) (h1 : kc ≤ mc) (h2 : ks ≤ ms) (hdg : decode (mbM M) pc = .ok (.return_, 1)) : Ev G d M mc ms Q kc ks pc lv [] h := by
  intro p l e s m args below meth c H locs ls X R L hl
  refine W.widen h1 h2 ?_
  exact W.vret X.1 X.2.1 (X.2.2.2.2.2.1.trans hr) (fun t ht _ => ⟨_, h, rfl, hq, by rw [ht]; exact R⟩) L hdg X.2.2.2.2.2.2.1
theorem ev_aret {x : Nat} {C : String} (hr : mrM M = some (.object C)) (hq : Q (some (.ref x)) h) (h1 : kc ≤ mc) (h2 : ks ≤ ms) (hdg : decode (mbM M) pc = .ok (.areturn, 1)) : Ev G d M mc ms Q kc ks pc lv [.ref x] h := by
  intro p l e s m args below meth c H locs ls X R L hl
  refine W.widen h1 h2 ?_
  exact W.aret X.1 X.2.1 (X.2.2.2.2.2.1.trans hr) (Or.inl ⟨C, rfl⟩) (Or.inr ⟨x, rfl⟩) (fun t ht _ => ⟨_, h, rfl, hq, by rw [ht]; exact R⟩) L hdg X.2.2.2.2.2.2.1
/-- what a boolean's return keeps of an int -/
def nbZ (x : Int32) : Int32 := vp_nar .boolean x
theorem nbZ_eq (x : Int32) : narrow .boolean (.int x) = .int (nbZ x) := by
  unfold nbZ vp_nar
  simp [narrow]
theorem ev_zret {x : Int32} (hr : mrM M = some .boolean) (hq : Q (some (.int (nbZ x))) h) (h1 : kc ≤ mc) (h2 : ks ≤ ms) (hdg : decode (mbM M) pc = .ok (.ireturn, 1)) : Ev G d M mc ms Q kc ks pc lv [.int x] h := by
  intro p l e s m args below meth c H locs ls X R L hl
  refine W.widen h1 h2 ?_
  intro T hT X0
  obtain ⟨fs, hret, hrun, hended, hW, hframe⟩ := X0.leave (v := some (.int (nbZ x))) (hlocks := X.2.2.2.2.2.2.1) (fun z => by rw [X.2.2.2.2.2.1, hr] at z; cases z)
  have hmeth' : T.vm.method? m = some meth := X0.method'
  refine ⟨T.setFrames fs, ?_, .returned (some (.int (nbZ x))), hrun, hended, ⟨_, h, rfl, hq, by rw [show (T.setFrames fs).heap = T.heap from rfl, hT]; exact R⟩, locs, ⟨⟨_, rfl⟩, hW, hframe⟩, L⟩
  jvm_step X0.here [X0.here.top, X.1, X.2.1, hdg, hmeth', X.2.2.2.2.2.1, hr, nbZ_eq]
  (try refine ⟨rfl, ?_⟩); (try refine ⟨rfl, ?_⟩)
  first | (intro acts; rw [hret _ acts rfl rfl rfl]) | rw [hret _ _ rfl rfl rfl]
  exact Steps.refl _
/-- the table of orders -/
theorem ev_getsO {idx : Nat} (hlk : Cond.fieldLink (moM M) idx "BeforeItDrips$Cone" "ORDER_ROWS" "[I" ∈ TT) (hdg : decode (mbM M) pc = .ok (.getstatic idx, 3)) (kk : Ev G d M mc ms Q kc ks (pc + 3) lv (.ref (G.2.2.2.1 20) :: rest) h) : Ev G d M mc ms Q kc ks pc lv rest h := by
  intro p l e s m args below meth c H locs ls X R L hl
  have hts : ∀ w ∈ TT, w.before args s = true := fun w hw => X.2.2.2.2.1 w (List.mem_cons_of_mem _ hw)
  obtain ⟨cf, kf, fi, f, a, cell, h1, h2, h3, h4, h5, h6, h7, h8⟩ := X.2.2.2.2.2.2.2.1.2.2.1.1.1
  exact W.gets X.1 X.2.1 X.2.2.2.1 (hts _ hlk) h1 h2 h3 h4 (by rw [R.2.2.1 a (Array.getElem?_eq_some_iff.mp h5).1]; exact h5) (fun e => by rw [e] at h6; cases h6) h7 rfl hdg (kk p l e s m args below meth c H locs ls X R L hl)
theorem ev_oaload {i x : Int32} (hin : vp_in i 18) (hx : orderRows.getD i.toNatClampNeg 0 = x) (hdg : decode (mbM M) pc = .ok (.iaload, 1)) (kk : Ev G d M mc ms Q kc ks (pc + 1) lv (.int x :: rest) h) : Ev G d M mc ms Q kc ks pc lv (.int i :: .ref (G.2.2.2.1 20) :: rest) h := by
  intro p l e s m args below meth c H locs ls X R L hl
  obtain ⟨cell, h1, h2, h3, h4, h5, h6, h7⟩ := X.2.2.2.2.2.2.2.1.2.2.1.1.2
  have hlt : i.toNatClampNeg < 18 := Nat.not_le.mp fun q => hin (Or.inr q)
  have hin' : ¬ (i < 0 ∨ cell.slots.size ≤ i.toNatClampNeg) := by
    intro q
    rcases q with q | q
    · exact hin (Or.inl q)
    · omega
  exact W.iald (v := .int x) X.1 X.2.1 (by rw [R.2.2.1 _ (Array.getElem?_eq_some_iff.mp h1).1]; exact h1) h2 h3 hin' (by rw [h6 _ hlt]; exact congrArg (fun z => some (Value.int z)) hx) rfl rfl hdg (kk p l e s m args below meth c H locs ls X R L hl)
theorem ev_oalen {v : Int32} (hv : Int32.ofNat 18 = v) (hdg : decode (mbM M) pc = .ok (.arraylength, 1)) (kk : Ev G d M mc ms Q kc ks (pc + 1) lv (.int v :: rest) h) : Ev G d M mc ms Q kc ks pc lv (.ref (G.2.2.2.1 20) :: rest) h := by
  intro p l e s m args below meth c H locs ls X R L hl
  subst hv
  obtain ⟨cell, h1, h2, h3, h4, h5, h6, h7⟩ := X.2.2.2.2.2.2.2.1.2.2.1.1.2
  exact W.alen (n := Int32.ofNat 18) X.1 X.2.1 (by rw [R.2.2.1 _ (Array.getElem?_eq_some_iff.mp h1).1]; exact h1) h2 h5 rfl rfl hdg (kk p l e s m args below meth c H locs ls X R L hl)
/-- what the tables say of a callee -/
def CalF (N : MI) : Prop := Cond.code (myM N) (mbM N) (mlM N) (mrM N) ∈ TT ∧ Cond.initialized (myM N).cls ∈ TT ∧ ((myM N).cls ≠ "java/lang/invoke/MethodHandle" ∧ (myM N).cls ≠ "java/lang/invoke/VarHandle") ∧ mlM N ≤ 45
def CalV (N : MI) (ci n : Nat) : Prop := CalF N ∧ Cond.instanceMethod (myM N) ∈ TT ∧ Cond.selects (RXG ci) (myM N) (myM N) ∈ TT ∧ ci < 7 ∧ (parseMethodDescriptor (myM N).desc).map (fun z => z.parameters.length) = some n
def CalS (N : MI) (n : Nat) : Prop := CalF N ∧ Cond.static (myM N) ∈ TT ∧ (parseMethodDescriptor (myM N).desc).map (fun z => z.parameters.length) = some n
def CalI (N : MI) (n : Nat) : Prop := CalF N ∧ Cond.instanceMethod (myM N) ∈ TT ∧ (myM N).name = "<init>" ∧ mrM N = none ∧ (parseMethodDescriptor (myM N).desc).map (fun z => z.parameters.length) = some n
theorem blindG {G : GG} {av : List Value} {h : PH} : FrameBlind (va_Pc av (fun U => KK G U ∧ RelH G h U.heap)) := fun _ U g mk q => ⟨q.1, KK.same (u := U) (U := U.calling g mk _) rfl q.2.1, q.2.2⟩
theorem preG {G : GG} {h : PH} {H : Heap} {s : State} (hK : KK G s) (R : RelH G h H) (av : List Value) : ∀ U : State, U.heap = H → s.WarmedH U.vm → va_Pc av (fun U => KK G U ∧ RelH G h U.heap) av.toArray U := fun U hU hW => ⟨rfl, hK.warm hW, by rw [hU]; exact R⟩
theorem ev_run {N : MI} {idx d' mc' ms' : Nat} {Q' : Option Value → PH → Prop} {p : Program} {l : Launch} {e : Env} {s : State} {m : MethodId} {args a : Array Value} {below : List Frame} {meth : Method} {c : Code} {H : Heap} {locs : List Loc} {ls : Array Slot} {st : List Value} {QQ : State → Prop}
    (hr : va_Run p l e (rmD d mc ms) s m args below meth c H locs kc ks mc' ms' (F0 m pc ls st) rest (QcG G Q' a) (fun q => G.2.2.1.size ≤ q)) (L : ∀ x ∈ locs, G.2.2.1.size ≤ x.base)
    (kk : ∀ (v : Option Value) (h' : PH) (H1 : Heap) (locs1 : List Loc), Q' v h' → RelH G h' H1 → (∀ x ∈ locs1, G.2.2.1.size ≤ x.base) → W p l e (rmD d mc ms) s m args below meth c H1 locs1 (kc + mc') (ks + ms') QQ (F0 m (pc + 3) ls (v.toList ++ rest))) :
    W p l e (rmD d mc ms) s m args below meth c H locs kc ks QQ (F0 m pc ls st) := by
  intro T hT X
  obtain ⟨v, st₀, t, T', LL, h0, X', hL, e1, e2, ⟨v', h', hv, hq, hR⟩, st2⟩ := hr T hT X
  cases hv
  obtain ⟨t2, a1, b1⟩ := kk v h' T'.heap (locs ++ LL) hq (by rw [e1]; exact hR) (fun x hx => by
    rcases List.mem_append.mp hx with z | z
    · exact L x z
    · exact hL x z) T' rfl X'
  exact ⟨t2, st2 t2 a1, b1⟩
theorem ev_invV {N : MI} {idx d' mc' ms' ci n k0 b : Nat} {As st : List Value} {Q' : Option Value → PH → Prop} (hM : MtG G d' N mc' ms' (.ref b :: As) h Q') (hC : CalV N ci n) (hlk : Cond.methodLink (moM M) idx (myM N) ∈ TT) (hd : d' + 1 ≤ d) (hs : h.2.1 b = some (ci, k0)) (hst : st = As.reverse ++ .ref b :: rest) (hn : As.length = n) (hW : (rest.map fun v => v.category).sum ≤ 8) (h1 : kc + mc' ≤ mc) (h2 : ks + ms' ≤ ms) (hdg : decode (mbM M) pc = .ok (.invokevirtual idx, 3))
    (kk : ∀ (v : Option Value) (h' : PH), Q' v h' → Ev G d M mc ms Q (kc + mc') (ks + ms') (pc + 3) lv (v.toList ++ rest) h') : Ev G d M mc ms Q kc ks pc lv st h := by
  intro p l e s m args below meth c H locs ls X R L hl
  obtain ⟨⟨c1, c2, c3, c4⟩, c5, c6, c7, c8⟩ := hC
  have hts : ∀ w ∈ TT, w.before args s = true := fun w hw => X.2.2.2.2.1 w (List.mem_cons_of_mem _ hw)
  obtain ⟨-, cell, q1, q2, q3, q4⟩ := R.obj hs c7
  have hcls := (X.2.2.2.2.2.2.2.1.1.1 ci _ (vwCl_at c7)).2.1
  refine ev_run (N := N) (idx := idx) (d' := d') (G := G) (Q' := Q') (va_runV (C := RXG ci) (own := moM M) (index := idx) (y := myM N) (bytes := mbM N) (maxL := mlM N) (ret := mrM N) (ws := wsM N) (rm := rmD d' mc' ms') (n := n) ⟨X.1, X.2.1, X.2.2.1, X.2.2.2.1, X.2.2.2.2.1⟩ (hM l) ⟨?_, hts _ c5, hts _ c6⟩ ⟨blindG, ⟨cell, q1, by rw [q3]; rfl, by rw [q2]; exact hcls⟩, preG X.2.2.2.2.2.2.2.1 R _⟩ rfl hn hl.1 hst (lv_room hW) hdg ⟨h1, h2⟩) L (fun v h' H1 locs1 hq hR L1 => kk v h' hq p l e s m args below meth c H1 locs1 ls X hR L1 hl)
  refine callB_of (ws' := TT) n X.2.2.2.2.1 (wsM_good c1) rfl rfl rfl (hts _ c2) (hts _ hlk) ⟨c3.1, c3.2, c8⟩ ⟨hd, ?_⟩
  show 8 + (mlM N + 11) + 64 * d' ≤ 64 * d
  omega
theorem ev_invS {N : MI} {idx d' mc' ms' n : Nat} {As st : List Value} {Q' : Option Value → PH → Prop} (hM : MtG G d' N mc' ms' As h Q') (hC : CalS N n) (hlk : Cond.methodLink (moM M) idx (myM N) ∈ TT) (hd : d' + 1 ≤ d) (hst : st = As.reverse ++ rest) (hn : As.length = n) (hW : (rest.map fun v => v.category).sum ≤ 8) (h1 : kc + mc' ≤ mc) (h2 : ks + ms' ≤ ms) (hdg : decode (mbM M) pc = .ok (.invokestatic idx, 3))
    (kk : ∀ (v : Option Value) (h' : PH), Q' v h' → Ev G d M mc ms Q (kc + mc') (ks + ms') (pc + 3) lv (v.toList ++ rest) h') : Ev G d M mc ms Q kc ks pc lv st h := by
  intro p l e s m args below meth c H locs ls X R L hl
  obtain ⟨⟨c1, c2, c3, c4⟩, c5, c8⟩ := hC
  have hts : ∀ w ∈ TT, w.before args s = true := fun w hw => X.2.2.2.2.1 w (List.mem_cons_of_mem _ hw)
  refine ev_run (N := N) (idx := idx) (d' := d') (G := G) (Q' := Q') (va_runS (own := moM M) (index := idx) (y := myM N) (bytes := mbM N) (maxL := mlM N) (ret := mrM N) (ws := wsM N) (rm := rmD d' mc' ms') (n := n) ⟨X.1, X.2.1, X.2.2.1, X.2.2.2.1, X.2.2.2.2.1⟩ (hM l) ⟨?_, hts _ c5⟩ ⟨blindG, preG X.2.2.2.2.2.2.2.1 R _⟩ rfl hn hl.1 hst (lv_room hW) hdg ⟨h1, h2⟩) L (fun v h' H1 locs1 hq hR L1 => kk v h' hq p l e s m args below meth c H1 locs1 ls X hR L1 hl)
  refine callB_of (ws' := TT) n X.2.2.2.2.1 (wsM_good c1) rfl rfl rfl (hts _ c2) (hts _ hlk) ⟨c3.1, c3.2, c8⟩ ⟨hd, ?_⟩
  show 8 + (mlM N + 11) + 64 * d' ≤ 64 * d
  omega
theorem ev_invI {N : MI} {idx d' mc' ms' n b : Nat} {As st : List Value} {Q' : Option Value → PH → Prop} (hM : MtG G d' N mc' ms' (.ref b :: As) h Q') (hC : CalI N n) (hlk : Cond.methodLink (moM M) idx (myM N) ∈ TT) (hd : d' + 1 ≤ d) (hst : st = As.reverse ++ .ref b :: rest) (hn : As.length = n) (hW : (rest.map fun v => v.category).sum ≤ 8) (h1 : kc + mc' ≤ mc) (h2 : ks + ms' ≤ ms) (hdg : decode (mbM M) pc = .ok (.invokespecial idx, 3))
    (kk : ∀ (v : Option Value) (h' : PH), Q' v h' → Ev G d M mc ms Q (kc + mc') (ks + ms') (pc + 3) lv (v.toList ++ rest) h') : Ev G d M mc ms Q kc ks pc lv st h := by
  intro p l e s m args below meth c H locs ls X R L hl
  obtain ⟨⟨c1, c2, c3, c4⟩, c5, c6, c7, c8⟩ := hC
  have hts : ∀ w ∈ TT, w.before args s = true := fun w hw => X.2.2.2.2.1 w (List.mem_cons_of_mem _ hw)
  have hw0 : wsM N = Cond.code (myM N) (mbM N) (mlM N) none :: TT := by unfold wsM; rw [c7]
  have hG0 : GoodIn (wsM M) (wsM N) := wsM_good c1
  refine ev_run (N := N) (idx := idx) (d' := d') (G := G) (Q' := Q') (va_runI (own := moM M) (index := idx) (y := myM N) (bytes := mbM N) (maxL := mlM N) (ws := wsM N) (rm := rmD d' mc' ms') (n := n) ⟨X.1, X.2.1, X.2.2.1, X.2.2.2.1, X.2.2.2.2.1⟩ (hM l) ⟨?_, c6, hts _ c5⟩ ⟨blindG, preG X.2.2.2.2.2.2.2.1 R _⟩ rfl hn hl.1 hst (lv_room hW) hdg ⟨h1, h2⟩) L (fun v h' H1 locs1 hq hR L1 => kk v h' hq p l e s m args below meth c H1 locs1 ls X hR L1 hl)
  refine callB_of (ws' := TT) n X.2.2.2.2.1 hG0 hw0 rfl rfl (hts _ c2) (hts _ hlk) ⟨c3.1, c3.2, c8⟩ ⟨hd, ?_⟩
  show 8 + (mlM N + 11) + 64 * d' ≤ 64 * d
  omega
theorem ev_invIN {N : MI} {host : String} {idx d' mc' ms' n b : Nat} {As st : List Value} {Q' : Option Value → PH → Prop} (hM : MtG G d' N mc' ms' (.ref b :: As) h Q') (hC : CalI N n) (hlk : Cond.methodLinkNest (moM M) idx (myM N) host ∈ nestW) (hd : d' + 1 ≤ d) (hst : st = As.reverse ++ .ref b :: rest) (hn : As.length = n) (hW : (rest.map fun v => v.category).sum ≤ 8) (h1 : kc + mc' ≤ mc) (h2 : ks + ms' ≤ ms) (hdg : decode (mbM M) pc = .ok (.invokespecial idx, 3))
    (kk : ∀ (v : Option Value) (h' : PH), Q' v h' → Ev G d M mc ms Q (kc + mc') (ks + ms') (pc + 3) lv (v.toList ++ rest) h') : Ev G d M mc ms Q kc ks pc lv st h := by
  intro p l e s m args below meth c H locs ls X R L hl
  obtain ⟨⟨c1, c2, c3, c4⟩, c5, c6, c7, c8⟩ := hC
  have hts : ∀ w ∈ TT, w.before args s = true := fun w hw => X.2.2.2.2.1 w (List.mem_cons_of_mem _ hw)
  have hw0 : wsM N = Cond.code (myM N) (mbM N) (mlM N) none :: TT := by unfold wsM; rw [c7]
  have hG0 : GoodIn (wsM M) (wsM N) := wsM_good c1
  refine ev_run (N := N) (idx := idx) (d' := d') (G := G) (Q' := Q') (va_runIN (own := moM M) (index := idx) (y := myM N) (bytes := mbM N) (maxL := mlM N) (ws := wsM N) (rm := rmD d' mc' ms') (n := n) (host := host) ⟨X.1, X.2.1, X.2.2.1, X.2.2.2.1, X.2.2.2.2.1⟩ (hM l) ⟨?_, c6, hts _ c5⟩ ⟨blindG, preG X.2.2.2.2.2.2.2.1 R _⟩ rfl hn hl.1 hst (lv_room hW) hdg ⟨h1, h2⟩) L (fun v h' H1 locs1 hq hR L1 => kk v h' hq p l e s m args below meth c H1 locs1 ls X hR L1 hl)
  refine va_cnB (ws' := TT) n X.2.2.2.2.1 hG0 hw0 rfl rfl (X.2.2.2.2.2.2.2.1.2.1 _ hlk) (hts _ c2) ⟨c3.1, c3.2, c8⟩ ⟨hd, ?_⟩
  show 8 + (mlM N + 11) + 64 * d' ≤ 64 * d
  omega
end EV
