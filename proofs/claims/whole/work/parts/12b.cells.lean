/-! CONSTRUCTIONS: the heap from a base on, as a list of cells. -/
abbrev CE : Type := (Nat × Nat) × List (Nat × Option Nat) × List (Nat × Int32)
abbrev LX : Type := List CE
def cSh (X : LX) (k : Nat) : Option (Nat × Nat) := (X[k]?).map (fun c => c.1)
def ceP (c : CE) (j : Nat) : Option Nat := (c.2.1.lookup j).getD none
def ceI (c : CE) (j : Nat) : Int32 := (c.2.2.lookup j).getD 0
def cP (X : LX) (k j : Nat) : Option Nat := ((X[k]?).map (fun c => ceP c j)).getD none
def cI (X : LX) (k j : Nat) : Int32 := ((X[k]?).map (fun c => ceI c j)).getD 0
def rfv (b : Nat) (o : Option Nat) : Value := match o with
  | some r => .ref (b + r)
  | none => .null
def emb (h : PH) (X : LX) : PH := (h.1 + X.length, fun q => if q < h.1 then h.2.1 q else cSh X (q - h.1), fun q => if q < h.1 then h.2.2.1 q else fun j => rfv h.1 (cP X (q - h.1) j), fun q => if q < h.1 then h.2.2.2.1 q else fun j => cI X (q - h.1) j, fun q => if q < h.1 then h.2.2.2.2 q else fun _ => 0)
def setI (k j : Nat) (x : Int32) (X : LX) : LX := X.modify k (fun c => (c.1, c.2.1, (j, x) :: c.2.2))
def setR (k j : Nat) (x : Option Nat) (X : LX) : LX := X.modify k (fun c => (c.1, (j, x) :: c.2.1, c.2.2))
def addC (kn : Nat × Nat) (X : LX) : LX := X ++ [(kn, [], [])]
def addM (t r N K : Nat) (X : LX) : LX := X ++ (((t, N), (List.range N).map (fun j => (j, some (X.length + 1 + j))), []) :: List.replicate N ((r, K), [], []))
def runX : List (LX → LX) → LX → LX
  | [], X => X
  | f :: fs, X => runX fs (f X)
theorem cSh_lt {X : LX} {k : Nat} {c : Nat × Nat} (h : cSh X k = some c) : k < X.length := by
  unfold cSh at h
  obtain ⟨e, h1, -⟩ := Option.map_eq_some_iff.mp h
  exact (List.getElem?_eq_some_iff.mp h1).1
/-- a step that keeps the shapes and adds c cells -/
def OpK (c : Nat) (f : LX → LX) : Prop := ∀ X : LX, (f X).length = X.length + c ∧ ∀ (i : Nat) (s : Nat × Nat), cSh X i = some s → cSh (f X) i = some s
theorem okp_setI {k j : Nat} {x : Int32} : OpK 0 (setI k j x) := fun X => by
  refine ⟨by simp [setI], fun i s h => ?_⟩
  unfold cSh at h ⊢
  unfold setI
  rw [List.getElem?_modify]
  obtain ⟨e, h1, h2⟩ := Option.map_eq_some_iff.mp h
  rw [h1]
  by_cases z : k = i <;> simp [z, h2]
theorem okp_setR {k j : Nat} {x : Option Nat} : OpK 0 (setR k j x) := fun X => by
  refine ⟨by simp [setR], fun i s h => ?_⟩
  unfold cSh at h ⊢
  unfold setR
  rw [List.getElem?_modify]
  obtain ⟨e, h1, h2⟩ := Option.map_eq_some_iff.mp h
  rw [h1]
  by_cases z : k = i <;> simp [z, h2]
theorem okp_app {L : LX} : OpK L.length (fun X => X ++ L) := fun X => by
  refine ⟨by simp, fun i s h => ?_⟩
  unfold cSh at h ⊢
  obtain ⟨e, h1, h2⟩ := Option.map_eq_some_iff.mp h
  rw [List.getElem?_append_left (List.getElem?_eq_some_iff.mp h1).1, h1]
  exact congrArg some h2
theorem okp_addC {kn : Nat × Nat} : OpK 1 (addC kn) := fun X => okp_app (L := [(kn, [], [])]) X
theorem okp_addM {t r N K : Nat} : OpK (N + 1) (addM t r N K) := fun X => by
  have e := okp_app (L := (((t, N), (List.range N).map (fun j => (j, some (X.length + 1 + j))), []) :: List.replicate N ((r, K), [], []))) X
  rw [List.length_cons, List.length_replicate] at e
  exact e
def RunK (n : Nat) (fs : List (LX → LX)) : Prop := ∀ X : LX, (runX fs X).length = X.length + n ∧ ∀ (i : Nat) (s : Nat × Nat), cSh X i = some s → cSh (runX fs X) i = some s
theorem rk_nil : RunK 0 [] := fun _ => ⟨rfl, fun _ _ h => h⟩
theorem rk_cons {c n : Nat} {f : LX → LX} {fs : List (LX → LX)} (h1 : OpK c f) (h2 : RunK n fs) : RunK (c + n) (f :: fs) := fun X => by
  obtain ⟨a1, a2⟩ := h1 X
  obtain ⟨b1, b2⟩ := h2 (f X)
  refine ⟨?_, fun i s h => b2 i s (a2 i s h)⟩
  show (runX fs (f X)).length = _
  omega
theorem emb_lt {h : PH} {X : LX} {q : Nat} (z : q < h.1) : (emb h X).2.1 q = h.2.1 q ∧ (emb h X).2.2.1 q = h.2.2.1 q ∧ (emb h X).2.2.2.1 q = h.2.2.2.1 q ∧ (emb h X).2.2.2.2 q = h.2.2.2.2 q := ⟨if_pos z, if_pos z, if_pos z, if_pos z⟩
theorem emb_sh {h : PH} {X : LX} {k : Nat} : (emb h X).2.1 (h.1 + k) = cSh X k := by
  show (if h.1 + k < h.1 then _ else cSh X (h.1 + k - h.1)) = _
  rw [if_neg (by omega), Nat.add_sub_cancel_left]
theorem emb_P {h : PH} {X : LX} {k j : Nat} : (emb h X).2.2.1 (h.1 + k) j = rfv h.1 (cP X k j) := by
  show (if h.1 + k < h.1 then _ else fun j => rfv h.1 (cP X (h.1 + k - h.1) j)) j = _
  rw [if_neg (by omega), Nat.add_sub_cancel_left]
theorem emb_I {h : PH} {X : LX} {k j : Nat} : (emb h X).2.2.2.1 (h.1 + k) j = cI X k j := by
  show (if h.1 + k < h.1 then _ else fun j => cI X (h.1 + k - h.1) j) j = _
  rw [if_neg (by omega), Nat.add_sub_cancel_left]
theorem emb_L {h : PH} {X : LX} {k j : Nat} : (emb h X).2.2.2.2 (h.1 + k) j = 0 := by
  show (if h.1 + k < h.1 then _ else fun _ => 0) j = _
  rw [if_neg (by omega)]
/-- two heaps alike -/
theorem ph_ext {h1 h2 : PH} (a : h1.1 = h2.1) (b : ∀ q, h1.2.1 q = h2.2.1 q) (c : ∀ q j, h1.2.2.1 q j = h2.2.2.1 q j) (d : ∀ q j, h1.2.2.2.1 q j = h2.2.2.2.1 q j) (e : ∀ q j, h1.2.2.2.2 q j = h2.2.2.2.2 q j) : h1 = h2 :=
  Prod.ext a (Prod.ext (funext b) (Prod.ext (funext fun q => funext (c q)) (Prod.ext (funext fun q => funext (d q)) (funext fun q => funext (e q)))))
theorem cSh_app {X L : LX} {k : Nat} : cSh (X ++ L) k = if k < X.length then cSh X k else cSh L (k - X.length) := by
  unfold cSh
  by_cases z : k < X.length
  · rw [if_pos z, List.getElem?_append_left z]
  · rw [if_neg z, List.getElem?_append_right (by omega)]
theorem cP_app {X L : LX} {k j : Nat} : cP (X ++ L) k j = if k < X.length then cP X k j else cP L (k - X.length) j := by
  unfold cP
  by_cases z : k < X.length
  · rw [if_pos z, List.getElem?_append_left z]
  · rw [if_neg z, List.getElem?_append_right (by omega)]
theorem cI_app {X L : LX} {k j : Nat} : cI (X ++ L) k j = if k < X.length then cI X k j else cI L (k - X.length) j := by
  unfold cI
  by_cases z : k < X.length
  · rw [if_pos z, List.getElem?_append_left z]
  · rw [if_neg z, List.getElem?_append_right (by omega)]
theorem cSh_out {X : LX} {k : Nat} (h : X.length ≤ k) : cSh X k = none := by
  unfold cSh
  rw [List.getElem?_eq_none h]
  rfl
theorem cP_out {X : LX} {k j : Nat} (h : X.length ≤ k) : cP X k j = none := by
  unfold cP
  rw [List.getElem?_eq_none h]
  rfl
theorem cI_out {X : LX} {k j : Nat} (h : X.length ≤ k) : cI X k j = 0 := by
  unfold cI
  rw [List.getElem?_eq_none h]
  rfl
/-- where a place lies -/
theorem base_cases (b q : Nat) : q < b ∨ ∃ k, q = b + k := by
  by_cases z : q < b
  · exact Or.inl z
  · exact Or.inr ⟨q - b, by omega⟩
theorem emb_addC {h : PH} {X : LX} {kn : Nat × Nat} : pushH (emb h X) kn = emb h (addC kn X) := by
  have e1 : (emb h X).1 = h.1 + X.length := rfl
  refine ph_ext (by show h.1 + X.length + 1 = h.1 + (addC kn X).length; rw [(okp_addC X).1]; omega) (fun q => ?_) (fun q j => ?_) (fun q j => ?_) (fun q j => ?_)
  · show (if q = (emb h X).1 then some kn else (emb h X).2.1 q) = _
    rcases base_cases h.1 q with z | ⟨k, rfl⟩
    · rw [if_neg (by rw [e1]; omega), (emb_lt z).1, (emb_lt z).1]
    · rw [emb_sh, emb_sh]
      unfold addC
      rw [cSh_app, e1]
      by_cases y : k < X.length
      · rw [if_neg (by omega), if_pos y]
      · rw [if_neg y]
        by_cases w : k = X.length
        · subst w
          rw [if_pos rfl, Nat.sub_self]
          rfl
        · rw [if_neg (by omega), cSh_out (by omega), cSh_out (by simp; omega)]
  · show (if q = (emb h X).1 then fun _ => Value.null else (emb h X).2.2.1 q) j = _
    rcases base_cases h.1 q with z | ⟨k, rfl⟩
    · rw [if_neg (by rw [e1]; omega), (emb_lt z).2.1, (emb_lt z).2.1]
    · rw [emb_P]
      unfold addC
      rw [cP_app, e1]
      by_cases y : k < X.length
      · rw [if_neg (by omega), if_pos y, emb_P]
      · rw [if_neg y]
        by_cases w : k = X.length
        · subst w
          rw [if_pos rfl, Nat.sub_self]
          rfl
        · rw [if_neg (by omega), emb_P, cP_out (by omega), cP_out (by simp; omega)]
  · show (if q = (emb h X).1 then fun _ => (0 : Int32) else (emb h X).2.2.2.1 q) j = _
    rcases base_cases h.1 q with z | ⟨k, rfl⟩
    · rw [if_neg (by rw [e1]; omega), (emb_lt z).2.2.1, (emb_lt z).2.2.1]
    · rw [emb_I]
      unfold addC
      rw [cI_app, e1]
      by_cases y : k < X.length
      · rw [if_neg (by omega), if_pos y, emb_I]
      · rw [if_neg y]
        by_cases w : k = X.length
        · subst w
          rw [if_pos rfl, Nat.sub_self]
          rfl
        · rw [if_neg (by omega), emb_I, cI_out (by omega), cI_out (by simp; omega)]
  · show (if q = (emb h X).1 then fun _ => (0 : Int64) else (emb h X).2.2.2.2 q) j = _
    rcases base_cases h.1 q with z | ⟨k, rfl⟩
    · rw [if_neg (by rw [e1]; omega), (emb_lt z).2.2.2, (emb_lt z).2.2.2]
    · rw [emb_L]
      by_cases w : h.1 + k = (emb h X).1
      · rw [if_pos w]
      · rw [if_neg w, emb_L]
theorem cSh_setI {X : LX} {k j i : Nat} {x : Int32} : cSh (setI k j x X) i = cSh X i := by
  unfold cSh setI
  rw [List.getElem?_modify]
  by_cases z : k = i
  · simp [z, Option.map_map, Function.comp_def]
  · simp [z]
theorem cSh_setR {X : LX} {k j i : Nat} {x : Option Nat} : cSh (setR k j x X) i = cSh X i := by
  unfold cSh setR
  rw [List.getElem?_modify]
  by_cases z : k = i
  · simp [z, Option.map_map, Function.comp_def]
  · simp [z]
theorem cP_setI {X : LX} {k j i m : Nat} {x : Int32} : cP (setI k j x X) i m = cP X i m := by
  unfold cP setI ceP
  rw [List.getElem?_modify]
  by_cases z : k = i
  · simp [z, Option.map_map, Function.comp_def]
  · simp [z]
theorem cI_setR {X : LX} {k j i m : Nat} {x : Option Nat} : cI (setR k j x X) i m = cI X i m := by
  unfold cI setR ceI
  rw [List.getElem?_modify]
  by_cases z : k = i
  · simp [z, Option.map_map, Function.comp_def]
  · simp [z]
theorem cI_setI {X : LX} {k j i m : Nat} {x : Int32} (hk : k < X.length) : cI (setI k j x X) i m = if i = k ∧ m = j then x else cI X i m := by
  unfold cI setI ceI
  rw [List.getElem?_modify]
  by_cases z : k = i
  · subst z
    rw [List.getElem?_eq_getElem hk]
    by_cases y : m = j
    · simp [y]
    · have : (m == j) = false := by simpa using y
      simp [y, List.lookup_cons, this]
  · have : ¬ i = k := fun e => z e.symm
    simp [z, this]
theorem cP_setR {X : LX} {k j i m : Nat} {x : Option Nat} (hk : k < X.length) : cP (setR k j x X) i m = if i = k ∧ m = j then x else cP X i m := by
  unfold cP setR ceP
  rw [List.getElem?_modify]
  by_cases z : k = i
  · subst z
    rw [List.getElem?_eq_getElem hk]
    by_cases y : m = j
    · simp [y]
    · have : (m == j) = false := by simpa using y
      simp [y, List.lookup_cons, this]
  · have : ¬ i = k := fun e => z e.symm
    simp [z, this]
theorem upd2_if {α : Type} {f : Nat → Nat → α} {q k q' k' : Nat} {v : α} : upd2 f q k v q' k' = if q' = q ∧ k' = k then v else f q' k' := by
  unfold upd2
  by_cases z : q' = q
  · by_cases y : k' = k
    · simp [z, y]
    · simp [z, y]
  · simp [z]
theorem emb_setI {h : PH} {X : LX} {k j : Nat} {x : Int32} (hk : k < X.length) : ((emb h X).1, (emb h X).2.1, (emb h X).2.2.1, upd2 (emb h X).2.2.2.1 (h.1 + k) j x, (emb h X).2.2.2.2) = emb h (setI k j x X) := by
  refine ph_ext (by show h.1 + X.length = h.1 + (setI k j x X).length; rw [(okp_setI X).1]; omega) (fun q => ?_) (fun q m => ?_) (fun q m => ?_) (fun q m => ?_)
  · rcases base_cases h.1 q with z | ⟨i, rfl⟩
    · exact (emb_lt (X := X) z).1.trans (emb_lt z).1.symm
    · exact emb_sh.trans (cSh_setI.symm.trans emb_sh.symm)
  · rcases base_cases h.1 q with z | ⟨i, rfl⟩
    · exact (congrFun (emb_lt (X := X) z).2.1 m).trans (congrFun (emb_lt z).2.1 m).symm
    · exact emb_P.trans ((congrArg (rfv h.1) cP_setI.symm).trans emb_P.symm)
  · show upd2 (emb h X).2.2.2.1 (h.1 + k) j x q m = _
    rw [upd2_if]
    rcases base_cases h.1 q with z | ⟨i, rfl⟩
    · rw [if_neg (by omega), (emb_lt z).2.2.1, (emb_lt z).2.2.1]
    · rw [emb_I, emb_I, cI_setI hk]
      by_cases y : i = k ∧ m = j
      · rw [if_pos ⟨by omega, y.2⟩, if_pos y]
      · rw [if_neg (fun w => y ⟨by omega, w.2⟩), if_neg y]
  · rcases base_cases h.1 q with z | ⟨i, rfl⟩
    · exact (congrFun (emb_lt (X := X) z).2.2.2 m).trans (congrFun (emb_lt z).2.2.2 m).symm
    · exact (emb_L (X := X)).trans emb_L.symm
theorem emb_setR {h : PH} {X : LX} {k j : Nat} {x : Option Nat} (hk : k < X.length) : ((emb h X).1, (emb h X).2.1, upd2 (emb h X).2.2.1 (h.1 + k) j (rfv h.1 x), (emb h X).2.2.2.1, (emb h X).2.2.2.2) = emb h (setR k j x X) := by
  refine ph_ext (by show h.1 + X.length = h.1 + (setR k j x X).length; rw [(okp_setR X).1]; omega) (fun q => ?_) (fun q m => ?_) (fun q m => ?_) (fun q m => ?_)
  · rcases base_cases h.1 q with z | ⟨i, rfl⟩
    · exact (emb_lt (X := X) z).1.trans (emb_lt z).1.symm
    · exact emb_sh.trans (cSh_setR.symm.trans emb_sh.symm)
  · show upd2 (emb h X).2.2.1 (h.1 + k) j (rfv h.1 x) q m = _
    rw [upd2_if]
    rcases base_cases h.1 q with z | ⟨i, rfl⟩
    · rw [if_neg (by omega), (emb_lt z).2.1, (emb_lt z).2.1]
    · rw [emb_P, emb_P, cP_setR hk]
      by_cases y : i = k ∧ m = j
      · rw [if_pos ⟨by omega, y.2⟩, if_pos y]
      · rw [if_neg (fun w => y ⟨by omega, w.2⟩), if_neg y]
  · rcases base_cases h.1 q with z | ⟨i, rfl⟩
    · exact (congrFun (emb_lt (X := X) z).2.2.1 m).trans (congrFun (emb_lt z).2.2.1 m).symm
    · exact emb_I.trans (cI_setR.symm.trans emb_I.symm)
  · rcases base_cases h.1 q with z | ⟨i, rfl⟩
    · exact (congrFun (emb_lt (X := X) z).2.2.2 m).trans (congrFun (emb_lt z).2.2.2 m).symm
    · exact (emb_L (X := X)).trans emb_L.symm
