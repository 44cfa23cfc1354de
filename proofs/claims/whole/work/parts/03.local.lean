/-! THE LOCAL LAYER EvF: a method sees places 0 .. n-1, at addresses pl 0 .. pl (n-1); its state is two functions of (place, index): ints and longs. -/
abbrev SS : Type := (Nat → Nat → Int32) × (Nat → Nat → Int64)
/-- S, but at the addresses pl 0 .. pl (n-1) what C holds at the places -/
def mrg {α : Type} (pl : Nat → Nat) : Nat → (Nat → Nat → α) → (Nat → Nat → α) → Nat → Nat → α
  | 0, S, _ => S
  | n + 1, S, C => fun q => if q = pl n then C n else mrg pl n S C q
def injN (pl : Nat → Nat) (n : Nat) : Prop := ∀ i j : Nat, i < n → j < n → pl i = pl j → i = j
theorem mrg_at {α : Type} {pl : Nat → Nat} {S C : Nat → Nat → α} : ∀ {n : Nat}, injN pl n → ∀ {k : Nat}, k < n → mrg pl n S C (pl k) = C k
  | 0, _, _, hk => absurd hk (Nat.not_lt_zero _)
  | n + 1, hi, k, hk => by
    show (if pl k = pl n then C n else mrg pl n S C (pl k)) = C k
    by_cases z : k = n
    · subst z
      rw [if_pos rfl]
    · rw [if_neg (fun e => z (hi k n hk (Nat.lt_succ_self n) e))]
      exact mrg_at (fun i j h1 h2 e => hi i j (Nat.lt_succ_of_lt h1) (Nat.lt_succ_of_lt h2) e) (by omega)
theorem mrg_off {α : Type} {pl : Nat → Nat} {S C : Nat → Nat → α} {q : Nat} : ∀ {n : Nat}, (∀ k : Nat, k < n → q ≠ pl k) → mrg pl n S C q = S q
  | 0, _ => rfl
  | n + 1, h => by
    show (if q = pl n then C n else mrg pl n S C q) = S q
    rw [if_neg (h n (Nat.lt_succ_self n))]
    exact mrg_off (fun k hk => h k (Nat.lt_succ_of_lt hk))
theorem mrg_cases {pl : Nat → Nat} (n q : Nat) : (∃ k : Nat, k < n ∧ q = pl k) ∨ (∀ k : Nat, k < n → q ≠ pl k) := by
  by_cases h : ∃ k : Nat, k < n ∧ q = pl k
  · exact Or.inl h
  · exact Or.inr (fun k hk e => h ⟨k, hk, e⟩)
theorem mrg_set {α : Type} {pl : Nat → Nat} {S C : Nat → Nat → α} {n k i : Nat} {v : α} (hi : injN pl n) (hk : k < n) : upd2 (mrg pl n S C) (pl k) i v = mrg pl n S (upd2 C k i v) := by
  funext q
  rcases mrg_cases (pl := pl) n q with ⟨j, hj, rfl⟩ | hq
  · rw [mrg_at hi hj]
    by_cases z : j = k
    · subst z
      funext w
      rw [upd2_same, upd2_same, mrg_at hi hj]
    · rw [upd2_ne (fun e => z (hi j k hj hk e)), upd2_ne z, mrg_at hi hj]
  · rw [mrg_off hq, upd2_ne (hq k hk), mrg_off hq]
theorem mrg_id {α : Type} {pl : Nat → Nat} {S : Nat → Nat → α} {n : Nat} (hi : injN pl n) : mrg pl n S (fun k => S (pl k)) = S := by
  funext q
  rcases mrg_cases (pl := pl) n q with ⟨j, hj, rfl⟩ | hq
  · rw [mrg_at hi hj]
  · rw [mrg_off hq]
theorem mrg_comp {α : Type} {pl π : Nat → Nat} {S C D : Nat → Nat → α} {n n' : Nat} (hi : injN pl n) (hp : injN π n') (hn : ∀ k : Nat, k < n' → π k < n) : mrg (fun k => pl (π k)) n' (mrg pl n S C) D = mrg pl n S (mrg π n' C D) := by
  funext q
  have hip : injN (fun k => pl (π k)) n' := fun i j h1 h2 e => hp i j h1 h2 (hi _ _ (hn i h1) (hn j h2) e)
  rcases mrg_cases (pl := fun k => pl (π k)) n' q with ⟨j, hj, rfl⟩ | hq
  · rw [mrg_at hip hj]
    show D j = mrg pl n S (mrg π n' C D) (pl (π j))
    rw [mrg_at hi (hn j hj), mrg_at hp hj]
  · rw [mrg_off hq]
    rcases mrg_cases (pl := pl) n q with ⟨j, hj, rfl⟩ | hq2
    · rw [mrg_at hi hj, mrg_at hi hj, mrg_off (fun k hk e => hq k hk (by rw [e]))]
    · rw [mrg_off hq2, mrg_off hq2]
theorem mrg_congr {α : Type} {pl : Nat → Nat} {S C D : Nat → Nat → α} {n : Nat} (hi : injN pl n) (h : ∀ k : Nat, k < n → C k = D k) : mrg pl n S C = mrg pl n S D := by
  funext q
  rcases mrg_cases (pl := pl) n q with ⟨j, hj, rfl⟩ | hq
  · rw [mrg_at hi hj, mrg_at hi hj, h j hj]
  · rw [mrg_off hq, mrg_off hq]
/-- a layout: of each place its shape, and which place each of its references names -/
abbrev LY : Type := List ((Nat × Nat) × List (Nat × Nat))
def LayOK (ly : LY) (pl : Nat → Nat) (h : PH) : Prop := injN pl ly.length ∧ ∀ (k : Nat) (e : (Nat × Nat) × List (Nat × Nat)), ly[k]? = some e → h.2.1 (pl k) = some e.1 ∧ ∀ j t : Nat, e.2.lookup j = some t → h.2.2.1 (pl k) j = .ref (pl t)
def layMap (ly ly' : LY) (π : Nat → Nat) : Bool :=
  (List.range ly'.length).all (fun k => match ly[π k]?, ly'[k]? with
    | some e, some e' => decide (e.1 = e'.1) && e'.2.all (fun q => decide (e.2.lookup q.1 = some (π q.2)))
    | _, _ => false) &&
  (List.range ly'.length).all (fun i => decide (π i < ly.length) && (List.range ly'.length).all (fun j => decide (i = j) || decide (π i ≠ π j)))
theorem lookup_mem {l : List (Nat × Nat)} {j t : Nat} (h : l.lookup j = some t) : (j, t) ∈ l := by
  induction l with
  | nil => cases h
  | cons a l ih =>
    obtain ⟨x, y⟩ := a
    rw [List.lookup_cons] at h
    by_cases z : j == x
    · simp only [z] at h
      have : j = x := by simpa using z
      subst this
      cases h
      exact List.mem_cons_self
    · simp only [z] at h
      exact List.mem_cons_of_mem _ (ih h)
theorem layMap_spec {ly ly' : LY} {π : Nat → Nat} (h : layMap ly ly' π = true) : injN π ly'.length ∧ (∀ k : Nat, k < ly'.length → π k < ly.length) ∧ ∀ (k : Nat) (e' : (Nat × Nat) × List (Nat × Nat)), ly'[k]? = some e' → ∃ e, ly[π k]? = some e ∧ e.1 = e'.1 ∧ ∀ j t : Nat, e'.2.lookup j = some t → e.2.lookup j = some (π t) := by
  unfold layMap at h
  simp only [Bool.and_eq_true, List.all_eq_true, List.mem_range] at h
  obtain ⟨h1, h2⟩ := h
  refine ⟨fun i j hi hj e => ?_, fun k hk => by simpa using (h2 k hk).1, fun k e' hk => ?_⟩
  · have := (h2 i hi).2 j hj
    simp only [Bool.or_eq_true, decide_eq_true_eq] at this
    rcases this with z | z
    · exact z
    · exact absurd e z
  · have hl : k < ly'.length := (List.getElem?_eq_some_iff.mp hk).1
    have h3 := h1 k hl
    rw [hk] at h3
    cases hp : ly[π k]? with
    | none => rw [hp] at h3; cases h3
    | some e =>
      rw [hp] at h3
      simp only [Bool.and_eq_true, decide_eq_true_eq, List.all_eq_true] at h3
      exact ⟨e, rfl, h3.1, fun j t ht => h3.2 (j, t) (lookup_mem ht)⟩
theorem LayOK.sub {ly ly' : LY} {pl : Nat → Nat} {h : PH} {π : Nat → Nat} (H : LayOK ly pl h) (hm : layMap ly ly' π = true) : LayOK ly' (fun k => pl (π k)) h := by
  obtain ⟨m1, m2, m3⟩ := layMap_spec hm
  refine ⟨fun i j hi hj e => m1 i j hi hj (H.1 _ _ (m2 i hi) (m2 j hj) e), fun k e' hk => ?_⟩
  obtain ⟨e, g1, g2, g3⟩ := m3 k e' hk
  obtain ⟨w1, w2⟩ := H.2 _ e g1
  exact ⟨by rw [w1, g2], fun j t ht => w2 j (π t) (g3 j t ht)⟩
/-- the heap h0, but at the places of pl what s holds -/
def LH (pl : Nat → Nat) (n : Nat) (h0 : PH) (s : SS) : PH := (h0.1, h0.2.1, h0.2.2.1, mrg pl n h0.2.2.2.1 s.1, mrg pl n h0.2.2.2.2 s.2)
def selS (π : Nat → Nat) (s : SS) : SS := (fun k => s.1 (π k), fun k => s.2 (π k))
def mrgS (π : Nat → Nat) (n : Nat) (s t : SS) : SS := (mrg π n s.1 t.1, mrg π n s.2 t.2)
def wrI (s : SS) (k i : Nat) (v : Int32) : SS := (upd2 s.1 k i v, s.2)
def wrL (s : SS) (k i : Nat) (v : Int64) : SS := (s.1, upd2 s.2 k i v)
theorem LH_id {pl : Nat → Nat} {n : Nat} {h : PH} (hi : injN pl n) : LH pl n h (fun k => h.2.2.2.1 (pl k), fun k => h.2.2.2.2 (pl k)) = h := by
  unfold LH
  simp only [mrg_id hi]
theorem LH_wrI {pl : Nat → Nat} {n : Nat} {h0 : PH} {s : SS} {k i : Nat} {v : Int32} (hi : injN pl n) (hk : k < n) : LH pl n h0 (wrI s k i v) = (h0.1, h0.2.1, h0.2.2.1, upd2 (LH pl n h0 s).2.2.2.1 (pl k) i v, (LH pl n h0 s).2.2.2.2) := by
  unfold LH wrI
  simp only [mrg_set hi hk]
theorem LH_wrL {pl : Nat → Nat} {n : Nat} {h0 : PH} {s : SS} {k i : Nat} {v : Int64} (hi : injN pl n) (hk : k < n) : LH pl n h0 (wrL s k i v) = (h0.1, h0.2.1, h0.2.2.1, (LH pl n h0 s).2.2.2.1, upd2 (LH pl n h0 s).2.2.2.2 (pl k) i v) := by
  unfold LH wrL
  simp only [mrg_set hi hk]
theorem LH_call {pl π : Nat → Nat} {n n' : Nat} {h0 : PH} {s t : SS} (hi : injN pl n) (hp : injN π n') (hn : ∀ k : Nat, k < n' → π k < n) : LH (fun k => pl (π k)) n' (LH pl n h0 s) t = LH pl n h0 (mrgS π n' s t) := by
  unfold LH mrgS
  simp only [mrg_comp hi hp hn]
theorem LH_sel {pl π : Nat → Nat} {n n' : Nat} {h0 : PH} {s : SS} (hi : injN pl n) (hp : injN π n') (hn : ∀ k : Nat, k < n' → π k < n) : LH (fun k => pl (π k)) n' (LH pl n h0 s) (selS π s) = LH pl n h0 s := by
  have hip : injN (fun k => pl (π k)) n' := fun i j h1 h2 e => hp i j h1 h2 (hi _ _ (hn i h1) (hn j h2) e)
  have e1 := LH_id (n := n') (h := LH pl n h0 s) hip
  refine Eq.trans ?_ e1
  unfold LH selS
  congr 4
  · exact mrg_congr hip (fun k hk => (mrg_at hi (hn k hk)).symm)
  · exact mrg_congr hip (fun k hk => (mrg_at hi (hn k hk)).symm)
def Qf {ρ : Type} (rv : ρ → Option Value) (pl : Nat → Nat) (n : Nat) (h0 : PH) (r : ρ) (s' : SS) : Option Value → PH → Prop := fun v h' => v = rv r ∧ h' = LH pl n h0 s'
/-- where f ends with r and s', the machine returns r and the heap holds s' -/
def EvF (G : GG) (d : Nat) (M : MI) (ly : LY) (pl : Nat → Nat) (h0 : PH) {ρ : Type} (rv : ρ → Option Value) (f : Option (ρ × SS)) (pc : Nat) (lv : List (Nat × Value)) (st : List Value) (s : SS) : Prop :=
  LayOK ly pl h0 → ∀ (r : ρ) (s' : SS), f = some (r, s') → Ev G d M 0 0 (Qf rv pl ly.length h0 r s') 0 0 pc lv st (LH pl ly.length h0 s)
/-- a method's contract by its function -/
def MtF (d : Nat) (M : MI) (ly : LY) {ρ : Type} (rv : ρ → Option Value) (av : GG → (Nat → Nat) → List Value) (f : SS → Option (ρ × SS)) : Prop :=
  ∀ (pl : Nat → Nat) (h0 : PH), LayOK ly pl h0 → ∀ (s : SS) (r : ρ) (s' : SS), f s = some (r, s') → Mt d M 0 0 (fun G => av G pl) (LH pl ly.length h0 s) (Qf rv pl ly.length h0 r s')
def rvU (_ : Unit) : Option Value := none
def rvI (x : Int32) : Option Value := some (.int x)
def rvL (x : Int64) : Option Value := some (.long x)
theorem MtF.of {d : Nat} {M : MI} {ly : LY} {ρ : Type} {rv : ρ → Option Value} {av : GG → (Nat → Nat) → List Value} {f : SS → Option (ρ × SS)} (hpl : plainName (myM M).cls = true) (ho : moM M = (myM M).cls) (hl : ∀ (G : GG) (pl : Nat → Nat), (lg_sl (av G pl)).length ≤ mlM M)
    (body : ∀ (G : GG) (pl : Nat → Nat) (h0 : PH) (s : SS), EvF G d M ly pl h0 rv (f s) 0 (lv_args 0 (av G pl)) [] s) : MtF d M ly rv av f := by
  intro pl h0 hL s r s' hf G
  exact MtG.of hpl ho (hl G pl) (body G pl h0 s hL r s' hf)
section EVF
variable {G : GG} {d : Nat} {M : MI} {ly : LY} {pl : Nat → Nat} {h0 : PH} {ρ : Type} {rv : ρ → Option Value} {f : Option (ρ × SS)} {pc : Nat} {lv : List (Nat × Value)} {rest : List Value} {s : SS}
theorem LayOK.LH {s : SS} {n : Nat} (H : LayOK ly pl h0) : LayOK ly pl (LH pl n h0 s) := H
theorem LayOK.sh {k : Nat} {e : (Nat × Nat) × List (Nat × Nat)} (H : LayOK ly pl h0) (he : ly[k]? = some e) : h0.2.1 (pl k) = some e.1 := (H.2 k e he).1
theorem LayOK.lt {k : Nat} {e : (Nat × Nat) × List (Nat × Nat)} (he : ly[k]? = some e) : k < ly.length := (List.getElem?_eq_some_iff.mp he).1
theorem ef_getI {q idx ci j k m0 : Nat} {rs : List (Nat × Nat)} {x : Int32} (he : ly[k]? = some ((ci, m0), rs)) (hF : FL M idx ci j) (hr : isRf (ftyG ci j) = false) (hx : s.1 k j = x) (hdg : decode (mbM M) pc = .ok (.getfield idx, 3)) (hq : pc + 3 = q) (kk : EvF G d M ly pl h0 rv f q lv (.int x :: rest) s) : EvF G d M ly pl h0 rv f pc lv (.ref (pl k) :: rest) s := fun H r s' hf => by
  subst hq
  refine ev_getf (H.sh he) hF ?_ hdg (kk H r s' hf)
  unfold fvalG
  rw [if_neg (by rw [hr]; decide)]
  show Value.int (mrg pl ly.length h0.2.2.2.1 s.1 (pl k) j) = _
  rw [mrg_at H.1 (LayOK.lt he), hx]
theorem ef_getR {q idx ci j k m0 t : Nat} {rs : List (Nat × Nat)} (he : ly[k]? = some ((ci, m0), rs)) (hF : FL M idx ci j) (hr : isRf (ftyG ci j) = true) (ht : rs.lookup j = some t) (hdg : decode (mbM M) pc = .ok (.getfield idx, 3)) (hq : pc + 3 = q) (kk : EvF G d M ly pl h0 rv f q lv (.ref (pl t) :: rest) s) : EvF G d M ly pl h0 rv f pc lv (.ref (pl k) :: rest) s := fun H r s' hf => by
  subst hq
  refine ev_getf (H.sh he) hF ?_ hdg (kk H r s' hf)
  unfold fvalG
  rw [if_pos hr]
  exact (H.2 k _ he).2 j t ht
theorem ef_putI {q idx ci j k m0 : Nat} {rs : List (Nat × Nat)} {x : Int32} (he : ly[k]? = some ((ci, m0), rs)) (hF : FL M idx ci j) (hfin : (TXG ci j).2.2.2 = false) (hty : ftyG ci j = .int) (hdg : decode (mbM M) pc = .ok (.putfield idx, 3)) (hq : pc + 3 = q) (kk : EvF G d M ly pl h0 rv f q lv rest (wrI s k j x)) : EvF G d M ly pl h0 rv f pc lv (.int x :: .ref (pl k) :: rest) s := fun H r s' hf => by
  subst hq
  have h1 := kk H r s' hf
  rw [LH_wrI H.1 (LayOK.lt he)] at h1
  exact ev_putI (H.sh he) hF hfin (by rw [hty]; rfl) (by rw [hty]; rfl) (by rw [hty]; rfl) hdg h1
theorem ef_putZ {q idx ci j k m0 : Nat} {rs : List (Nat × Nat)} {x : Int32} (he : ly[k]? = some ((ci, m0), rs)) (hF : FL M idx ci j) (hfin : (TXG ci j).2.2.2 = false) (hty : ftyG ci j = .boolean) (hn : narrow .boolean (.int x) = .int x) (hfit : fits .boolean (.int x) = true) (hdg : decode (mbM M) pc = .ok (.putfield idx, 3)) (hq : pc + 3 = q) (kk : EvF G d M ly pl h0 rv f q lv rest (wrI s k j x)) : EvF G d M ly pl h0 rv f pc lv (.int x :: .ref (pl k) :: rest) s := fun H r s' hf => by
  subst hq
  have h1 := kk H r s' hf
  rw [LH_wrI H.1 (LayOK.lt he)] at h1
  exact ev_putI (H.sh he) hF hfin (by rw [hty]; rfl) (by rw [hty]; exact hn) (by rw [hty]; exact hfit) hdg h1
/-- an index within a row of n -/
abbrev ixB (i : Int32) (n : Nat) : Prop := ¬ (i < 0 ∨ n ≤ i.toNatClampNeg)
theorem ixB_lt {i : Int32} {n : Nat} (h : ixB i n) : i.toNatClampNeg < n := Nat.not_le.mp fun q => h (Or.inr q)
theorem ef_iaload {q k n : Nat} {rs : List (Nat × Nat)} {i x : Int32} (he : ly[k]? = some ((10, n), rs)) (hi : ixB i n) (hdg : decode (mbM M) pc = .ok (.iaload, 1)) (hx : s.1 k i.toNatClampNeg = x) (hq : pc + 1 = q) (kk : EvF G d M ly pl h0 rv f q lv (.int x :: rest) s) : EvF G d M ly pl h0 rv f pc lv (.int i :: .ref (pl k) :: rest) s := fun H r s' hf => by
  subst hq
  refine ev_iaload (H.sh he) hi hdg ?_
  have e : (LH pl ly.length h0 s).2.2.2.1 (pl k) i.toNatClampNeg = x := by
    show mrg pl ly.length h0.2.2.2.1 s.1 (pl k) i.toNatClampNeg = _
    rw [mrg_at H.1 (LayOK.lt he), hx]
  rw [e]
  exact kk H r s' hf
theorem ef_laload {q k n : Nat} {rs : List (Nat × Nat)} {i : Int32} {x : Int64} (he : ly[k]? = some ((11, n), rs)) (hi : ixB i n) (hdg : decode (mbM M) pc = .ok (.laload, 1)) (hx : s.2 k i.toNatClampNeg = x) (hq : pc + 1 = q) (kk : EvF G d M ly pl h0 rv f q lv (.long x :: rest) s) : EvF G d M ly pl h0 rv f pc lv (.int i :: .ref (pl k) :: rest) s := fun H r s' hf => by
  subst hq
  refine ev_laload (H.sh he) hi hdg ?_
  have e : (LH pl ly.length h0 s).2.2.2.2 (pl k) i.toNatClampNeg = x := by
    show mrg pl ly.length h0.2.2.2.2 s.2 (pl k) i.toNatClampNeg = _
    rw [mrg_at H.1 (LayOK.lt he), hx]
  rw [e]
  exact kk H r s' hf
theorem ef_aaload {q k n t t0 : Nat} {rs : List (Nat × Nat)} {tf : Nat → Nat} {i : Int32} (he : ly[k]? = some ((t, n), rs)) (h12 : 12 ≤ t) (htf : ∀ j : Nat, j < n → rs.lookup j = some (tf j)) (hi : ixB i n) (hdg : decode (mbM M) pc = .ok (.aaload, 1)) (ht : tf i.toNatClampNeg = t0) (hq : pc + 1 = q) (kk : EvF G d M ly pl h0 rv f q lv (.ref (pl t0) :: rest) s) : EvF G d M ly pl h0 rv f pc lv (.int i :: .ref (pl k) :: rest) s := fun H r s' hf => by
  subst hq
  subst ht
  exact ev_aaload (H.sh he) h12 hi ((H.2 k _ he).2 _ _ (htf _ (ixB_lt hi))) hdg (kk H r s' hf)
theorem ef_iastore {q k n j : Nat} {rs : List (Nat × Nat)} {i x : Int32} (he : ly[k]? = some ((10, n), rs)) (hi : ixB i n) (hdg : decode (mbM M) pc = .ok (.iastore, 1)) (hj : i.toNatClampNeg = j) (hq : pc + 1 = q) (kk : EvF G d M ly pl h0 rv f q lv rest (wrI s k j x)) : EvF G d M ly pl h0 rv f pc lv (.int x :: .int i :: .ref (pl k) :: rest) s := fun H r s' hf => by
  subst hq
  subst hj
  have h1 := kk H r s' hf
  rw [LH_wrI H.1 (LayOK.lt he)] at h1
  exact ev_iastore (H.sh he) hi hdg h1
theorem ef_lastore {q k n j : Nat} {rs : List (Nat × Nat)} {i : Int32} {x : Int64} (he : ly[k]? = some ((11, n), rs)) (hi : ixB i n) (hdg : decode (mbM M) pc = .ok (.lastore, 1)) (hj : i.toNatClampNeg = j) (hq : pc + 1 = q) (kk : EvF G d M ly pl h0 rv f q lv rest (wrL s k j x)) : EvF G d M ly pl h0 rv f pc lv (.long x :: .int i :: .ref (pl k) :: rest) s := fun H r s' hf => by
  subst hq
  subst hj
  have h1 := kk H r s' hf
  rw [LH_wrL H.1 (LayOK.lt he)] at h1
  exact ev_lastore (H.sh he) hi hdg h1
theorem ef_alenI {q k n : Nat} {rs : List (Nat × Nat)} {v : Int32} (he : ly[k]? = some ((10, n), rs)) (hv : Int32.ofNat n = v) (hdg : decode (mbM M) pc = .ok (.arraylength, 1)) (hq : pc + 1 = q) (kk : EvF G d M ly pl h0 rv f q lv (.int v :: rest) s) : EvF G d M ly pl h0 rv f pc lv (.ref (pl k) :: rest) s := fun H r s' hf => by
  subst hq
  exact ev_alenI (H.sh he) hv hdg (kk H r s' hf)
theorem ef_getsO {q idx : Nat} (hlk : Cond.fieldLink (moM M) idx "BeforeItDrips$Cone" "ORDER_ROWS" "[I" ∈ TT) (hdg : decode (mbM M) pc = .ok (.getstatic idx, 3)) (hq : pc + 3 = q) (kk : EvF G d M ly pl h0 rv f q lv (.ref (G.2.2.2.1 20) :: rest) s) : EvF G d M ly pl h0 rv f pc lv rest s := fun H r s' hf => by
  subst hq
  exact ev_getsO hlk hdg (kk H r s' hf)
theorem ef_oaload {q : Nat} {i x : Int32} (hi : ixB i 18) (hdg : decode (mbM M) pc = .ok (.iaload, 1)) (hx : orderRows.getD i.toNatClampNeg 0 = x) (hq : pc + 1 = q) (kk : EvF G d M ly pl h0 rv f q lv (.int x :: rest) s) : EvF G d M ly pl h0 rv f pc lv (.int i :: .ref (G.2.2.2.1 20) :: rest) s := fun H r s' hf => by
  subst hq
  exact ev_oaload hi hx hdg (kk H r s' hf)
theorem ef_oalen {q : Nat} {v : Int32} (hv : Int32.ofNat 18 = v) (hdg : decode (mbM M) pc = .ok (.arraylength, 1)) (hq : pc + 1 = q) (kk : EvF G d M ly pl h0 rv f q lv (.int v :: rest) s) : EvF G d M ly pl h0 rv f pc lv (.ref (G.2.2.2.1 20) :: rest) s := fun H r s' hf => by
  subst hq
  exact ev_oalen hv hdg (kk H r s' hf)
/-- f's guard: an index is within, a divisor isn't 0 -/
theorem ef_guard {c : Prop} [Decidable c] {A : Option (ρ × SS)} {st : List Value} (kk : c → EvF G d M ly pl h0 rv A pc lv st s) : EvF G d M ly pl h0 rv (if c then A else none) pc lv st s := fun H r s' hf => by
  by_cases z : c
  · rw [if_pos z] at hf
    exact kk z H r s' hf
  · rw [if_neg z] at hf
    cases hf
theorem ef_if {c : Prop} [Decidable c] {A B : Option (ρ × SS)} {pt pf : Nat} {st0 st : List Value} (rule : ∀ (r : ρ) (s' : SS), (c → Ev G d M 0 0 (Qf rv pl ly.length h0 r s') 0 0 pt lv st (LH pl ly.length h0 s)) → (¬ c → Ev G d M 0 0 (Qf rv pl ly.length h0 r s') 0 0 pf lv st (LH pl ly.length h0 s)) → Ev G d M 0 0 (Qf rv pl ly.length h0 r s') 0 0 pc lv st0 (LH pl ly.length h0 s))
    (kt : c → EvF G d M ly pl h0 rv A pt lv st s) (kf : ¬ c → EvF G d M ly pl h0 rv B pf lv st s) : EvF G d M ly pl h0 rv (if c then A else B) pc lv st0 s := fun H r s' hf =>
  rule r s' (fun z => kt z H r s' (by rw [if_pos z] at hf; exact hf)) (fun z => kf z H r s' (by rw [if_neg z] at hf; exact hf))
theorem ef_eq {g : Option (ρ × SS)} {st : List Value} (e : f = g) (kk : EvF G d M ly pl h0 rv g pc lv st s) : EvF G d M ly pl h0 rv f pc lv st s := e ▸ kk
theorem ef_st {s1 : SS} {st : List Value} (e : s = s1) (kk : EvF G d M ly pl h0 rv f pc lv st s1) : EvF G d M ly pl h0 rv f pc lv st s := e ▸ kk
/-- calls: f binds the callee's function -/
theorem ef_invVI {N : MI} {q idx d' ci n k m0 : Nat} {π : Nat → Nat} {ly' : LY} {As st : List Value} {av : GG → (Nat → Nat) → List Value} {fc : SS → Option (Int32 × SS)} {A : Int32 × SS → Option (ρ × SS)} {rs : List (Nat × Nat)} {rest : List Value} {nn : Nat} (hM : MtF d' N ly' rvI av fc) (hm : layMap ly ly' π = true) (ha : av G (fun k => pl (π k)) = .ref (pl k) :: As) (hC : CalV N ci n) (hlk : Cond.methodLink (moM M) idx (myM N) ∈ TT) (hd : d' + 1 ≤ d) (he : ly[k]? = some ((ci, m0), rs)) (hst : st = As.reverse ++ .ref (pl k) :: rest) (hn : As.length = n) (hW : (rest.map fun v => v.category).sum ≤ 8) (hdg : decode (mbM M) pc = .ok (.invokevirtual idx, 3)) (hq : pc + 3 = q) (hnn : ly'.length = nn)
    (kk : ∀ x : Int32 × SS, EvF G d M ly pl h0 rv (A x) q lv (.int x.1 :: rest) (mrgS π nn s x.2)) : EvF G d M ly pl h0 rv ((fc (selS π s)).bind A) pc lv st s := fun H r s' hf => by
  subst hq
  obtain ⟨⟨r1, t1⟩, g1, g2⟩ := Option.bind_eq_some_iff.mp hf
  subst hnn
  obtain ⟨m1, m2, -⟩ := layMap_spec hm
  have hMt : MtG G d' N 0 0 (av G (fun k => pl (π k))) (LH (fun k => pl (π k)) ly'.length (LH pl ly.length h0 s) (selS π s)) (Qf rvI (fun k => pl (π k)) ly'.length (LH pl ly.length h0 s) r1 t1) := hM (fun k => pl (π k)) (LH pl ly.length h0 s) ((H.LH).sub hm) (selS π s) r1 t1 g1 G
  rw [LH_sel H.1 m1 m2, ha] at hMt
  refine ev_invV (mc' := 0) (ms' := 0) hMt hC hlk hd (H.sh he) hst hn hW (Nat.le_refl 0) (Nat.le_refl 0) hdg (fun v h' hq => ?_)
  obtain ⟨e1, e2⟩ := hq
  subst e1
  subst e2
  rw [LH_call H.1 m1 m2]
  exact kk (r1, t1) H r s' g2
theorem ef_invVI0 {N : MI} {q idx d' ci n k m0 : Nat} {As st : List Value} {av : GG → (Nat → Nat) → List Value} {fc : SS → Option (Int32 × SS)} {A : Int32 × SS → Option (ρ × SS)} {rs : List (Nat × Nat)} {rest : List Value} (hM : MtF d' N ly rvI av fc) (ha : av G pl = .ref (pl k) :: As) (hC : CalV N ci n) (hlk : Cond.methodLink (moM M) idx (myM N) ∈ TT) (hd : d' + 1 ≤ d) (he : ly[k]? = some ((ci, m0), rs)) (hst : st = As.reverse ++ .ref (pl k) :: rest) (hn : As.length = n) (hW : (rest.map fun v => v.category).sum ≤ 8) (hdg : decode (mbM M) pc = .ok (.invokevirtual idx, 3)) (hq : pc + 3 = q)
    (kk : ∀ x : Int32 × SS, EvF G d M ly pl h0 rv (A x) q lv (.int x.1 :: rest) (x.2)) : EvF G d M ly pl h0 rv ((fc s).bind A) pc lv st s := fun H r s' hf => by
  subst hq
  obtain ⟨⟨r1, t1⟩, g1, g2⟩ := Option.bind_eq_some_iff.mp hf
  have hMt : MtG G d' N 0 0 (av G pl) (LH pl ly.length h0 s) (Qf rvI pl ly.length h0 r1 t1) := hM pl h0 H s r1 t1 g1 G
  rw [ha] at hMt
  refine ev_invV (mc' := 0) (ms' := 0) hMt hC hlk hd (H.sh he) hst hn hW (Nat.le_refl 0) (Nat.le_refl 0) hdg (fun v h' hq => ?_)
  obtain ⟨e1, e2⟩ := hq
  subst e1
  subst e2
  exact kk (r1, t1) H r s' g2
theorem ef_invSI {N : MI} {q idx d' n : Nat} {π : Nat → Nat} {ly' : LY} {As st : List Value} {av : GG → (Nat → Nat) → List Value} {fc : SS → Option (Int32 × SS)} {A : Int32 × SS → Option (ρ × SS)} {rest : List Value} {nn : Nat} (hM : MtF d' N ly' rvI av fc) (hm : layMap ly ly' π = true) (ha : av G (fun k => pl (π k)) = As) (hC : CalS N n) (hlk : Cond.methodLink (moM M) idx (myM N) ∈ TT) (hd : d' + 1 ≤ d) (hst : st = As.reverse ++ rest) (hn : As.length = n) (hW : (rest.map fun v => v.category).sum ≤ 8) (hdg : decode (mbM M) pc = .ok (.invokestatic idx, 3)) (hq : pc + 3 = q) (hnn : ly'.length = nn)
    (kk : ∀ x : Int32 × SS, EvF G d M ly pl h0 rv (A x) q lv (.int x.1 :: rest) (mrgS π nn s x.2)) : EvF G d M ly pl h0 rv ((fc (selS π s)).bind A) pc lv st s := fun H r s' hf => by
  subst hq
  obtain ⟨⟨r1, t1⟩, g1, g2⟩ := Option.bind_eq_some_iff.mp hf
  subst hnn
  obtain ⟨m1, m2, -⟩ := layMap_spec hm
  have hMt : MtG G d' N 0 0 (av G (fun k => pl (π k))) (LH (fun k => pl (π k)) ly'.length (LH pl ly.length h0 s) (selS π s)) (Qf rvI (fun k => pl (π k)) ly'.length (LH pl ly.length h0 s) r1 t1) := hM (fun k => pl (π k)) (LH pl ly.length h0 s) ((H.LH).sub hm) (selS π s) r1 t1 g1 G
  rw [LH_sel H.1 m1 m2, ha] at hMt
  refine ev_invS (mc' := 0) (ms' := 0) hMt hC hlk hd hst hn hW (Nat.le_refl 0) (Nat.le_refl 0) hdg (fun v h' hq => ?_)
  obtain ⟨e1, e2⟩ := hq
  subst e1
  subst e2
  rw [LH_call H.1 m1 m2]
  exact kk (r1, t1) H r s' g2
theorem ef_invSI0 {N : MI} {q idx d' n : Nat} {As st : List Value} {av : GG → (Nat → Nat) → List Value} {fc : SS → Option (Int32 × SS)} {A : Int32 × SS → Option (ρ × SS)} {rest : List Value} (hM : MtF d' N ly rvI av fc) (ha : av G pl = As) (hC : CalS N n) (hlk : Cond.methodLink (moM M) idx (myM N) ∈ TT) (hd : d' + 1 ≤ d) (hst : st = As.reverse ++ rest) (hn : As.length = n) (hW : (rest.map fun v => v.category).sum ≤ 8) (hdg : decode (mbM M) pc = .ok (.invokestatic idx, 3)) (hq : pc + 3 = q)
    (kk : ∀ x : Int32 × SS, EvF G d M ly pl h0 rv (A x) q lv (.int x.1 :: rest) (x.2)) : EvF G d M ly pl h0 rv ((fc s).bind A) pc lv st s := fun H r s' hf => by
  subst hq
  obtain ⟨⟨r1, t1⟩, g1, g2⟩ := Option.bind_eq_some_iff.mp hf
  have hMt : MtG G d' N 0 0 (av G pl) (LH pl ly.length h0 s) (Qf rvI pl ly.length h0 r1 t1) := hM pl h0 H s r1 t1 g1 G
  rw [ha] at hMt
  refine ev_invS (mc' := 0) (ms' := 0) hMt hC hlk hd hst hn hW (Nat.le_refl 0) (Nat.le_refl 0) hdg (fun v h' hq => ?_)
  obtain ⟨e1, e2⟩ := hq
  subst e1
  subst e2
  exact kk (r1, t1) H r s' g2
theorem ef_invPI0 {N : MI} {q idx d' n : Nat} {As st : List Value} {av : GG → (Nat → Nat) → List Value} {fc : SS → Option (Int32 × SS)} {A : Int32 × SS → Option (ρ × SS)} {rest : List Value} (hM : MtF d' N [] rvI av fc) (ha : av G pl = As) (hC : CalS N n) (hlk : Cond.methodLink (moM M) idx (myM N) ∈ TT) (hd : d' + 1 ≤ d) (hst : st = As.reverse ++ rest) (hn : As.length = n) (hW : (rest.map fun v => v.category).sum ≤ 8) (hdg : decode (mbM M) pc = .ok (.invokestatic idx, 3)) (hq : pc + 3 = q)
    (kk : ∀ x : Int32 × SS, EvF G d M ly pl h0 rv (A x) q lv (.int x.1 :: rest) (s)) : EvF G d M ly pl h0 rv ((fc s).bind A) pc lv st s := fun H r s' hf => by
  subst hq
  obtain ⟨⟨r1, t1⟩, g1, g2⟩ := Option.bind_eq_some_iff.mp hf
  have hMt : MtG G d' N 0 0 (av G pl) (LH pl ly.length h0 s) (Qf rvI pl 0 (LH pl ly.length h0 s) r1 t1) := hM pl (LH pl ly.length h0 s) ⟨fun i j hi => absurd hi (Nat.not_lt_zero i), fun k e hk => by simp at hk⟩ s r1 t1 g1 G
  rw [ha] at hMt
  refine ev_invS (mc' := 0) (ms' := 0) hMt hC hlk hd hst hn hW (Nat.le_refl 0) (Nat.le_refl 0) hdg (fun v h' hq => ?_)
  obtain ⟨e1, e2⟩ := hq
  subst e1
  subst e2
  exact kk (r1, t1) H r s' g2
theorem ef_invVU {N : MI} {q idx d' ci n k m0 : Nat} {π : Nat → Nat} {ly' : LY} {As st : List Value} {av : GG → (Nat → Nat) → List Value} {fc : SS → Option (Unit × SS)} {A : Unit × SS → Option (ρ × SS)} {rs : List (Nat × Nat)} {rest : List Value} {nn : Nat} (hM : MtF d' N ly' rvU av fc) (hm : layMap ly ly' π = true) (ha : av G (fun k => pl (π k)) = .ref (pl k) :: As) (hC : CalV N ci n) (hlk : Cond.methodLink (moM M) idx (myM N) ∈ TT) (hd : d' + 1 ≤ d) (he : ly[k]? = some ((ci, m0), rs)) (hst : st = As.reverse ++ .ref (pl k) :: rest) (hn : As.length = n) (hW : (rest.map fun v => v.category).sum ≤ 8) (hdg : decode (mbM M) pc = .ok (.invokevirtual idx, 3)) (hq : pc + 3 = q) (hnn : ly'.length = nn)
    (kk : ∀ x : Unit × SS, EvF G d M ly pl h0 rv (A x) q lv (rest) (mrgS π nn s x.2)) : EvF G d M ly pl h0 rv ((fc (selS π s)).bind A) pc lv st s := fun H r s' hf => by
  subst hq
  obtain ⟨⟨r1, t1⟩, g1, g2⟩ := Option.bind_eq_some_iff.mp hf
  subst hnn
  obtain ⟨m1, m2, -⟩ := layMap_spec hm
  have hMt : MtG G d' N 0 0 (av G (fun k => pl (π k))) (LH (fun k => pl (π k)) ly'.length (LH pl ly.length h0 s) (selS π s)) (Qf rvU (fun k => pl (π k)) ly'.length (LH pl ly.length h0 s) r1 t1) := hM (fun k => pl (π k)) (LH pl ly.length h0 s) ((H.LH).sub hm) (selS π s) r1 t1 g1 G
  rw [LH_sel H.1 m1 m2, ha] at hMt
  refine ev_invV (mc' := 0) (ms' := 0) hMt hC hlk hd (H.sh he) hst hn hW (Nat.le_refl 0) (Nat.le_refl 0) hdg (fun v h' hq => ?_)
  obtain ⟨e1, e2⟩ := hq
  subst e1
  subst e2
  rw [LH_call H.1 m1 m2]
  exact kk (r1, t1) H r s' g2
theorem ef_invVU0 {N : MI} {q idx d' ci n k m0 : Nat} {As st : List Value} {av : GG → (Nat → Nat) → List Value} {fc : SS → Option (Unit × SS)} {A : Unit × SS → Option (ρ × SS)} {rs : List (Nat × Nat)} {rest : List Value} (hM : MtF d' N ly rvU av fc) (ha : av G pl = .ref (pl k) :: As) (hC : CalV N ci n) (hlk : Cond.methodLink (moM M) idx (myM N) ∈ TT) (hd : d' + 1 ≤ d) (he : ly[k]? = some ((ci, m0), rs)) (hst : st = As.reverse ++ .ref (pl k) :: rest) (hn : As.length = n) (hW : (rest.map fun v => v.category).sum ≤ 8) (hdg : decode (mbM M) pc = .ok (.invokevirtual idx, 3)) (hq : pc + 3 = q)
    (kk : ∀ x : Unit × SS, EvF G d M ly pl h0 rv (A x) q lv (rest) (x.2)) : EvF G d M ly pl h0 rv ((fc s).bind A) pc lv st s := fun H r s' hf => by
  subst hq
  obtain ⟨⟨r1, t1⟩, g1, g2⟩ := Option.bind_eq_some_iff.mp hf
  have hMt : MtG G d' N 0 0 (av G pl) (LH pl ly.length h0 s) (Qf rvU pl ly.length h0 r1 t1) := hM pl h0 H s r1 t1 g1 G
  rw [ha] at hMt
  refine ev_invV (mc' := 0) (ms' := 0) hMt hC hlk hd (H.sh he) hst hn hW (Nat.le_refl 0) (Nat.le_refl 0) hdg (fun v h' hq => ?_)
  obtain ⟨e1, e2⟩ := hq
  subst e1
  subst e2
  exact kk (r1, t1) H r s' g2
theorem ef_invSU {N : MI} {q idx d' n : Nat} {π : Nat → Nat} {ly' : LY} {As st : List Value} {av : GG → (Nat → Nat) → List Value} {fc : SS → Option (Unit × SS)} {A : Unit × SS → Option (ρ × SS)} {rest : List Value} {nn : Nat} (hM : MtF d' N ly' rvU av fc) (hm : layMap ly ly' π = true) (ha : av G (fun k => pl (π k)) = As) (hC : CalS N n) (hlk : Cond.methodLink (moM M) idx (myM N) ∈ TT) (hd : d' + 1 ≤ d) (hst : st = As.reverse ++ rest) (hn : As.length = n) (hW : (rest.map fun v => v.category).sum ≤ 8) (hdg : decode (mbM M) pc = .ok (.invokestatic idx, 3)) (hq : pc + 3 = q) (hnn : ly'.length = nn)
    (kk : ∀ x : Unit × SS, EvF G d M ly pl h0 rv (A x) q lv (rest) (mrgS π nn s x.2)) : EvF G d M ly pl h0 rv ((fc (selS π s)).bind A) pc lv st s := fun H r s' hf => by
  subst hq
  obtain ⟨⟨r1, t1⟩, g1, g2⟩ := Option.bind_eq_some_iff.mp hf
  subst hnn
  obtain ⟨m1, m2, -⟩ := layMap_spec hm
  have hMt : MtG G d' N 0 0 (av G (fun k => pl (π k))) (LH (fun k => pl (π k)) ly'.length (LH pl ly.length h0 s) (selS π s)) (Qf rvU (fun k => pl (π k)) ly'.length (LH pl ly.length h0 s) r1 t1) := hM (fun k => pl (π k)) (LH pl ly.length h0 s) ((H.LH).sub hm) (selS π s) r1 t1 g1 G
  rw [LH_sel H.1 m1 m2, ha] at hMt
  refine ev_invS (mc' := 0) (ms' := 0) hMt hC hlk hd hst hn hW (Nat.le_refl 0) (Nat.le_refl 0) hdg (fun v h' hq => ?_)
  obtain ⟨e1, e2⟩ := hq
  subst e1
  subst e2
  rw [LH_call H.1 m1 m2]
  exact kk (r1, t1) H r s' g2
theorem ef_invSU0 {N : MI} {q idx d' n : Nat} {As st : List Value} {av : GG → (Nat → Nat) → List Value} {fc : SS → Option (Unit × SS)} {A : Unit × SS → Option (ρ × SS)} {rest : List Value} (hM : MtF d' N ly rvU av fc) (ha : av G pl = As) (hC : CalS N n) (hlk : Cond.methodLink (moM M) idx (myM N) ∈ TT) (hd : d' + 1 ≤ d) (hst : st = As.reverse ++ rest) (hn : As.length = n) (hW : (rest.map fun v => v.category).sum ≤ 8) (hdg : decode (mbM M) pc = .ok (.invokestatic idx, 3)) (hq : pc + 3 = q)
    (kk : ∀ x : Unit × SS, EvF G d M ly pl h0 rv (A x) q lv (rest) (x.2)) : EvF G d M ly pl h0 rv ((fc s).bind A) pc lv st s := fun H r s' hf => by
  subst hq
  obtain ⟨⟨r1, t1⟩, g1, g2⟩ := Option.bind_eq_some_iff.mp hf
  have hMt : MtG G d' N 0 0 (av G pl) (LH pl ly.length h0 s) (Qf rvU pl ly.length h0 r1 t1) := hM pl h0 H s r1 t1 g1 G
  rw [ha] at hMt
  refine ev_invS (mc' := 0) (ms' := 0) hMt hC hlk hd hst hn hW (Nat.le_refl 0) (Nat.le_refl 0) hdg (fun v h' hq => ?_)
  obtain ⟨e1, e2⟩ := hq
  subst e1
  subst e2
  exact kk (r1, t1) H r s' g2
theorem ef_invPU0 {N : MI} {q idx d' n : Nat} {As st : List Value} {av : GG → (Nat → Nat) → List Value} {fc : SS → Option (Unit × SS)} {A : Unit × SS → Option (ρ × SS)} {rest : List Value} (hM : MtF d' N [] rvU av fc) (ha : av G pl = As) (hC : CalS N n) (hlk : Cond.methodLink (moM M) idx (myM N) ∈ TT) (hd : d' + 1 ≤ d) (hst : st = As.reverse ++ rest) (hn : As.length = n) (hW : (rest.map fun v => v.category).sum ≤ 8) (hdg : decode (mbM M) pc = .ok (.invokestatic idx, 3)) (hq : pc + 3 = q)
    (kk : ∀ x : Unit × SS, EvF G d M ly pl h0 rv (A x) q lv (rest) (s)) : EvF G d M ly pl h0 rv ((fc s).bind A) pc lv st s := fun H r s' hf => by
  subst hq
  obtain ⟨⟨r1, t1⟩, g1, g2⟩ := Option.bind_eq_some_iff.mp hf
  have hMt : MtG G d' N 0 0 (av G pl) (LH pl ly.length h0 s) (Qf rvU pl 0 (LH pl ly.length h0 s) r1 t1) := hM pl (LH pl ly.length h0 s) ⟨fun i j hi => absurd hi (Nat.not_lt_zero i), fun k e hk => by simp at hk⟩ s r1 t1 g1 G
  rw [ha] at hMt
  refine ev_invS (mc' := 0) (ms' := 0) hMt hC hlk hd hst hn hW (Nat.le_refl 0) (Nat.le_refl 0) hdg (fun v h' hq => ?_)
  obtain ⟨e1, e2⟩ := hq
  subst e1
  subst e2
  exact kk (r1, t1) H r s' g2
theorem ef_invVL {N : MI} {q idx d' ci n k m0 : Nat} {π : Nat → Nat} {ly' : LY} {As st : List Value} {av : GG → (Nat → Nat) → List Value} {fc : SS → Option (Int64 × SS)} {A : Int64 × SS → Option (ρ × SS)} {rs : List (Nat × Nat)} {rest : List Value} {nn : Nat} (hM : MtF d' N ly' rvL av fc) (hm : layMap ly ly' π = true) (ha : av G (fun k => pl (π k)) = .ref (pl k) :: As) (hC : CalV N ci n) (hlk : Cond.methodLink (moM M) idx (myM N) ∈ TT) (hd : d' + 1 ≤ d) (he : ly[k]? = some ((ci, m0), rs)) (hst : st = As.reverse ++ .ref (pl k) :: rest) (hn : As.length = n) (hW : (rest.map fun v => v.category).sum ≤ 8) (hdg : decode (mbM M) pc = .ok (.invokevirtual idx, 3)) (hq : pc + 3 = q) (hnn : ly'.length = nn)
    (kk : ∀ x : Int64 × SS, EvF G d M ly pl h0 rv (A x) q lv (.long x.1 :: rest) (mrgS π nn s x.2)) : EvF G d M ly pl h0 rv ((fc (selS π s)).bind A) pc lv st s := fun H r s' hf => by
  subst hq
  obtain ⟨⟨r1, t1⟩, g1, g2⟩ := Option.bind_eq_some_iff.mp hf
  subst hnn
  obtain ⟨m1, m2, -⟩ := layMap_spec hm
  have hMt : MtG G d' N 0 0 (av G (fun k => pl (π k))) (LH (fun k => pl (π k)) ly'.length (LH pl ly.length h0 s) (selS π s)) (Qf rvL (fun k => pl (π k)) ly'.length (LH pl ly.length h0 s) r1 t1) := hM (fun k => pl (π k)) (LH pl ly.length h0 s) ((H.LH).sub hm) (selS π s) r1 t1 g1 G
  rw [LH_sel H.1 m1 m2, ha] at hMt
  refine ev_invV (mc' := 0) (ms' := 0) hMt hC hlk hd (H.sh he) hst hn hW (Nat.le_refl 0) (Nat.le_refl 0) hdg (fun v h' hq => ?_)
  obtain ⟨e1, e2⟩ := hq
  subst e1
  subst e2
  rw [LH_call H.1 m1 m2]
  exact kk (r1, t1) H r s' g2
theorem ef_invVL0 {N : MI} {q idx d' ci n k m0 : Nat} {As st : List Value} {av : GG → (Nat → Nat) → List Value} {fc : SS → Option (Int64 × SS)} {A : Int64 × SS → Option (ρ × SS)} {rs : List (Nat × Nat)} {rest : List Value} (hM : MtF d' N ly rvL av fc) (ha : av G pl = .ref (pl k) :: As) (hC : CalV N ci n) (hlk : Cond.methodLink (moM M) idx (myM N) ∈ TT) (hd : d' + 1 ≤ d) (he : ly[k]? = some ((ci, m0), rs)) (hst : st = As.reverse ++ .ref (pl k) :: rest) (hn : As.length = n) (hW : (rest.map fun v => v.category).sum ≤ 8) (hdg : decode (mbM M) pc = .ok (.invokevirtual idx, 3)) (hq : pc + 3 = q)
    (kk : ∀ x : Int64 × SS, EvF G d M ly pl h0 rv (A x) q lv (.long x.1 :: rest) (x.2)) : EvF G d M ly pl h0 rv ((fc s).bind A) pc lv st s := fun H r s' hf => by
  subst hq
  obtain ⟨⟨r1, t1⟩, g1, g2⟩ := Option.bind_eq_some_iff.mp hf
  have hMt : MtG G d' N 0 0 (av G pl) (LH pl ly.length h0 s) (Qf rvL pl ly.length h0 r1 t1) := hM pl h0 H s r1 t1 g1 G
  rw [ha] at hMt
  refine ev_invV (mc' := 0) (ms' := 0) hMt hC hlk hd (H.sh he) hst hn hW (Nat.le_refl 0) (Nat.le_refl 0) hdg (fun v h' hq => ?_)
  obtain ⟨e1, e2⟩ := hq
  subst e1
  subst e2
  exact kk (r1, t1) H r s' g2
theorem ef_invSL {N : MI} {q idx d' n : Nat} {π : Nat → Nat} {ly' : LY} {As st : List Value} {av : GG → (Nat → Nat) → List Value} {fc : SS → Option (Int64 × SS)} {A : Int64 × SS → Option (ρ × SS)} {rest : List Value} {nn : Nat} (hM : MtF d' N ly' rvL av fc) (hm : layMap ly ly' π = true) (ha : av G (fun k => pl (π k)) = As) (hC : CalS N n) (hlk : Cond.methodLink (moM M) idx (myM N) ∈ TT) (hd : d' + 1 ≤ d) (hst : st = As.reverse ++ rest) (hn : As.length = n) (hW : (rest.map fun v => v.category).sum ≤ 8) (hdg : decode (mbM M) pc = .ok (.invokestatic idx, 3)) (hq : pc + 3 = q) (hnn : ly'.length = nn)
    (kk : ∀ x : Int64 × SS, EvF G d M ly pl h0 rv (A x) q lv (.long x.1 :: rest) (mrgS π nn s x.2)) : EvF G d M ly pl h0 rv ((fc (selS π s)).bind A) pc lv st s := fun H r s' hf => by
  subst hq
  obtain ⟨⟨r1, t1⟩, g1, g2⟩ := Option.bind_eq_some_iff.mp hf
  subst hnn
  obtain ⟨m1, m2, -⟩ := layMap_spec hm
  have hMt : MtG G d' N 0 0 (av G (fun k => pl (π k))) (LH (fun k => pl (π k)) ly'.length (LH pl ly.length h0 s) (selS π s)) (Qf rvL (fun k => pl (π k)) ly'.length (LH pl ly.length h0 s) r1 t1) := hM (fun k => pl (π k)) (LH pl ly.length h0 s) ((H.LH).sub hm) (selS π s) r1 t1 g1 G
  rw [LH_sel H.1 m1 m2, ha] at hMt
  refine ev_invS (mc' := 0) (ms' := 0) hMt hC hlk hd hst hn hW (Nat.le_refl 0) (Nat.le_refl 0) hdg (fun v h' hq => ?_)
  obtain ⟨e1, e2⟩ := hq
  subst e1
  subst e2
  rw [LH_call H.1 m1 m2]
  exact kk (r1, t1) H r s' g2
theorem ef_invSL0 {N : MI} {q idx d' n : Nat} {As st : List Value} {av : GG → (Nat → Nat) → List Value} {fc : SS → Option (Int64 × SS)} {A : Int64 × SS → Option (ρ × SS)} {rest : List Value} (hM : MtF d' N ly rvL av fc) (ha : av G pl = As) (hC : CalS N n) (hlk : Cond.methodLink (moM M) idx (myM N) ∈ TT) (hd : d' + 1 ≤ d) (hst : st = As.reverse ++ rest) (hn : As.length = n) (hW : (rest.map fun v => v.category).sum ≤ 8) (hdg : decode (mbM M) pc = .ok (.invokestatic idx, 3)) (hq : pc + 3 = q)
    (kk : ∀ x : Int64 × SS, EvF G d M ly pl h0 rv (A x) q lv (.long x.1 :: rest) (x.2)) : EvF G d M ly pl h0 rv ((fc s).bind A) pc lv st s := fun H r s' hf => by
  subst hq
  obtain ⟨⟨r1, t1⟩, g1, g2⟩ := Option.bind_eq_some_iff.mp hf
  have hMt : MtG G d' N 0 0 (av G pl) (LH pl ly.length h0 s) (Qf rvL pl ly.length h0 r1 t1) := hM pl h0 H s r1 t1 g1 G
  rw [ha] at hMt
  refine ev_invS (mc' := 0) (ms' := 0) hMt hC hlk hd hst hn hW (Nat.le_refl 0) (Nat.le_refl 0) hdg (fun v h' hq => ?_)
  obtain ⟨e1, e2⟩ := hq
  subst e1
  subst e2
  exact kk (r1, t1) H r s' g2
theorem ef_invPL0 {N : MI} {q idx d' n : Nat} {As st : List Value} {av : GG → (Nat → Nat) → List Value} {fc : SS → Option (Int64 × SS)} {A : Int64 × SS → Option (ρ × SS)} {rest : List Value} (hM : MtF d' N [] rvL av fc) (ha : av G pl = As) (hC : CalS N n) (hlk : Cond.methodLink (moM M) idx (myM N) ∈ TT) (hd : d' + 1 ≤ d) (hst : st = As.reverse ++ rest) (hn : As.length = n) (hW : (rest.map fun v => v.category).sum ≤ 8) (hdg : decode (mbM M) pc = .ok (.invokestatic idx, 3)) (hq : pc + 3 = q)
    (kk : ∀ x : Int64 × SS, EvF G d M ly pl h0 rv (A x) q lv (.long x.1 :: rest) (s)) : EvF G d M ly pl h0 rv ((fc s).bind A) pc lv st s := fun H r s' hf => by
  subst hq
  obtain ⟨⟨r1, t1⟩, g1, g2⟩ := Option.bind_eq_some_iff.mp hf
  have hMt : MtG G d' N 0 0 (av G pl) (LH pl ly.length h0 s) (Qf rvL pl 0 (LH pl ly.length h0 s) r1 t1) := hM pl (LH pl ly.length h0 s) ⟨fun i j hi => absurd hi (Nat.not_lt_zero i), fun k e hk => by simp at hk⟩ s r1 t1 g1 G
  rw [ha] at hMt
  refine ev_invS (mc' := 0) (ms' := 0) hMt hC hlk hd hst hn hW (Nat.le_refl 0) (Nat.le_refl 0) hdg (fun v h' hq => ?_)
  obtain ⟨e1, e2⟩ := hq
  subst e1
  subst e2
  exact kk (r1, t1) H r s' g2
/-- the ends -/
theorem ef_iret {x : Int32} (hr : mrM M = some .int) (hdg : decode (mbM M) pc = .ok (.ireturn, 1)) : EvF G d M ly pl h0 rvI (some (x, s)) pc lv [.int x] s := fun H r s' hf => by
  cases hf
  exact ev_iret hr ⟨rfl, rfl⟩ (Nat.le_refl 0) (Nat.le_refl 0) hdg
theorem ef_zret {x : Int32} (hr : mrM M = some .boolean) (hdg : decode (mbM M) pc = .ok (.ireturn, 1)) : EvF G d M ly pl h0 rvI (some (nbZ x, s)) pc lv [.int x] s := fun H r s' hf => by
  cases hf
  exact ev_zret hr ⟨rfl, rfl⟩ (Nat.le_refl 0) (Nat.le_refl 0) hdg
theorem ef_zretc {x : Int32} (hx : nbZ x = x) (hr : mrM M = some .boolean) (hdg : decode (mbM M) pc = .ok (.ireturn, 1)) : EvF G d M ly pl h0 rvI (some (x, s)) pc lv [.int x] s := fun H r s' hf => by
  cases hf
  exact ev_zret hr ⟨by rw [hx]; rfl, rfl⟩ (Nat.le_refl 0) (Nat.le_refl 0) hdg
theorem ef_dec {c : Prop} [Decidable c] {A B : Option (ρ × SS)} {st : List Value} (kt : c → EvF G d M ly pl h0 rv A pc lv st s) (kf : ¬ c → EvF G d M ly pl h0 rv B pc lv st s) : EvF G d M ly pl h0 rv (if c then A else B) pc lv st s := fun H r s' hf => by
  by_cases z : c
  · exact kt z H r s' (by rw [if_pos z] at hf; exact hf)
  · exact kf z H r s' (by rw [if_neg z] at hf; exact hf)
theorem ne_toI {x c : Int32} {k : Int} (h : ¬ x = c) (hc : c.toInt = k) : x.toInt ≠ k := fun e => h (Int32.toInt_inj.mp (e.trans hc.symm))
theorem ef_lret {x : Int64} (hr : mrM M = some .long) (hdg : decode (mbM M) pc = .ok (.lreturn, 1)) : EvF G d M ly pl h0 rvL (some (x, s)) pc lv [.long x] s := fun H r s' hf => by
  cases hf
  exact ev_lret hr ⟨rfl, rfl⟩ (Nat.le_refl 0) (Nat.le_refl 0) hdg
theorem ef_vret (hr : mrM M = none) (hdg : decode (mbM M) pc = .ok (.return_, 1)) : EvF G d M ly pl h0 rvU (some ((), s)) pc lv [] s := fun H r s' hf => by
  cases hf
  exact ev_vret hr ⟨rfl, rfl⟩ (Nat.le_refl 0) (Nat.le_refl 0) hdg
theorem ef_none {st : List Value} : EvF G d M ly pl h0 rv none pc lv st s := fun H r s' hf => by cases hf
/-- a straight instruction's rule, lifted -/
theorem ef_of {pc2 : Nat} {lv2 : List (Nat × Value)} {st st2 : List Value} (rule : ∀ (r : ρ) (s' : SS), Ev G d M 0 0 (Qf rv pl ly.length h0 r s') 0 0 pc2 lv2 st2 (LH pl ly.length h0 s) → Ev G d M 0 0 (Qf rv pl ly.length h0 r s') 0 0 pc lv st (LH pl ly.length h0 s)) (kk : EvF G d M ly pl h0 rv f pc2 lv2 st2 s) : EvF G d M ly pl h0 rv f pc lv st s := fun H r s' hf => rule r s' (kk H r s' hf)
end EVF
section EFL
variable {G : GG} {d : Nat} {M : MI} {ly : LY} {pl : Nat → Nat} {h0 : PH} {ρ : Type} {rv : ρ → Option Value} {f : Option (ρ × SS)} {pc : Nat} {lv : List (Nat × Value)} {rest : List Value} {s : SS}
theorem ef_iconst {q : Nat} {n : Int} {v : Int32} (hdg : decode (mbM M) pc = .ok (.iconst n, 1)) (hv : Int32.ofInt n = v) (hq : pc + 1 = q) (kk : EvF G d M ly pl h0 rv f q lv (.int v :: rest) s) : EvF G d M ly pl h0 rv f pc lv (rest) s := fun H r s' hf => by subst hq; exact ev_iconst hdg hv (kk H r s' hf)
theorem ef_bipush {q : Nat} {n : Int} {v : Int32} (hdg : decode (mbM M) pc = .ok (.bipush n, 2)) (hv : (Int8.ofInt n).toInt32 = v) (hq : pc + 2 = q) (kk : EvF G d M ly pl h0 rv f q lv (.int v :: rest) s) : EvF G d M ly pl h0 rv f pc lv (rest) s := fun H r s' hf => by subst hq; exact ev_bipush hdg hv (kk H r s' hf)
theorem ef_sipush {q : Nat} {n : Int} {v : Int32} (hdg : decode (mbM M) pc = .ok (.sipush n, 3)) (hv : (Int16.ofInt n).toInt32 = v) (hq : pc + 3 = q) (kk : EvF G d M ly pl h0 rv f q lv (.int v :: rest) s) : EvF G d M ly pl h0 rv f pc lv (rest) s := fun H r s' hf => by subst hq; exact ev_sipush hdg hv (kk H r s' hf)
theorem ef_lconst {q : Nat} {n : Fin 2} {v : Int64} (hdg : decode (mbM M) pc = .ok (.lconst n, 1)) (hv : Int64.ofNat (n : Nat) = v) (hq : pc + 1 = q) (kk : EvF G d M ly pl h0 rv f q lv (.long v :: rest) s) : EvF G d M ly pl h0 rv f pc lv (rest) s := fun H r s' hf => by subst hq; exact ev_lconst hdg hv (kk H r s' hf)
theorem ef_iadd {q : Nat} {x y : Int32} (hdg : decode (mbM M) pc = .ok (.iadd, 1)) (hq : pc + 1 = q) (kk : EvF G d M ly pl h0 rv f q lv (.int (x + y) :: rest) s) : EvF G d M ly pl h0 rv f pc lv (.int y :: .int x :: rest) s := fun H r s' hf => by subst hq; exact ev_iadd hdg (kk H r s' hf)
theorem ef_isub {q : Nat} {x y : Int32} (hdg : decode (mbM M) pc = .ok (.isub, 1)) (hq : pc + 1 = q) (kk : EvF G d M ly pl h0 rv f q lv (.int (x - y) :: rest) s) : EvF G d M ly pl h0 rv f pc lv (.int y :: .int x :: rest) s := fun H r s' hf => by subst hq; exact ev_isub hdg (kk H r s' hf)
theorem ef_imul {q : Nat} {x y : Int32} (hdg : decode (mbM M) pc = .ok (.imul, 1)) (hq : pc + 1 = q) (kk : EvF G d M ly pl h0 rv f q lv (.int (x * y) :: rest) s) : EvF G d M ly pl h0 rv f pc lv (.int y :: .int x :: rest) s := fun H r s' hf => by subst hq; exact ev_imul hdg (kk H r s' hf)
theorem ef_idiv {q : Nat} {x y : Int32} (hdg : decode (mbM M) pc = .ok (.idiv, 1)) (hne : ¬ y = 0) (hq : pc + 1 = q) (kk : EvF G d M ly pl h0 rv f q lv (.int (x / y) :: rest) s) : EvF G d M ly pl h0 rv f pc lv (.int y :: .int x :: rest) s := fun H r s' hf => by subst hq; exact ev_idiv hdg hne (kk H r s' hf)
theorem ef_irem {q : Nat} {x y : Int32} (hdg : decode (mbM M) pc = .ok (.irem, 1)) (hne : ¬ y = 0) (hq : pc + 1 = q) (kk : EvF G d M ly pl h0 rv f q lv (.int (x - x / y * y) :: rest) s) : EvF G d M ly pl h0 rv f pc lv (.int y :: .int x :: rest) s := fun H r s' hf => by subst hq; exact ev_irem hdg hne (kk H r s' hf)
theorem ef_ineg {q : Nat} {x : Int32} (hdg : decode (mbM M) pc = .ok (.ineg, 1)) (hq : pc + 1 = q) (kk : EvF G d M ly pl h0 rv f q lv (.int (-x) :: rest) s) : EvF G d M ly pl h0 rv f pc lv (.int x :: rest) s := fun H r s' hf => by subst hq; exact ev_ineg hdg (kk H r s' hf)
theorem ef_iand {q : Nat} {x y : Int32} (hdg : decode (mbM M) pc = .ok (.iand, 1)) (hq : pc + 1 = q) (kk : EvF G d M ly pl h0 rv f q lv (.int (x &&& y) :: rest) s) : EvF G d M ly pl h0 rv f pc lv (.int y :: .int x :: rest) s := fun H r s' hf => by subst hq; exact ev_iand hdg (kk H r s' hf)
theorem ef_ior {q : Nat} {x y : Int32} (hdg : decode (mbM M) pc = .ok (.ior, 1)) (hq : pc + 1 = q) (kk : EvF G d M ly pl h0 rv f q lv (.int (x ||| y) :: rest) s) : EvF G d M ly pl h0 rv f pc lv (.int y :: .int x :: rest) s := fun H r s' hf => by subst hq; exact ev_ior hdg (kk H r s' hf)
theorem ef_ixor {q : Nat} {x y : Int32} (hdg : decode (mbM M) pc = .ok (.ixor, 1)) (hq : pc + 1 = q) (kk : EvF G d M ly pl h0 rv f q lv (.int (x ^^^ y) :: rest) s) : EvF G d M ly pl h0 rv f pc lv (.int y :: .int x :: rest) s := fun H r s' hf => by subst hq; exact ev_ixor hdg (kk H r s' hf)
theorem ef_ishl {q : Nat} {x y : Int32} (hdg : decode (mbM M) pc = .ok (.ishl, 1)) (hq : pc + 1 = q) (kk : EvF G d M ly pl h0 rv f q lv (.int (x <<< (y &&& 31)) :: rest) s) : EvF G d M ly pl h0 rv f pc lv (.int y :: .int x :: rest) s := fun H r s' hf => by subst hq; exact ev_ishl hdg (kk H r s' hf)
theorem ef_ishr {q : Nat} {x y : Int32} (hdg : decode (mbM M) pc = .ok (.ishr, 1)) (hq : pc + 1 = q) (kk : EvF G d M ly pl h0 rv f q lv (.int (x >>> (y &&& 31)) :: rest) s) : EvF G d M ly pl h0 rv f pc lv (.int y :: .int x :: rest) s := fun H r s' hf => by subst hq; exact ev_ishr hdg (kk H r s' hf)
theorem ef_iushr {q : Nat} {x y v : Int32} (hdg : decode (mbM M) pc = .ok (.iushr, 1)) (hv : (x.toUInt32 >>> (y.toUInt32 &&& Int32.toUInt32 31)).toInt32 = v) (hq : pc + 1 = q) (kk : EvF G d M ly pl h0 rv f q lv (.int v :: rest) s) : EvF G d M ly pl h0 rv f pc lv (.int y :: .int x :: rest) s := fun H r s' hf => by subst hq; exact ev_iushr hdg hv (kk H r s' hf)
theorem ef_ladd {q : Nat} {x y : Int64} (hdg : decode (mbM M) pc = .ok (.ladd, 1)) (hq : pc + 1 = q) (kk : EvF G d M ly pl h0 rv f q lv (.long (x + y) :: rest) s) : EvF G d M ly pl h0 rv f pc lv (.long y :: .long x :: rest) s := fun H r s' hf => by subst hq; exact ev_ladd hdg (kk H r s' hf)
theorem ef_lsub {q : Nat} {x y : Int64} (hdg : decode (mbM M) pc = .ok (.lsub, 1)) (hq : pc + 1 = q) (kk : EvF G d M ly pl h0 rv f q lv (.long (x - y) :: rest) s) : EvF G d M ly pl h0 rv f pc lv (.long y :: .long x :: rest) s := fun H r s' hf => by subst hq; exact ev_lsub hdg (kk H r s' hf)
theorem ef_lmul {q : Nat} {x y : Int64} (hdg : decode (mbM M) pc = .ok (.lmul, 1)) (hq : pc + 1 = q) (kk : EvF G d M ly pl h0 rv f q lv (.long (x * y) :: rest) s) : EvF G d M ly pl h0 rv f pc lv (.long y :: .long x :: rest) s := fun H r s' hf => by subst hq; exact ev_lmul hdg (kk H r s' hf)
theorem ef_land {q : Nat} {x y : Int64} (hdg : decode (mbM M) pc = .ok (.land, 1)) (hq : pc + 1 = q) (kk : EvF G d M ly pl h0 rv f q lv (.long (x &&& y) :: rest) s) : EvF G d M ly pl h0 rv f pc lv (.long y :: .long x :: rest) s := fun H r s' hf => by subst hq; exact ev_land hdg (kk H r s' hf)
theorem ef_lor {q : Nat} {x y : Int64} (hdg : decode (mbM M) pc = .ok (.lor, 1)) (hq : pc + 1 = q) (kk : EvF G d M ly pl h0 rv f q lv (.long (x ||| y) :: rest) s) : EvF G d M ly pl h0 rv f pc lv (.long y :: .long x :: rest) s := fun H r s' hf => by subst hq; exact ev_lor hdg (kk H r s' hf)
theorem ef_lshl {q : Nat} {x v : Int64} {y : Int32} (hdg : decode (mbM M) pc = .ok (.lshl, 1)) (hv : x <<< (y.toInt64 &&& 63) = v) (hq : pc + 1 = q) (kk : EvF G d M ly pl h0 rv f q lv (.long v :: rest) s) : EvF G d M ly pl h0 rv f pc lv (.int y :: .long x :: rest) s := fun H r s' hf => by subst hq; exact ev_lshl hdg hv (kk H r s' hf)
theorem ef_i2l {q : Nat} {x : Int32} {v : Int64} (hdg : decode (mbM M) pc = .ok (.i2l, 1)) (hv : x.toInt64 = v) (hq : pc + 1 = q) (kk : EvF G d M ly pl h0 rv f q lv (.long v :: rest) s) : EvF G d M ly pl h0 rv f pc lv (.int x :: rest) s := fun H r s' hf => by subst hq; exact ev_i2l hdg hv (kk H r s' hf)
theorem ef_l2i {q : Nat} {x : Int64} {v : Int32} (hdg : decode (mbM M) pc = .ok (.l2i, 1)) (hv : x.toInt32 = v) (hq : pc + 1 = q) (kk : EvF G d M ly pl h0 rv f q lv (.int v :: rest) s) : EvF G d M ly pl h0 rv f pc lv (.long x :: rest) s := fun H r s' hf => by subst hq; exact ev_l2i hdg hv (kk H r s' hf)
theorem ef_i2b {q : Nat} {x : Int32} {v : Int32} (hdg : decode (mbM M) pc = .ok (.i2b, 1)) (hv : x.toInt8.toInt32 = v) (hq : pc + 1 = q) (kk : EvF G d M ly pl h0 rv f q lv (.int v :: rest) s) : EvF G d M ly pl h0 rv f pc lv (.int x :: rest) s := fun H r s' hf => by subst hq; exact ev_i2b hdg hv (kk H r s' hf)
theorem ef_i2s {q : Nat} {x : Int32} {v : Int32} (hdg : decode (mbM M) pc = .ok (.i2s, 1)) (hv : x.toInt16.toInt32 = v) (hq : pc + 1 = q) (kk : EvF G d M ly pl h0 rv f q lv (.int v :: rest) s) : EvF G d M ly pl h0 rv f pc lv (.int x :: rest) s := fun H r s' hf => by subst hq; exact ev_i2s hdg hv (kk H r s' hf)
theorem ef_dup {q : Nat} {va : Value} (hdg : decode (mbM M) pc = .ok (.dup, 1)) (hva : va.category = 1) (hq : pc + 1 = q) (kk : EvF G d M ly pl h0 rv f q lv (va :: va :: rest) s) : EvF G d M ly pl h0 rv f pc lv (va :: rest) s := fun H r s' hf => by subst hq; exact ev_dup hdg hva (kk H r s' hf)
theorem ef_pop {q : Nat} {va : Value} (hdg : decode (mbM M) pc = .ok (.pop, 1)) (hva : va.category = 1) (hq : pc + 1 = q) (kk : EvF G d M ly pl h0 rv f q lv (rest) s) : EvF G d M ly pl h0 rv f pc lv (va :: rest) s := fun H r s' hf => by subst hq; exact ev_pop hdg hva (kk H r s' hf)
theorem ef_dup_x1 {q : Nat} {va vb : Value} (hdg : decode (mbM M) pc = .ok (.dup_x1, 1)) (hva : va.category = 1) (hvb : vb.category = 1) (hq : pc + 1 = q) (kk : EvF G d M ly pl h0 rv f q lv (va :: vb :: va :: rest) s) : EvF G d M ly pl h0 rv f pc lv (va :: vb :: rest) s := fun H r s' hf => by subst hq; exact ev_dup_x1 hdg hva hvb (kk H r s' hf)
theorem ef_dup_x2 {q : Nat} {va vb vd : Value} (hdg : decode (mbM M) pc = .ok (.dup_x2, 1)) (hva : va.category = 1) (hvb : vb.category = 1) (hvd : vd.category = 1) (hq : pc + 1 = q) (kk : EvF G d M ly pl h0 rv f q lv (va :: vb :: vd :: va :: rest) s) : EvF G d M ly pl h0 rv f pc lv (va :: vb :: vd :: rest) s := fun H r s' hf => by subst hq; exact ev_dup_x2 hdg hva hvb hvd (kk H r s' hf)
theorem ef_dup2_11 {q : Nat} {va vb : Value} (hdg : decode (mbM M) pc = .ok (.dup2, 1)) (hva : va.category = 1) (hvb : vb.category = 1) (hq : pc + 1 = q) (kk : EvF G d M ly pl h0 rv f q lv (va :: vb :: va :: vb :: rest) s) : EvF G d M ly pl h0 rv f pc lv (va :: vb :: rest) s := fun H r s' hf => by subst hq; exact ev_dup2_11 hdg hva hvb (kk H r s' hf)
theorem ef_goto {off : Int} {tgt : Nat} (hdg : decode (mbM M) pc = .ok (.goto off, 3)) (ht : (pc : Int) + off = (tgt : Int)) (kk : EvF G d M ly pl h0 rv f tgt lv rest s) : EvF G d M ly pl h0 rv f pc lv rest s := fun H r s' hf => ev_goto hdg ht (kk H r s' hf)
theorem ef_iload_n {q : Nat} {k : Fin 4} {i : Nat} {x : Int32} (j : Nat) (hdg : decode (mbM M) pc = .ok (.iload_n k, 1)) (hi : (k : Nat) = i) (hj : lv[j]? = some (i, .int x)) (hq : pc + 1 = q) (kk : EvF G d M ly pl h0 rv f q lv (.int x :: rest) s) : EvF G d M ly pl h0 rv f pc lv rest s := fun H r s' hf => by subst hq; exact ev_iload_n j hdg hi hj (kk H r s' hf)
theorem ef_iload {q : Nat} {i : Nat} {x : Int32} (j : Nat) (hdg : decode (mbM M) pc = .ok (.iload i, 2)) (hj : lv[j]? = some (i, .int x)) (hq : pc + 2 = q) (kk : EvF G d M ly pl h0 rv f q lv (.int x :: rest) s) : EvF G d M ly pl h0 rv f pc lv rest s := fun H r s' hf => by subst hq; exact ev_iload j hdg hj (kk H r s' hf)
theorem ef_lload_n {q : Nat} {k : Fin 4} {i : Nat} {x : Int64} (j : Nat) (hdg : decode (mbM M) pc = .ok (.lload_n k, 1)) (hi : (k : Nat) = i) (hj : lv[j]? = some (i, .long x)) (hq : pc + 1 = q) (kk : EvF G d M ly pl h0 rv f q lv (.long x :: rest) s) : EvF G d M ly pl h0 rv f pc lv rest s := fun H r s' hf => by subst hq; exact ev_lload_n j hdg hi hj (kk H r s' hf)
theorem ef_lload {q : Nat} {i : Nat} {x : Int64} (j : Nat) (hdg : decode (mbM M) pc = .ok (.lload i, 2)) (hj : lv[j]? = some (i, .long x)) (hq : pc + 2 = q) (kk : EvF G d M ly pl h0 rv f q lv (.long x :: rest) s) : EvF G d M ly pl h0 rv f pc lv rest s := fun H r s' hf => by subst hq; exact ev_lload j hdg hj (kk H r s' hf)
theorem ef_aload_n {q : Nat} {k : Fin 4} {i x : Nat} (j : Nat) (hdg : decode (mbM M) pc = .ok (.aload_n k, 1)) (hi : (k : Nat) = i) (hj : lv[j]? = some (i, .ref x)) (hq : pc + 1 = q) (kk : EvF G d M ly pl h0 rv f q lv (.ref x :: rest) s) : EvF G d M ly pl h0 rv f pc lv rest s := fun H r s' hf => by subst hq; exact ev_aload_n j hdg hi hj (kk H r s' hf)
theorem ef_aload {q : Nat} {i x : Nat} (j : Nat) (hdg : decode (mbM M) pc = .ok (.aload i, 2)) (hj : lv[j]? = some (i, .ref x)) (hq : pc + 2 = q) (kk : EvF G d M ly pl h0 rv f q lv (.ref x :: rest) s) : EvF G d M ly pl h0 rv f pc lv rest s := fun H r s' hf => by subst hq; exact ev_aload j hdg hj (kk H r s' hf)
theorem ef_istore_n {q : Nat} {k : Fin 4} {i : Nat} {x : Int32} {lv' : List (Nat × Value)} (hdg : decode (mbM M) pc = .ok (.istore_n k, 1)) (hi : (k : Nat) = i) (hn : i < mlM M) (hl' : (i, Value.int x) :: lv.filter (fun q => !(q.1 == i) && !(q.1 + 1 == i && q.2.category == 2)) = lv') (hq : pc + 1 = q) (kk : EvF G d M ly pl h0 rv f q lv' rest s) : EvF G d M ly pl h0 rv f pc lv (.int x :: rest) s := fun H r s' hf => by subst hq; exact ev_istore_n hdg hi hn hl' (kk H r s' hf)
theorem ef_istore {q : Nat} {i : Nat} {x : Int32} {lv' : List (Nat × Value)} (hdg : decode (mbM M) pc = .ok (.istore i, 2)) (hn : i < mlM M) (hl' : (i, Value.int x) :: lv.filter (fun q => !(q.1 == i) && !(q.1 + 1 == i && q.2.category == 2)) = lv') (hq : pc + 2 = q) (kk : EvF G d M ly pl h0 rv f q lv' rest s) : EvF G d M ly pl h0 rv f pc lv (.int x :: rest) s := fun H r s' hf => by subst hq; exact ev_istore hdg hn hl' (kk H r s' hf)
theorem ef_lstore_n {q : Nat} {k : Fin 4} {i : Nat} {x : Int64} {lv' : List (Nat × Value)} (hdg : decode (mbM M) pc = .ok (.lstore_n k, 1)) (hi : (k : Nat) = i) (hn : i + 1 < mlM M) (hl' : (i, Value.long x) :: lv.filter (fun q => !(q.1 == i) && (!(q.1 == i + 1) && !(q.1 + 1 == i && q.2.category == 2))) = lv') (hq : pc + 1 = q) (kk : EvF G d M ly pl h0 rv f q lv' rest s) : EvF G d M ly pl h0 rv f pc lv (.long x :: rest) s := fun H r s' hf => by subst hq; exact ev_lstore_n hdg hi hn hl' (kk H r s' hf)
theorem ef_lstore {q : Nat} {i : Nat} {x : Int64} {lv' : List (Nat × Value)} (hdg : decode (mbM M) pc = .ok (.lstore i, 2)) (hn : i + 1 < mlM M) (hl' : (i, Value.long x) :: lv.filter (fun q => !(q.1 == i) && (!(q.1 == i + 1) && !(q.1 + 1 == i && q.2.category == 2))) = lv') (hq : pc + 2 = q) (kk : EvF G d M ly pl h0 rv f q lv' rest s) : EvF G d M ly pl h0 rv f pc lv (.long x :: rest) s := fun H r s' hf => by subst hq; exact ev_lstore hdg hn hl' (kk H r s' hf)
theorem ef_astore_n {q : Nat} {k : Fin 4} {i x : Nat} {lv' : List (Nat × Value)} (hdg : decode (mbM M) pc = .ok (.astore_n k, 1)) (hi : (k : Nat) = i) (hn : i < mlM M) (hl' : (i, Value.ref x) :: lv.filter (fun q => !(q.1 == i) && !(q.1 + 1 == i && q.2.category == 2)) = lv') (hq : pc + 1 = q) (kk : EvF G d M ly pl h0 rv f q lv' rest s) : EvF G d M ly pl h0 rv f pc lv (.ref x :: rest) s := fun H r s' hf => by subst hq; exact ev_astore_n hdg hi hn hl' (kk H r s' hf)
theorem ef_astore {q : Nat} {i x : Nat} {lv' : List (Nat × Value)} (hdg : decode (mbM M) pc = .ok (.astore i, 2)) (hn : i < mlM M) (hl' : (i, Value.ref x) :: lv.filter (fun q => !(q.1 == i) && !(q.1 + 1 == i && q.2.category == 2)) = lv') (hq : pc + 2 = q) (kk : EvF G d M ly pl h0 rv f q lv' rest s) : EvF G d M ly pl h0 rv f pc lv (.ref x :: rest) s := fun H r s' hf => by subst hq; exact ev_astore hdg hn hl' (kk H r s' hf)
theorem ef_iinc {q : Nat} {i : Nat} {n : Int} {x v : Int32} {lv' : List (Nat × Value)} (j : Nat) (hdg : decode (mbM M) pc = .ok (.iinc i n, 3)) (hj : lv[j]? = some (i, .int x)) (hv : x + Int32.ofInt n = v) (hn : i < mlM M) (hl' : (i, Value.int v) :: lv.filter (fun q => !(q.1 == i) && !(q.1 + 1 == i && q.2.category == 2)) = lv') (hq : pc + 3 = q) (kk : EvF G d M ly pl h0 rv f q lv' rest s) : EvF G d M ly pl h0 rv f pc lv rest s := fun H r s' hf => by subst hq; exact ev_iinc j hdg hj hv hn hl' (kk H r s' hf)
theorem ef_sub {lv' : List (Nat × Value)} (js : List Nat) (hj : lv_pick lv js = lv') (kk : EvF G d M ly pl h0 rv f pc lv' rest s) : EvF G d M ly pl h0 rv f pc lv rest s := fun H r s' hf => ev_sub js hj (kk H r s' hf)
theorem ef_lcmp {q : Nat} {x y : Int64} (hdg : decode (mbM M) pc = .ok (.lcmp, 1)) (hq : pc + 1 = q) (kk : EvF G d M ly pl h0 rv f q lv (.int (lg_cmp x y) :: rest) s) : EvF G d M ly pl h0 rv f pc lv (.long y :: .long x :: rest) s := fun H r s' hf => by subst hq; exact ev_lcmp hdg (kk H r s' hf)
theorem ef_ldc {q : Nat} {index : Nat} {v : Int32} (hc : Cond.constant (moM M) index v ∈ TT) (hdg : decode (mbM M) pc = .ok (.ldc index, 2)) (hq : pc + 2 = q) (kk : EvF G d M ly pl h0 rv f q lv (.int v :: rest) s) : EvF G d M ly pl h0 rv f pc lv rest s := fun H r s' hf => by subst hq; exact ev_ldc hc hdg (kk H r s' hf)
theorem ef_ldc2 {q : Nat} {index : Nat} {v : Int64} (hc : Cond.constantLong (moM M) index v ∈ TT) (hdg : decode (mbM M) pc = .ok (.ldc2_w index, 3)) (hq : pc + 3 = q) (kk : EvF G d M ly pl h0 rv f q lv (.long v :: rest) s) : EvF G d M ly pl h0 rv f pc lv rest s := fun H r s' hf => by subst hq; exact ev_ldc2 hc hdg (kk H r s' hf)
theorem ef_ldcw {q : Nat} {index : Nat} {v : Int32} (hc : Cond.constant (moM M) index v ∈ TT) (hdg : decode (mbM M) pc = .ok (.ldc_w index, 3)) (hq : pc + 3 = q) (kk : EvF G d M ly pl h0 rv f q lv (.int v :: rest) s) : EvF G d M ly pl h0 rv f pc lv rest s := fun H r s' hf => by subst hq; exact ev_ldcw hc hdg (kk H r s' hf)
theorem ef_ldcS {q : Nat} {index i : Nat} (hi : i < 14) (ho : strOwn i = moM M) (hx : strIdx i = index) (hdg : decode (mbM M) pc = .ok (.ldc index, 2)) (hq : pc + 2 = q) (kk : EvF G d M ly pl h0 rv f q lv (.ref (G.2.2.2.1 (i % 7)) :: rest) s) : EvF G d M ly pl h0 rv f pc lv rest s := fun H r s' hf => by subst hq; exact ev_ldcS hi ho hx hdg (kk H r s' hf)
end EFL
