/-! THE LOCAL LAYER EvF: a method sees places 0 .. n-1, at addresses pl 0 .. pl (n-1); its state is two functions of (place, index): ints and longs. -/
abbrev SS : Type := (Nat → Nat → Int32) × (Nat → Nat → Int64)
/-- S, but at the addresses pl 0 .. pl (n-1) what C holds at the places -/
def mrg {α : Type} (pl : Nat → Nat) : Nat → (Nat → Nat → α) → (Nat → Nat → α) → Nat → Nat → α
  | 0, S, _ => S
  | n + 1, S, C => fun q => if q = pl n then C n else mrg pl n S C q
def injN (pl : Nat → Nat) (n : Nat) : Prop := ∀ i j : Nat, i < n → j < n → pl i = pl j → i = j
theorem mrg_at {α : Type} {pl : Nat → Nat} {S C : Nat → Nat → α} : ∀ {n : Nat}, injN pl n → ∀ {k : Nat}, k < n → mrg pl n S C (pl k) = C k
  | 0, _, _, hk => absurd hk (Nat.not_lt_zero _)
  | n + 1, hi, k, hk => by
    show (if pl k = pl n then C n else mrg pl n S C (pl k)) = C k
    by_cases z : k = n
    · subst z
      rw [if_pos rfl]
    · rw [if_neg (fun e => z (hi k n hk (Nat.lt_succ_self n) e))]
      exact mrg_at (fun i j h1 h2 e => hi i j (Nat.lt_succ_of_lt h1) (Nat.lt_succ_of_lt h2) e) (by omega)
theorem mrg_off {α : Type} {pl : Nat → Nat} {S C : Nat → Nat → α} {q : Nat} : ∀ {n : Nat}, (∀ k : Nat, k < n → q ≠ pl k) → mrg pl n S C q = S q
  | 0, _ => rfl
  | n + 1, h => by
    show (if q = pl n then C n else mrg pl n S C q) = S q
    rw [if_neg (h n (Nat.lt_succ_self n))]
    exact mrg_off (fun k hk => h k (Nat.lt_succ_of_lt hk))
theorem mrg_cases {pl : Nat → Nat} (n q : Nat) : (∃ k : Nat, k < n ∧ q = pl k) ∨ (∀ k : Nat, k < n → q ≠ pl k) := by
  by_cases h : ∃ k : Nat, k < n ∧ q = pl k
  · exact Or.inl h
  · exact Or.inr (fun k hk e => h ⟨k, hk, e⟩)
theorem mrg_set {α : Type} {pl : Nat → Nat} {S C : Nat → Nat → α} {n k i : Nat} {v : α} (hi : injN pl n) (hk : k < n) : upd2 (mrg pl n S C) (pl k) i v = mrg pl n S (upd2 C k i v) := by
  funext q
  rcases mrg_cases (pl := pl) n q with ⟨j, hj, rfl⟩ | hq
  · rw [mrg_at hi hj]
    by_cases z : j = k
    · subst z
      funext w
      rw [upd2_same, upd2_same, mrg_at hi hj]
    · rw [upd2_ne (fun e => z (hi j k hj hk e)), upd2_ne z, mrg_at hi hj]
  · rw [mrg_off hq, upd2_ne (hq k hk), mrg_off hq]
theorem mrg_id {α : Type} {pl : Nat → Nat} {S : Nat → Nat → α} {n : Nat} (hi : injN pl n) : mrg pl n S (fun k => S (pl k)) = S := by
  funext q
  rcases mrg_cases (pl := pl) n q with ⟨j, hj, rfl⟩ | hq
  · rw [mrg_at hi hj]
  · rw [mrg_off hq]
theorem mrg_comp {α : Type} {pl π : Nat → Nat} {S C D : Nat → Nat → α} {n n' : Nat} (hi : injN pl n) (hp : injN π n') (hn : ∀ k : Nat, k < n' → π k < n) : mrg (fun k => pl (π k)) n' (mrg pl n S C) D = mrg pl n S (mrg π n' C D) := by
  funext q
  have hip : injN (fun k => pl (π k)) n' := fun i j h1 h2 e => hp i j h1 h2 (hi _ _ (hn i h1) (hn j h2) e)
  rcases mrg_cases (pl := fun k => pl (π k)) n' q with ⟨j, hj, rfl⟩ | hq
  · rw [mrg_at hip hj]
    show D j = mrg pl n S (mrg π n' C D) (pl (π j))
    rw [mrg_at hi (hn j hj), mrg_at hp hj]
  · rw [mrg_off hq]
    rcases mrg_cases (pl := pl) n q with ⟨j, hj, rfl⟩ | hq2
    · rw [mrg_at hi hj, mrg_at hi hj, mrg_off (fun k hk e => hq k hk (by rw [e]))]
    · rw [mrg_off hq2, mrg_off hq2]
theorem mrg_congr {α : Type} {pl : Nat → Nat} {S C D : Nat → Nat → α} {n : Nat} (hi : injN pl n) (h : ∀ k : Nat, k < n → C k = D k) : mrg pl n S C = mrg pl n S D := by
  funext q
  rcases mrg_cases (pl := pl) n q with ⟨j, hj, rfl⟩ | hq
  · rw [mrg_at hi hj, mrg_at hi hj, h j hj]
  · rw [mrg_off hq, mrg_off hq]
/-- a layout: of each place its shape, and which place each of its references names -/
abbrev LY : Type := List ((Nat × Nat) × List (Nat × Nat))
def LayOK (ly : LY) (pl : Nat → Nat) (h : PH) : Prop := injN pl ly.length ∧ ∀ (k : Nat) (e : (Nat × Nat) × List (Nat × Nat)), ly[k]? = some e → h.2.1 (pl k) = some e.1 ∧ ∀ j t : Nat, e.2.lookup j = some t → h.2.2.1 (pl k) j = .ref (pl t)
def layMap (ly ly' : LY) (π : Nat → Nat) : Bool :=
  (List.range ly'.length).all (fun k => match ly[π k]?, ly'[k]? with
    | some e, some e' => decide (e.1 = e'.1) && e'.2.all (fun q => decide (e.2.lookup q.1 = some (π q.2)))
    | _, _ => false) &&
  (List.range ly'.length).all (fun i => decide (π i < ly.length) && (List.range ly'.length).all (fun j => decide (i = j) || decide (π i ≠ π j)))
theorem lookup_mem {l : List (Nat × Nat)} {j t : Nat} (h : l.lookup j = some t) : (j, t) ∈ l := by
  induction l with
  | nil => cases h
  | cons a l ih =>
    obtain ⟨x, y⟩ := a
    rw [List.lookup_cons] at h
    by_cases z : j == x
    · simp only [z] at h
      have : j = x := by simpa using z
      subst this
      cases h
      exact List.mem_cons_self
    · simp only [z] at h
      exact List.mem_cons_of_mem _ (ih h)
theorem layMap_spec {ly ly' : LY} {π : Nat → Nat} (h : layMap ly ly' π = true) : injN π ly'.length ∧ (∀ k : Nat, k < ly'.length → π k < ly.length) ∧ ∀ (k : Nat) (e' : (Nat × Nat) × List (Nat × Nat)), ly'[k]? = some e' → ∃ e, ly[π k]? = some e ∧ e.1 = e'.1 ∧ ∀ j t : Nat, e'.2.lookup j = some t → e.2.lookup j = some (π t) := by
  unfold layMap at h
  simp only [Bool.and_eq_true, List.all_eq_true, List.mem_range] at h
  obtain ⟨h1, h2⟩ := h
  refine ⟨fun i j hi hj e => ?_, fun k hk => by simpa using (h2 k hk).1, fun k e' hk => ?_⟩
  · have := (h2 i hi).2 j hj
    simp only [Bool.or_eq_true, decide_eq_true_eq] at this
    rcases this with z | z
    · exact z
    · exact absurd e z
  · have hl : k < ly'.length := (List.getElem?_eq_some_iff.mp hk).1
    have h3 := h1 k hl
    rw [hk] at h3
    cases hp : ly[π k]? with
    | none => rw [hp] at h3; cases h3
    | some e =>
      rw [hp] at h3
      simp only [Bool.and_eq_true, decide_eq_true_eq, List.all_eq_true] at h3
      exact ⟨e, rfl, h3.1, fun j t ht => h3.2 (j, t) (lookup_mem ht)⟩
theorem LayOK.sub {ly ly' : LY} {pl : Nat → Nat} {h : PH} {π : Nat → Nat} (H : LayOK ly pl h) (hm : layMap ly ly' π = true) : LayOK ly' (fun k => pl (π k)) h := by
  obtain ⟨m1, m2, m3⟩ := layMap_spec hm
  refine ⟨fun i j hi hj e => m1 i j hi hj (H.1 _ _ (m2 i hi) (m2 j hj) e), fun k e' hk => ?_⟩
  obtain ⟨e, g1, g2, g3⟩ := m3 k e' hk
  obtain ⟨w1, w2⟩ := H.2 _ e g1
  exact ⟨by rw [w1, g2], fun j t ht => w2 j (π t) (g3 j t ht)⟩
/-- the heap h0, but at the places of pl what s holds -/
def LH (pl : Nat → Nat) (n : Nat) (h0 : PH) (s : SS) : PH := (h0.1, h0.2.1, h0.2.2.1, mrg pl n h0.2.2.2.1 s.1, mrg pl n h0.2.2.2.2 s.2)
def selS (π : Nat → Nat) (s : SS) : SS := (fun k => s.1 (π k), fun k => s.2 (π k))
def mrgS (π : Nat → Nat) (n : Nat) (s t : SS) : SS := (mrg π n s.1 t.1, mrg π n s.2 t.2)
def wrI (s : SS) (k i : Nat) (v : Int32) : SS := (upd2 s.1 k i v, s.2)
def wrL (s : SS) (k i : Nat) (v : Int64) : SS := (s.1, upd2 s.2 k i v)
theorem LH_id {pl : Nat → Nat} {n : Nat} {h : PH} (hi : injN pl n) : LH pl n h (fun k => h.2.2.2.1 (pl k), fun k => h.2.2.2.2 (pl k)) = h := by
  unfold LH
  simp only [mrg_id hi]
theorem LH_wrI {pl : Nat → Nat} {n : Nat} {h0 : PH} {s : SS} {k i : Nat} {v : Int32} (hi : injN pl n) (hk : k < n) : LH pl n h0 (wrI s k i v) = (h0.1, h0.2.1, h0.2.2.1, upd2 (LH pl n h0 s).2.2.2.1 (pl k) i v, (LH pl n h0 s).2.2.2.2) := by
  unfold LH wrI
  simp only [mrg_set hi hk]
theorem LH_wrL {pl : Nat → Nat} {n : Nat} {h0 : PH} {s : SS} {k i : Nat} {v : Int64} (hi : injN pl n) (hk : k < n) : LH pl n h0 (wrL s k i v) = (h0.1, h0.2.1, h0.2.2.1, (LH pl n h0 s).2.2.2.1, upd2 (LH pl n h0 s).2.2.2.2 (pl k) i v) := by
  unfold LH wrL
  simp only [mrg_set hi hk]
theorem LH_call {pl π : Nat → Nat} {n n' : Nat} {h0 : PH} {s t : SS} (hi : injN pl n) (hp : injN π n') (hn : ∀ k : Nat, k < n' → π k < n) : LH (fun k => pl (π k)) n' (LH pl n h0 s) t = LH pl n h0 (mrgS π n' s t) := by
  unfold LH mrgS
  simp only [mrg_comp hi hp hn]
theorem LH_sel {pl π : Nat → Nat} {n n' : Nat} {h0 : PH} {s : SS} (hi : injN pl n) (hp : injN π n') (hn : ∀ k : Nat, k < n' → π k < n) : LH (fun k => pl (π k)) n' (LH pl n h0 s) (selS π s) = LH pl n h0 s := by
  have hip : injN (fun k => pl (π k)) n' := fun i j h1 h2 e => hp i j h1 h2 (hi _ _ (hn i h1) (hn j h2) e)
  have e1 := LH_id (n := n') (h := LH pl n h0 s) hip
  refine Eq.trans ?_ e1
  unfold LH selS
  congr 4
  · exact mrg_congr hip (fun k hk => (mrg_at hi (hn k hk)).symm)
  · exact mrg_congr hip (fun k hk => (mrg_at hi (hn k hk)).symm)
def Qf {ρ : Type} (rv : ρ → Option Value) (pl : Nat → Nat) (n : Nat) (h0 : PH) (r : ρ) (s' : SS) : Option Value → PH → Prop := fun v h' => v = rv r ∧ h' = LH pl n h0 s'
/-- where f ends with r and s', the machine returns r and the heap holds s' -/
def EvF (G : GG) (d : Nat) (M : MI) (ly : LY) (pl : Nat → Nat) (h0 : PH) {ρ : Type} (rv : ρ → Option Value) (f : Option (ρ × SS)) (pc : Nat) (lv : List (Nat × Value)) (st : List Value) (s : SS) : Prop :=
  LayOK ly pl h0 → ∀ (r : ρ) (s' : SS), f = some (r, s') → Ev G d M 0 0 (Qf rv pl ly.length h0 r s') 0 0 pc lv st (LH pl ly.length h0 s)
/-- a method's contract by its function -/
def MtF (d : Nat) (M : MI) (ly : LY) {ρ : Type} (rv : ρ → Option Value) (av : (Nat → Nat) → List Value) (f : SS → Option (ρ × SS)) : Prop :=
  ∀ (pl : Nat → Nat) (h0 : PH), LayOK ly pl h0 → ∀ (s : SS) (r : ρ) (s' : SS), f s = some (r, s') → Mt d M 0 0 (av pl) (LH pl ly.length h0 s) (Qf rv pl ly.length h0 r s')
def rvU (_ : Unit) : Option Value := none
def rvI (x : Int32) : Option Value := some (.int x)
def rvL (x : Int64) : Option Value := some (.long x)
def rvZ (x : Int32) : Option Value := some (.int x)
theorem MtF.of {d : Nat} {M : MI} {ly : LY} {ρ : Type} {rv : ρ → Option Value} {av : (Nat → Nat) → List Value} {f : SS → Option (ρ × SS)} (hpl : plainName (myM M).cls = true) (ho : moM M = (myM M).cls) (hl : ∀ pl : Nat → Nat, (lg_sl (av pl)).length ≤ mlM M)
    (body : ∀ (G : GG) (pl : Nat → Nat) (h0 : PH) (s : SS), EvF G d M ly pl h0 rv (f s) 0 (lv_args 0 (av pl)) [] s) : MtF d M ly rv av f := by
  intro pl h0 hL s r s' hf
  exact Mt.of hpl ho (hl pl) (fun G => body G pl h0 s hL r s' hf)
section EVF
variable {G : GG} {d : Nat} {M : MI} {ly : LY} {pl : Nat → Nat} {h0 : PH} {ρ : Type} {rv : ρ → Option Value} {f : Option (ρ × SS)} {pc : Nat} {lv : List (Nat × Value)} {rest : List Value} {s : SS}
theorem LayOK.LH {s : SS} {n : Nat} (H : LayOK ly pl h0) : LayOK ly pl (LH pl n h0 s) := H
theorem LayOK.sh {k : Nat} {e : (Nat × Nat) × List (Nat × Nat)} (H : LayOK ly pl h0) (he : ly[k]? = some e) : h0.2.1 (pl k) = some e.1 := (H.2 k e he).1
theorem LayOK.lt {k : Nat} {e : (Nat × Nat) × List (Nat × Nat)} (he : ly[k]? = some e) : k < ly.length := (List.getElem?_eq_some_iff.mp he).1
theorem ef_getI {idx ci j k m0 : Nat} {rs : List (Nat × Nat)} {x : Int32} (he : ly[k]? = some ((ci, m0), rs)) (hF : FL M idx ci j) (hr : isRf (ftyG ci j) = false) (hx : s.1 k j = x) (hdg : decode (mbM M) pc = .ok (.getfield idx, 3)) (kk : EvF G d M ly pl h0 rv f (pc + 3) lv (.int x :: rest) s) : EvF G d M ly pl h0 rv f pc lv (.ref (pl k) :: rest) s := fun H r s' hf => by
  refine ev_getf (H.sh he) hF ?_ hdg (kk H r s' hf)
  unfold fvalG
  rw [if_neg (by rw [hr]; decide)]
  show Value.int (mrg pl ly.length h0.2.2.2.1 s.1 (pl k) j) = _
  rw [mrg_at H.1 (LayOK.lt he), hx]
theorem ef_getR {idx ci j k m0 t : Nat} {rs : List (Nat × Nat)} (he : ly[k]? = some ((ci, m0), rs)) (hF : FL M idx ci j) (hr : isRf (ftyG ci j) = true) (ht : rs.lookup j = some t) (hdg : decode (mbM M) pc = .ok (.getfield idx, 3)) (kk : EvF G d M ly pl h0 rv f (pc + 3) lv (.ref (pl t) :: rest) s) : EvF G d M ly pl h0 rv f pc lv (.ref (pl k) :: rest) s := fun H r s' hf => by
  refine ev_getf (H.sh he) hF ?_ hdg (kk H r s' hf)
  unfold fvalG
  rw [if_pos hr]
  exact (H.2 k _ he).2 j t ht
theorem ef_putI {idx ci j k m0 : Nat} {rs : List (Nat × Nat)} {x : Int32} (he : ly[k]? = some ((ci, m0), rs)) (hF : FL M idx ci j) (hfin : (TXG ci j).2.2.2 = false) (hty : ftyG ci j = .int) (hdg : decode (mbM M) pc = .ok (.putfield idx, 3)) (kk : EvF G d M ly pl h0 rv f (pc + 3) lv rest (wrI s k j x)) : EvF G d M ly pl h0 rv f pc lv (.int x :: .ref (pl k) :: rest) s := fun H r s' hf => by
  have h1 := kk H r s' hf
  rw [LH_wrI H.1 (LayOK.lt he)] at h1
  exact ev_putI (H.sh he) hF hfin (by rw [hty]; rfl) (by rw [hty]; rfl) (by rw [hty]; rfl) hdg h1
theorem ef_putZ {idx ci j k m0 : Nat} {rs : List (Nat × Nat)} {x : Int32} (he : ly[k]? = some ((ci, m0), rs)) (hF : FL M idx ci j) (hfin : (TXG ci j).2.2.2 = false) (hty : ftyG ci j = .boolean) (hn : narrow .boolean (.int x) = .int x) (hfit : fits .boolean (.int x) = true) (hdg : decode (mbM M) pc = .ok (.putfield idx, 3)) (kk : EvF G d M ly pl h0 rv f (pc + 3) lv rest (wrI s k j x)) : EvF G d M ly pl h0 rv f pc lv (.int x :: .ref (pl k) :: rest) s := fun H r s' hf => by
  have h1 := kk H r s' hf
  rw [LH_wrI H.1 (LayOK.lt he)] at h1
  exact ev_putI (H.sh he) hF hfin (by rw [hty]; rfl) (by rw [hty]; exact hn) (by rw [hty]; exact hfit) hdg h1
/-- an index is looked at: outside its row f is none -/
theorem ef_iaload {k n : Nat} {rs : List (Nat × Nat)} {i : Int32} (he : ly[k]? = some ((10, n), rs)) (hdg : decode (mbM M) pc = .ok (.iaload, 1)) (kk : vp_in i n → EvF G d M ly pl h0 rv f (pc + 1) lv (.int (s.1 k i.toNatClampNeg) :: rest) s) (hin : f ≠ none → vp_in i n) : EvF G d M ly pl h0 rv f pc lv (.int i :: .ref (pl k) :: rest) s := fun H r s' hf => by
  have hi := hin (by rw [hf]; exact fun z => by cases z)
  refine ev_iaload (H.sh he) hi hdg ?_
  have h1 := kk hi H r s' hf
  have e : (LH pl ly.length h0 s).2.2.2.1 (pl k) i.toNatClampNeg = s.1 k i.toNatClampNeg := by
    show mrg pl ly.length h0.2.2.2.1 s.1 (pl k) i.toNatClampNeg = _
    rw [mrg_at H.1 (LayOK.lt he)]
  rw [e]
  exact h1
theorem ef_laload {k n : Nat} {rs : List (Nat × Nat)} {i : Int32} (he : ly[k]? = some ((11, n), rs)) (hdg : decode (mbM M) pc = .ok (.laload, 1)) (kk : vp_in i n → EvF G d M ly pl h0 rv f (pc + 1) lv (.long (s.2 k i.toNatClampNeg) :: rest) s) (hin : f ≠ none → vp_in i n) : EvF G d M ly pl h0 rv f pc lv (.int i :: .ref (pl k) :: rest) s := fun H r s' hf => by
  have hi := hin (by rw [hf]; exact fun z => by cases z)
  refine ev_laload (H.sh he) hi hdg ?_
  have h1 := kk hi H r s' hf
  have e : (LH pl ly.length h0 s).2.2.2.2 (pl k) i.toNatClampNeg = s.2 k i.toNatClampNeg := by
    show mrg pl ly.length h0.2.2.2.2 s.2 (pl k) i.toNatClampNeg = _
    rw [mrg_at H.1 (LayOK.lt he)]
  rw [e]
  exact h1
theorem ef_aaload {k n t : Nat} {rs : List (Nat × Nat)} {tf : Nat → Nat} {i : Int32} (he : ly[k]? = some ((t, n), rs)) (h12 : 12 ≤ t) (htf : ∀ j : Nat, j < n → rs.lookup j = some (tf j)) (hdg : decode (mbM M) pc = .ok (.aaload, 1)) (kk : vp_in i n → EvF G d M ly pl h0 rv f (pc + 1) lv (.ref (pl (tf i.toNatClampNeg)) :: rest) s) (hin : f ≠ none → vp_in i n) : EvF G d M ly pl h0 rv f pc lv (.int i :: .ref (pl k) :: rest) s := fun H r s' hf => by
  have hi := hin (by rw [hf]; exact fun z => by cases z)
  have hlt : i.toNatClampNeg < n := Nat.not_le.mp fun q => hi (Or.inr q)
  exact ev_aaload (H.sh he) h12 hi ((H.2 k _ he).2 _ _ (htf _ hlt)) hdg (kk hi H r s' hf)
theorem ef_iastore {k n : Nat} {rs : List (Nat × Nat)} {i x : Int32} (he : ly[k]? = some ((10, n), rs)) (hdg : decode (mbM M) pc = .ok (.iastore, 1)) (kk : vp_in i n → EvF G d M ly pl h0 rv f (pc + 1) lv rest (wrI s k i.toNatClampNeg x)) (hin : f ≠ none → vp_in i n) : EvF G d M ly pl h0 rv f pc lv (.int x :: .int i :: .ref (pl k) :: rest) s := fun H r s' hf => by
  have hi := hin (by rw [hf]; exact fun z => by cases z)
  have h1 := kk hi H r s' hf
  rw [LH_wrI H.1 (LayOK.lt he)] at h1
  exact ev_iastore (H.sh he) hi hdg h1
theorem ef_lastore {k n : Nat} {rs : List (Nat × Nat)} {i : Int32} {x : Int64} (he : ly[k]? = some ((11, n), rs)) (hdg : decode (mbM M) pc = .ok (.lastore, 1)) (kk : vp_in i n → EvF G d M ly pl h0 rv f (pc + 1) lv rest (wrL s k i.toNatClampNeg x)) (hin : f ≠ none → vp_in i n) : EvF G d M ly pl h0 rv f pc lv (.long x :: .int i :: .ref (pl k) :: rest) s := fun H r s' hf => by
  have hi := hin (by rw [hf]; exact fun z => by cases z)
  have h1 := kk hi H r s' hf
  rw [LH_wrL H.1 (LayOK.lt he)] at h1
  exact ev_lastore (H.sh he) hi hdg h1
theorem ef_alenI {k n : Nat} {rs : List (Nat × Nat)} {v : Int32} (he : ly[k]? = some ((10, n), rs)) (hv : Int32.ofNat n = v) (hdg : decode (mbM M) pc = .ok (.arraylength, 1)) (kk : EvF G d M ly pl h0 rv f (pc + 1) lv (.int v :: rest) s) : EvF G d M ly pl h0 rv f pc lv (.ref (pl k) :: rest) s := fun H r s' hf => ev_alenI (H.sh he) hv hdg (kk H r s' hf)
/-- f's guard: an index is within, a divisor isn't 0 -/
theorem ef_guard {c : Prop} [Decidable c] {A : Option (ρ × SS)} {st : List Value} (kk : c → EvF G d M ly pl h0 rv A pc lv st s) : EvF G d M ly pl h0 rv (if c then A else none) pc lv st s := fun H r s' hf => by
  by_cases z : c
  · rw [if_pos z] at hf
    exact kk z H r s' hf
  · rw [if_neg z] at hf
    cases hf
theorem ef_if {c : Prop} [Decidable c] {A B : Option (ρ × SS)} {pt pf : Nat} {st0 st : List Value} (rule : ∀ (r : ρ) (s' : SS), (c → Ev G d M 0 0 (Qf rv pl ly.length h0 r s') 0 0 pt lv st (LH pl ly.length h0 s)) → (¬ c → Ev G d M 0 0 (Qf rv pl ly.length h0 r s') 0 0 pf lv st (LH pl ly.length h0 s)) → Ev G d M 0 0 (Qf rv pl ly.length h0 r s') 0 0 pc lv st0 (LH pl ly.length h0 s))
    (kt : c → EvF G d M ly pl h0 rv A pt lv st s) (kf : ¬ c → EvF G d M ly pl h0 rv B pf lv st s) : EvF G d M ly pl h0 rv (if c then A else B) pc lv st0 s := fun H r s' hf =>
  rule r s' (fun z => kt z H r s' (by rw [if_pos z] at hf; exact hf)) (fun z => kf z H r s' (by rw [if_neg z] at hf; exact hf))
theorem ef_eq {g : Option (ρ × SS)} {st : List Value} (e : f = g) (kk : EvF G d M ly pl h0 rv g pc lv st s) : EvF G d M ly pl h0 rv f pc lv st s := e ▸ kk
theorem ef_st {s1 : SS} {st : List Value} (e : s = s1) (kk : EvF G d M ly pl h0 rv f pc lv st s1) : EvF G d M ly pl h0 rv f pc lv st s := e ▸ kk
/-- calls: f binds the callee's function -/
theorem ef_invV {N : MI} {idx d' ci n k0 k m0 : Nat} {ly' : LY} {π : Nat → Nat} {ρ' : Type} {rv' : ρ' → Option Value} {As st : List Value} {av : (Nat → Nat) → List Value} {fc : SS → Option (ρ' × SS)} {A : ρ' × SS → Option (ρ × SS)} {rs : List (Nat × Nat)} (hM : MtF d' N ly' rv' av fc) (hm : layMap ly ly' π = true) (ha : av (fun k => pl (π k)) = .ref (pl k) :: As) (hC : CalV N ci n) (hlk : Cond.methodLink (moM M) idx (myM N) ∈ TT) (hd : d' + 1 ≤ d) (he : ly[k]? = some ((ci, m0), rs)) (hst : st = As.reverse ++ .ref (pl k) :: rest) (hn : As.length = n) (hW : (rest.map fun v => v.category).sum ≤ 8) (hdg : decode (mbM M) pc = .ok (.invokevirtual idx, 3))
    (kk : ∀ (r : ρ') (t : SS), EvF G d M ly pl h0 rv (A (r, t)) (pc + 3) lv ((rv' r).toList ++ rest) (mrgS π ly'.length s t)) : EvF G d M ly pl h0 rv ((fc (selS π s)).bind A) pc lv st s := fun H r s' hf => by
  obtain ⟨⟨r1, t1⟩, g1, g2⟩ := Option.bind_eq_some_iff.mp hf
  obtain ⟨m1, m2, -⟩ := layMap_spec hm
  have hMt := hM (fun k => pl (π k)) (LH pl ly.length h0 s) ((H.LH).sub hm) (selS π s) r1 t1 g1
  rw [LH_sel H.1 m1 m2, ha] at hMt
  refine ev_invV (mc' := 0) (ms' := 0) hMt hC hlk hd (H.sh he) hst hn hW (Nat.le_refl 0) (Nat.le_refl 0) hdg (fun v h' hq => ?_)
  obtain ⟨e1, e2⟩ := hq
  subst e1
  subst e2
  rw [LH_call H.1 m1 m2]
  exact kk r1 t1 H r s' g2
theorem ef_invS {N : MI} {idx d' n : Nat} {ly' : LY} {π : Nat → Nat} {ρ' : Type} {rv' : ρ' → Option Value} {As st : List Value} {av : (Nat → Nat) → List Value} {fc : SS → Option (ρ' × SS)} {A : ρ' × SS → Option (ρ × SS)} (hM : MtF d' N ly' rv' av fc) (hm : layMap ly ly' π = true) (ha : av (fun k => pl (π k)) = As) (hC : CalS N n) (hlk : Cond.methodLink (moM M) idx (myM N) ∈ TT) (hd : d' + 1 ≤ d) (hst : st = As.reverse ++ rest) (hn : As.length = n) (hW : (rest.map fun v => v.category).sum ≤ 8) (hdg : decode (mbM M) pc = .ok (.invokestatic idx, 3))
    (kk : ∀ (r : ρ') (t : SS), EvF G d M ly pl h0 rv (A (r, t)) (pc + 3) lv ((rv' r).toList ++ rest) (mrgS π ly'.length s t)) : EvF G d M ly pl h0 rv ((fc (selS π s)).bind A) pc lv st s := fun H r s' hf => by
  obtain ⟨⟨r1, t1⟩, g1, g2⟩ := Option.bind_eq_some_iff.mp hf
  obtain ⟨m1, m2, -⟩ := layMap_spec hm
  have hMt := hM (fun k => pl (π k)) (LH pl ly.length h0 s) ((H.LH).sub hm) (selS π s) r1 t1 g1
  rw [LH_sel H.1 m1 m2, ha] at hMt
  refine ev_invS (mc' := 0) (ms' := 0) hMt hC hlk hd hst hn hW (Nat.le_refl 0) (Nat.le_refl 0) hdg (fun v h' hq => ?_)
  obtain ⟨e1, e2⟩ := hq
  subst e1
  subst e2
  rw [LH_call H.1 m1 m2]
  exact kk r1 t1 H r s' g2
/-- the ends -/
theorem ef_iret {rv : Int32 → Option Value} {x : Int32} (hrv : rv x = some (.int x)) (hr : mrM M = some .int) (hdg : decode (mbM M) pc = .ok (.ireturn, 1)) : EvF G d M ly pl h0 rv (some (x, s)) pc lv [.int x] s := fun H r s' hf => by
  cases hf
  exact ev_iret hr ⟨hrv.symm, rfl⟩ (Nat.le_refl 0) (Nat.le_refl 0) hdg
theorem ef_zret {x : Int32} (hr : mrM M = some .boolean) (hdg : decode (mbM M) pc = .ok (.ireturn, 1)) : EvF G d M ly pl h0 rvZ (some (nbZ x, s)) pc lv [.int x] s := fun H r s' hf => by
  cases hf
  exact ev_zret hr ⟨rfl, rfl⟩ (Nat.le_refl 0) (Nat.le_refl 0) hdg
theorem ef_lret {x : Int64} (hr : mrM M = some .long) (hdg : decode (mbM M) pc = .ok (.lreturn, 1)) : EvF G d M ly pl h0 rvL (some (x, s)) pc lv [.long x] s := fun H r s' hf => by
  cases hf
  exact ev_lret hr ⟨rfl, rfl⟩ (Nat.le_refl 0) (Nat.le_refl 0) hdg
theorem ef_vret (hr : mrM M = none) (hdg : decode (mbM M) pc = .ok (.return_, 1)) : EvF G d M ly pl h0 rvU (some ((), s)) pc lv [] s := fun H r s' hf => by
  cases hf
  exact ev_vret hr ⟨rfl, rfl⟩ (Nat.le_refl 0) (Nat.le_refl 0) hdg
theorem ef_none {st : List Value} : EvF G d M ly pl h0 rv none pc lv st s := fun H r s' hf => by cases hf
/-- a straight instruction's rule, lifted -/
theorem ef_of {pc2 : Nat} {lv2 : List (Nat × Value)} {st st2 : List Value} (rule : ∀ (r : ρ) (s' : SS), Ev G d M 0 0 (Qf rv pl ly.length h0 r s') 0 0 pc2 lv2 st2 (LH pl ly.length h0 s) → Ev G d M 0 0 (Qf rv pl ly.length h0 r s') 0 0 pc lv st (LH pl ly.length h0 s)) (kk : EvF G d M ly pl h0 rv f pc2 lv2 st2 s) : EvF G d M ly pl h0 rv f pc lv st s := fun H r s' hf => rule r s' (kk H r s' hf)
end EVF
