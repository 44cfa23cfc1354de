/-- a new object of the class: its 77 cells -/
def M5F : LX := gX5_init (addC (5, 0) []) 0
theorem M5F_len : M5F.length = 77 := by decide +kernel
theorem M5F_sh : ∀ k : Nat, k < 77 → cSh M5F k = (lyM[k]?).map (fun e => e.1) := by decide +kernel
theorem M5F_P : ∀ k : Nat, k < 77 → ∀ q ∈ ((lyM[k]?).map (fun e => e.2)).getD [], cP M5F k q.1 = some q.2 := by decide +kernel
theorem lyM_len : lyM.length = 77 := by decide +kernel
theorem layM5 (h : PH) : LayOK lyM (plA h.1) (emb h M5F) := by
  refine ⟨fun i j _ _ e => by unfold plA at e; omega, fun k e hk => ?_⟩
  have h77 : k < 77 := by
    have := (List.getElem?_eq_some_iff.mp hk).1
    rw [lyM_len] at this
    exact this
  refine ⟨?_, fun j t ht => ?_⟩
  · have e1 := M5F_sh k h77
    rw [hk] at e1
    exact emb_sh.trans e1
  · have e1 := M5F_P k h77
    rw [hk] at e1
    exact emb_P.trans (congrArg (rfv h.1) (e1 (j, t) (lookup_mem ht)))
theorem LH_alike {pl : Nat → Nat} {n : Nat} {h : PH} {s : SS} (hi : injN pl n) (h1 : ∀ k : Nat, k < n → s.1 k = h.2.2.2.1 (pl k)) (h2 : ∀ k : Nat, k < n → s.2 k = h.2.2.2.2 (pl k)) : LH pl n h s = h := by
  refine Eq.trans ?_ (LH_id (n := n) (h := h) hi)
  unfold LH
  congr 4
  · exact mrg_congr hi h1
  · exact mrg_congr hi h2
def s0X (X : LX) : SS := (fun k j => cI X k j, fun _ _ => 0)
theorem selX (h : PH) (X : LX) (n : Nat) : LH (plA h.1) n (emb h X) (s0X X) = emb h X :=
  LH_alike (fun i j _ _ e => by unfold plA at e; omega) (fun k _ => funext fun j => emb_I.symm) (fun k _ => funext fun j => emb_L.symm)
def S0M : SS := s0X M5F
theorem selM5 (h : PH) : LH (plA h.1) 77 (emb h M5F) S0M = emb h M5F := selX h M5F 77
theorem FO.start {h h1 : PH} {X : Nat → Prop} {s : SS} (N : NewH s h h1) (hX : ∀ q : Nat, X q → q < h.1) : FO X (fun _ => h.1) (fun p => p == [], fun _ => s) h1 := by
  obtain ⟨N1, N2, N3, N4, N5⟩ := N
  refine ⟨fun p hp => ⟨N3, fun k hk => ⟨(N4 k hk).1, (N4 k hk).2, fun w => Nat.not_le_of_lt (hX _ w) (Nat.le_add_right h.1 k)⟩, Nat.le_of_eq N1.symm, fun z hz => (N5 z hz).trans ?_⟩, fun p q hp hq hne => ?_, fun q hq => ?_, fun c x hx => ?_⟩
  · unfold lzF
    rw [if_neg (by simp)]
  · have e1 : p = [] := by simpa using hp
    have e2 : q = [] := by simpa using hq
    exact absurd (e1.trans e2.symm) hne
  · have := hX q hq
    omega
  · have e1 : (c :: x == ([] : List Nat)) = true := hx
    simp at e1
