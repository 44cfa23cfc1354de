section EPL
variable {G : GG} {d : Nat} {M : MI} {X : Nat → Prop} {ob0 : List Nat → Nat} {t0 : TF} {h00 : PH} {ρ : Type} {rv : ρ → (List Nat → Nat) → Option Value} {f : Option (ρ × TF)} {pc : Nat} {lv : List (Nat × Value)} {rest : List Value} {t : TF} {ob : List Nat → Nat}
theorem ep_iconst {q : Nat} {n : Int} {v : Int32} (hdg : decode (mbM M) pc = .ok (.iconst n, 1)) (hv : Int32.ofInt n = v) (hq : pc + 1 = q) (kk : EvP G d M X ob0 t0 h00 rv f q lv (.int v :: rest) t ob) : EvP G d M X ob0 t0 h00 rv f pc lv (rest) t ob := by
  subst hq
  exact fun L1 L2 r t' hf => ⟨(kk L1 L2 r t' hf).1, fun h F Fx => ev_iconst hdg hv ((kk L1 L2 r t' hf).2 h F Fx)⟩
theorem ep_bipush {q : Nat} {n : Int} {v : Int32} (hdg : decode (mbM M) pc = .ok (.bipush n, 2)) (hv : (Int8.ofInt n).toInt32 = v) (hq : pc + 2 = q) (kk : EvP G d M X ob0 t0 h00 rv f q lv (.int v :: rest) t ob) : EvP G d M X ob0 t0 h00 rv f pc lv (rest) t ob := by
  subst hq
  exact fun L1 L2 r t' hf => ⟨(kk L1 L2 r t' hf).1, fun h F Fx => ev_bipush hdg hv ((kk L1 L2 r t' hf).2 h F Fx)⟩
theorem ep_sipush {q : Nat} {n : Int} {v : Int32} (hdg : decode (mbM M) pc = .ok (.sipush n, 3)) (hv : (Int16.ofInt n).toInt32 = v) (hq : pc + 3 = q) (kk : EvP G d M X ob0 t0 h00 rv f q lv (.int v :: rest) t ob) : EvP G d M X ob0 t0 h00 rv f pc lv (rest) t ob := by
  subst hq
  exact fun L1 L2 r t' hf => ⟨(kk L1 L2 r t' hf).1, fun h F Fx => ev_sipush hdg hv ((kk L1 L2 r t' hf).2 h F Fx)⟩
theorem ep_lconst {q : Nat} {n : Fin 2} {v : Int64} (hdg : decode (mbM M) pc = .ok (.lconst n, 1)) (hv : Int64.ofNat (n : Nat) = v) (hq : pc + 1 = q) (kk : EvP G d M X ob0 t0 h00 rv f q lv (.long v :: rest) t ob) : EvP G d M X ob0 t0 h00 rv f pc lv (rest) t ob := by
  subst hq
  exact fun L1 L2 r t' hf => ⟨(kk L1 L2 r t' hf).1, fun h F Fx => ev_lconst hdg hv ((kk L1 L2 r t' hf).2 h F Fx)⟩
theorem ep_iadd {q : Nat} {x y : Int32} (hdg : decode (mbM M) pc = .ok (.iadd, 1)) (hq : pc + 1 = q) (kk : EvP G d M X ob0 t0 h00 rv f q lv (.int (x + y) :: rest) t ob) : EvP G d M X ob0 t0 h00 rv f pc lv (.int y :: .int x :: rest) t ob := by
  subst hq
  exact fun L1 L2 r t' hf => ⟨(kk L1 L2 r t' hf).1, fun h F Fx => ev_iadd hdg ((kk L1 L2 r t' hf).2 h F Fx)⟩
theorem ep_isub {q : Nat} {x y : Int32} (hdg : decode (mbM M) pc = .ok (.isub, 1)) (hq : pc + 1 = q) (kk : EvP G d M X ob0 t0 h00 rv f q lv (.int (x - y) :: rest) t ob) : EvP G d M X ob0 t0 h00 rv f pc lv (.int y :: .int x :: rest) t ob := by
  subst hq
  exact fun L1 L2 r t' hf => ⟨(kk L1 L2 r t' hf).1, fun h F Fx => ev_isub hdg ((kk L1 L2 r t' hf).2 h F Fx)⟩
theorem ep_imul {q : Nat} {x y : Int32} (hdg : decode (mbM M) pc = .ok (.imul, 1)) (hq : pc + 1 = q) (kk : EvP G d M X ob0 t0 h00 rv f q lv (.int (x * y) :: rest) t ob) : EvP G d M X ob0 t0 h00 rv f pc lv (.int y :: .int x :: rest) t ob := by
  subst hq
  exact fun L1 L2 r t' hf => ⟨(kk L1 L2 r t' hf).1, fun h F Fx => ev_imul hdg ((kk L1 L2 r t' hf).2 h F Fx)⟩
theorem ep_idiv {q : Nat} {x y : Int32} (hdg : decode (mbM M) pc = .ok (.idiv, 1)) (hne : ¬ y = 0) (hq : pc + 1 = q) (kk : EvP G d M X ob0 t0 h00 rv f q lv (.int (x / y) :: rest) t ob) : EvP G d M X ob0 t0 h00 rv f pc lv (.int y :: .int x :: rest) t ob := by
  subst hq
  exact fun L1 L2 r t' hf => ⟨(kk L1 L2 r t' hf).1, fun h F Fx => ev_idiv hdg hne ((kk L1 L2 r t' hf).2 h F Fx)⟩
theorem ep_irem {q : Nat} {x y : Int32} (hdg : decode (mbM M) pc = .ok (.irem, 1)) (hne : ¬ y = 0) (hq : pc + 1 = q) (kk : EvP G d M X ob0 t0 h00 rv f q lv (.int (x - x / y * y) :: rest) t ob) : EvP G d M X ob0 t0 h00 rv f pc lv (.int y :: .int x :: rest) t ob := by
  subst hq
  exact fun L1 L2 r t' hf => ⟨(kk L1 L2 r t' hf).1, fun h F Fx => ev_irem hdg hne ((kk L1 L2 r t' hf).2 h F Fx)⟩
theorem ep_ineg {q : Nat} {x : Int32} (hdg : decode (mbM M) pc = .ok (.ineg, 1)) (hq : pc + 1 = q) (kk : EvP G d M X ob0 t0 h00 rv f q lv (.int (-x) :: rest) t ob) : EvP G d M X ob0 t0 h00 rv f pc lv (.int x :: rest) t ob := by
  subst hq
  exact fun L1 L2 r t' hf => ⟨(kk L1 L2 r t' hf).1, fun h F Fx => ev_ineg hdg ((kk L1 L2 r t' hf).2 h F Fx)⟩
theorem ep_iand {q : Nat} {x y : Int32} (hdg : decode (mbM M) pc = .ok (.iand, 1)) (hq : pc + 1 = q) (kk : EvP G d M X ob0 t0 h00 rv f q lv (.int (x &&& y) :: rest) t ob) : EvP G d M X ob0 t0 h00 rv f pc lv (.int y :: .int x :: rest) t ob := by
  subst hq
  exact fun L1 L2 r t' hf => ⟨(kk L1 L2 r t' hf).1, fun h F Fx => ev_iand hdg ((kk L1 L2 r t' hf).2 h F Fx)⟩
theorem ep_ior {q : Nat} {x y : Int32} (hdg : decode (mbM M) pc = .ok (.ior, 1)) (hq : pc + 1 = q) (kk : EvP G d M X ob0 t0 h00 rv f q lv (.int (x ||| y) :: rest) t ob) : EvP G d M X ob0 t0 h00 rv f pc lv (.int y :: .int x :: rest) t ob := by
  subst hq
  exact fun L1 L2 r t' hf => ⟨(kk L1 L2 r t' hf).1, fun h F Fx => ev_ior hdg ((kk L1 L2 r t' hf).2 h F Fx)⟩
theorem ep_ixor {q : Nat} {x y : Int32} (hdg : decode (mbM M) pc = .ok (.ixor, 1)) (hq : pc + 1 = q) (kk : EvP G d M X ob0 t0 h00 rv f q lv (.int (x ^^^ y) :: rest) t ob) : EvP G d M X ob0 t0 h00 rv f pc lv (.int y :: .int x :: rest) t ob := by
  subst hq
  exact fun L1 L2 r t' hf => ⟨(kk L1 L2 r t' hf).1, fun h F Fx => ev_ixor hdg ((kk L1 L2 r t' hf).2 h F Fx)⟩
theorem ep_ishl {q : Nat} {x y : Int32} (hdg : decode (mbM M) pc = .ok (.ishl, 1)) (hq : pc + 1 = q) (kk : EvP G d M X ob0 t0 h00 rv f q lv (.int (x <<< (y &&& 31)) :: rest) t ob) : EvP G d M X ob0 t0 h00 rv f pc lv (.int y :: .int x :: rest) t ob := by
  subst hq
  exact fun L1 L2 r t' hf => ⟨(kk L1 L2 r t' hf).1, fun h F Fx => ev_ishl hdg ((kk L1 L2 r t' hf).2 h F Fx)⟩
theorem ep_ishr {q : Nat} {x y : Int32} (hdg : decode (mbM M) pc = .ok (.ishr, 1)) (hq : pc + 1 = q) (kk : EvP G d M X ob0 t0 h00 rv f q lv (.int (x >>> (y &&& 31)) :: rest) t ob) : EvP G d M X ob0 t0 h00 rv f pc lv (.int y :: .int x :: rest) t ob := by
  subst hq
  exact fun L1 L2 r t' hf => ⟨(kk L1 L2 r t' hf).1, fun h F Fx => ev_ishr hdg ((kk L1 L2 r t' hf).2 h F Fx)⟩
theorem ep_iushr {q : Nat} {x y v : Int32} (hdg : decode (mbM M) pc = .ok (.iushr, 1)) (hv : (x.toUInt32 >>> (y.toUInt32 &&& Int32.toUInt32 31)).toInt32 = v) (hq : pc + 1 = q) (kk : EvP G d M X ob0 t0 h00 rv f q lv (.int v :: rest) t ob) : EvP G d M X ob0 t0 h00 rv f pc lv (.int y :: .int x :: rest) t ob := by
  subst hq
  exact fun L1 L2 r t' hf => ⟨(kk L1 L2 r t' hf).1, fun h F Fx => ev_iushr hdg hv ((kk L1 L2 r t' hf).2 h F Fx)⟩
theorem ep_ladd {q : Nat} {x y : Int64} (hdg : decode (mbM M) pc = .ok (.ladd, 1)) (hq : pc + 1 = q) (kk : EvP G d M X ob0 t0 h00 rv f q lv (.long (x + y) :: rest) t ob) : EvP G d M X ob0 t0 h00 rv f pc lv (.long y :: .long x :: rest) t ob := by
  subst hq
  exact fun L1 L2 r t' hf => ⟨(kk L1 L2 r t' hf).1, fun h F Fx => ev_ladd hdg ((kk L1 L2 r t' hf).2 h F Fx)⟩
theorem ep_lsub {q : Nat} {x y : Int64} (hdg : decode (mbM M) pc = .ok (.lsub, 1)) (hq : pc + 1 = q) (kk : EvP G d M X ob0 t0 h00 rv f q lv (.long (x - y) :: rest) t ob) : EvP G d M X ob0 t0 h00 rv f pc lv (.long y :: .long x :: rest) t ob := by
  subst hq
  exact fun L1 L2 r t' hf => ⟨(kk L1 L2 r t' hf).1, fun h F Fx => ev_lsub hdg ((kk L1 L2 r t' hf).2 h F Fx)⟩
theorem ep_lmul {q : Nat} {x y : Int64} (hdg : decode (mbM M) pc = .ok (.lmul, 1)) (hq : pc + 1 = q) (kk : EvP G d M X ob0 t0 h00 rv f q lv (.long (x * y) :: rest) t ob) : EvP G d M X ob0 t0 h00 rv f pc lv (.long y :: .long x :: rest) t ob := by
  subst hq
  exact fun L1 L2 r t' hf => ⟨(kk L1 L2 r t' hf).1, fun h F Fx => ev_lmul hdg ((kk L1 L2 r t' hf).2 h F Fx)⟩
theorem ep_land {q : Nat} {x y : Int64} (hdg : decode (mbM M) pc = .ok (.land, 1)) (hq : pc + 1 = q) (kk : EvP G d M X ob0 t0 h00 rv f q lv (.long (x &&& y) :: rest) t ob) : EvP G d M X ob0 t0 h00 rv f pc lv (.long y :: .long x :: rest) t ob := by
  subst hq
  exact fun L1 L2 r t' hf => ⟨(kk L1 L2 r t' hf).1, fun h F Fx => ev_land hdg ((kk L1 L2 r t' hf).2 h F Fx)⟩
theorem ep_lor {q : Nat} {x y : Int64} (hdg : decode (mbM M) pc = .ok (.lor, 1)) (hq : pc + 1 = q) (kk : EvP G d M X ob0 t0 h00 rv f q lv (.long (x ||| y) :: rest) t ob) : EvP G d M X ob0 t0 h00 rv f pc lv (.long y :: .long x :: rest) t ob := by
  subst hq
  exact fun L1 L2 r t' hf => ⟨(kk L1 L2 r t' hf).1, fun h F Fx => ev_lor hdg ((kk L1 L2 r t' hf).2 h F Fx)⟩
theorem ep_lshl {q : Nat} {x v : Int64} {y : Int32} (hdg : decode (mbM M) pc = .ok (.lshl, 1)) (hv : x <<< (y.toInt64 &&& 63) = v) (hq : pc + 1 = q) (kk : EvP G d M X ob0 t0 h00 rv f q lv (.long v :: rest) t ob) : EvP G d M X ob0 t0 h00 rv f pc lv (.int y :: .long x :: rest) t ob := by
  subst hq
  exact fun L1 L2 r t' hf => ⟨(kk L1 L2 r t' hf).1, fun h F Fx => ev_lshl hdg hv ((kk L1 L2 r t' hf).2 h F Fx)⟩
theorem ep_i2l {q : Nat} {x : Int32} {v : Int64} (hdg : decode (mbM M) pc = .ok (.i2l, 1)) (hv : x.toInt64 = v) (hq : pc + 1 = q) (kk : EvP G d M X ob0 t0 h00 rv f q lv (.long v :: rest) t ob) : EvP G d M X ob0 t0 h00 rv f pc lv (.int x :: rest) t ob := by
  subst hq
  exact fun L1 L2 r t' hf => ⟨(kk L1 L2 r t' hf).1, fun h F Fx => ev_i2l hdg hv ((kk L1 L2 r t' hf).2 h F Fx)⟩
theorem ep_l2i {q : Nat} {x : Int64} {v : Int32} (hdg : decode (mbM M) pc = .ok (.l2i, 1)) (hv : x.toInt32 = v) (hq : pc + 1 = q) (kk : EvP G d M X ob0 t0 h00 rv f q lv (.int v :: rest) t ob) : EvP G d M X ob0 t0 h00 rv f pc lv (.long x :: rest) t ob := by
  subst hq
  exact fun L1 L2 r t' hf => ⟨(kk L1 L2 r t' hf).1, fun h F Fx => ev_l2i hdg hv ((kk L1 L2 r t' hf).2 h F Fx)⟩
theorem ep_i2b {q : Nat} {x : Int32} {v : Int32} (hdg : decode (mbM M) pc = .ok (.i2b, 1)) (hv : x.toInt8.toInt32 = v) (hq : pc + 1 = q) (kk : EvP G d M X ob0 t0 h00 rv f q lv (.int v :: rest) t ob) : EvP G d M X ob0 t0 h00 rv f pc lv (.int x :: rest) t ob := by
  subst hq
  exact fun L1 L2 r t' hf => ⟨(kk L1 L2 r t' hf).1, fun h F Fx => ev_i2b hdg hv ((kk L1 L2 r t' hf).2 h F Fx)⟩
theorem ep_i2s {q : Nat} {x : Int32} {v : Int32} (hdg : decode (mbM M) pc = .ok (.i2s, 1)) (hv : x.toInt16.toInt32 = v) (hq : pc + 1 = q) (kk : EvP G d M X ob0 t0 h00 rv f q lv (.int v :: rest) t ob) : EvP G d M X ob0 t0 h00 rv f pc lv (.int x :: rest) t ob := by
  subst hq
  exact fun L1 L2 r t' hf => ⟨(kk L1 L2 r t' hf).1, fun h F Fx => ev_i2s hdg hv ((kk L1 L2 r t' hf).2 h F Fx)⟩
theorem ep_dup {q : Nat} {va : Value} (hdg : decode (mbM M) pc = .ok (.dup, 1)) (hva : va.category = 1) (hq : pc + 1 = q) (kk : EvP G d M X ob0 t0 h00 rv f q lv (va :: va :: rest) t ob) : EvP G d M X ob0 t0 h00 rv f pc lv (va :: rest) t ob := by
  subst hq
  exact fun L1 L2 r t' hf => ⟨(kk L1 L2 r t' hf).1, fun h F Fx => ev_dup hdg hva ((kk L1 L2 r t' hf).2 h F Fx)⟩
theorem ep_pop {q : Nat} {va : Value} (hdg : decode (mbM M) pc = .ok (.pop, 1)) (hva : va.category = 1) (hq : pc + 1 = q) (kk : EvP G d M X ob0 t0 h00 rv f q lv (rest) t ob) : EvP G d M X ob0 t0 h00 rv f pc lv (va :: rest) t ob := by
  subst hq
  exact fun L1 L2 r t' hf => ⟨(kk L1 L2 r t' hf).1, fun h F Fx => ev_pop hdg hva ((kk L1 L2 r t' hf).2 h F Fx)⟩
theorem ep_dup_x1 {q : Nat} {va vb : Value} (hdg : decode (mbM M) pc = .ok (.dup_x1, 1)) (hva : va.category = 1) (hvb : vb.category = 1) (hq : pc + 1 = q) (kk : EvP G d M X ob0 t0 h00 rv f q lv (va :: vb :: va :: rest) t ob) : EvP G d M X ob0 t0 h00 rv f pc lv (va :: vb :: rest) t ob := by
  subst hq
  exact fun L1 L2 r t' hf => ⟨(kk L1 L2 r t' hf).1, fun h F Fx => ev_dup_x1 hdg hva hvb ((kk L1 L2 r t' hf).2 h F Fx)⟩
theorem ep_dup_x2 {q : Nat} {va vb vd : Value} (hdg : decode (mbM M) pc = .ok (.dup_x2, 1)) (hva : va.category = 1) (hvb : vb.category = 1) (hvd : vd.category = 1) (hq : pc + 1 = q) (kk : EvP G d M X ob0 t0 h00 rv f q lv (va :: vb :: vd :: va :: rest) t ob) : EvP G d M X ob0 t0 h00 rv f pc lv (va :: vb :: vd :: rest) t ob := by
  subst hq
  exact fun L1 L2 r t' hf => ⟨(kk L1 L2 r t' hf).1, fun h F Fx => ev_dup_x2 hdg hva hvb hvd ((kk L1 L2 r t' hf).2 h F Fx)⟩
theorem ep_dup2_11 {q : Nat} {va vb : Value} (hdg : decode (mbM M) pc = .ok (.dup2, 1)) (hva : va.category = 1) (hvb : vb.category = 1) (hq : pc + 1 = q) (kk : EvP G d M X ob0 t0 h00 rv f q lv (va :: vb :: va :: vb :: rest) t ob) : EvP G d M X ob0 t0 h00 rv f pc lv (va :: vb :: rest) t ob := by
  subst hq
  exact fun L1 L2 r t' hf => ⟨(kk L1 L2 r t' hf).1, fun h F Fx => ev_dup2_11 hdg hva hvb ((kk L1 L2 r t' hf).2 h F Fx)⟩
theorem ep_goto {off : Int} {tgt : Nat} (hdg : decode (mbM M) pc = .ok (.goto off, 3)) (ht : (pc : Int) + off = (tgt : Int)) (kk : EvP G d M X ob0 t0 h00 rv f tgt lv rest t ob) : EvP G d M X ob0 t0 h00 rv f pc lv rest t ob := fun L1 L2 r t' hf => ⟨(kk L1 L2 r t' hf).1, fun h F Fx => ev_goto hdg ht ((kk L1 L2 r t' hf).2 h F Fx)⟩
theorem ep_iload_n {q : Nat} {k : Fin 4} {i : Nat} {x : Int32} (j : Nat) (hdg : decode (mbM M) pc = .ok (.iload_n k, 1)) (hi : (k : Nat) = i) (hj : lv[j]? = some (i, .int x)) (hq : pc + 1 = q) (kk : EvP G d M X ob0 t0 h00 rv f q lv (.int x :: rest) t ob) : EvP G d M X ob0 t0 h00 rv f pc lv rest t ob := by
  subst hq
  exact fun L1 L2 r t' hf => ⟨(kk L1 L2 r t' hf).1, fun h F Fx => ev_iload_n j hdg hi hj ((kk L1 L2 r t' hf).2 h F Fx)⟩
theorem ep_iload {q : Nat} {i : Nat} {x : Int32} (j : Nat) (hdg : decode (mbM M) pc = .ok (.iload i, 2)) (hj : lv[j]? = some (i, .int x)) (hq : pc + 2 = q) (kk : EvP G d M X ob0 t0 h00 rv f q lv (.int x :: rest) t ob) : EvP G d M X ob0 t0 h00 rv f pc lv rest t ob := by
  subst hq
  exact fun L1 L2 r t' hf => ⟨(kk L1 L2 r t' hf).1, fun h F Fx => ev_iload j hdg hj ((kk L1 L2 r t' hf).2 h F Fx)⟩
theorem ep_lload_n {q : Nat} {k : Fin 4} {i : Nat} {x : Int64} (j : Nat) (hdg : decode (mbM M) pc = .ok (.lload_n k, 1)) (hi : (k : Nat) = i) (hj : lv[j]? = some (i, .long x)) (hq : pc + 1 = q) (kk : EvP G d M X ob0 t0 h00 rv f q lv (.long x :: rest) t ob) : EvP G d M X ob0 t0 h00 rv f pc lv rest t ob := by
  subst hq
  exact fun L1 L2 r t' hf => ⟨(kk L1 L2 r t' hf).1, fun h F Fx => ev_lload_n j hdg hi hj ((kk L1 L2 r t' hf).2 h F Fx)⟩
theorem ep_lload {q : Nat} {i : Nat} {x : Int64} (j : Nat) (hdg : decode (mbM M) pc = .ok (.lload i, 2)) (hj : lv[j]? = some (i, .long x)) (hq : pc + 2 = q) (kk : EvP G d M X ob0 t0 h00 rv f q lv (.long x :: rest) t ob) : EvP G d M X ob0 t0 h00 rv f pc lv rest t ob := by
  subst hq
  exact fun L1 L2 r t' hf => ⟨(kk L1 L2 r t' hf).1, fun h F Fx => ev_lload j hdg hj ((kk L1 L2 r t' hf).2 h F Fx)⟩
theorem ep_aload_n {q : Nat} {k : Fin 4} {i x : Nat} (j : Nat) (hdg : decode (mbM M) pc = .ok (.aload_n k, 1)) (hi : (k : Nat) = i) (hj : lv[j]? = some (i, .ref x)) (hq : pc + 1 = q) (kk : EvP G d M X ob0 t0 h00 rv f q lv (.ref x :: rest) t ob) : EvP G d M X ob0 t0 h00 rv f pc lv rest t ob := by
  subst hq
  exact fun L1 L2 r t' hf => ⟨(kk L1 L2 r t' hf).1, fun h F Fx => ev_aload_n j hdg hi hj ((kk L1 L2 r t' hf).2 h F Fx)⟩
theorem ep_aload {q : Nat} {i x : Nat} (j : Nat) (hdg : decode (mbM M) pc = .ok (.aload i, 2)) (hj : lv[j]? = some (i, .ref x)) (hq : pc + 2 = q) (kk : EvP G d M X ob0 t0 h00 rv f q lv (.ref x :: rest) t ob) : EvP G d M X ob0 t0 h00 rv f pc lv rest t ob := by
  subst hq
  exact fun L1 L2 r t' hf => ⟨(kk L1 L2 r t' hf).1, fun h F Fx => ev_aload j hdg hj ((kk L1 L2 r t' hf).2 h F Fx)⟩
theorem ep_istore_n {q : Nat} {k : Fin 4} {i : Nat} {x : Int32} {lv' : List (Nat × Value)} (hdg : decode (mbM M) pc = .ok (.istore_n k, 1)) (hi : (k : Nat) = i) (hn : i < mlM M) (hl' : (i, Value.int x) :: lv.filter (fun q => !(q.1 == i) && !(q.1 + 1 == i && q.2.category == 2)) = lv') (hq : pc + 1 = q) (kk : EvP G d M X ob0 t0 h00 rv f q lv' rest t ob) : EvP G d M X ob0 t0 h00 rv f pc lv (.int x :: rest) t ob := by
  subst hq
  exact fun L1 L2 r t' hf => ⟨(kk L1 L2 r t' hf).1, fun h F Fx => ev_istore_n hdg hi hn hl' ((kk L1 L2 r t' hf).2 h F Fx)⟩
theorem ep_istore {q : Nat} {i : Nat} {x : Int32} {lv' : List (Nat × Value)} (hdg : decode (mbM M) pc = .ok (.istore i, 2)) (hn : i < mlM M) (hl' : (i, Value.int x) :: lv.filter (fun q => !(q.1 == i) && !(q.1 + 1 == i && q.2.category == 2)) = lv') (hq : pc + 2 = q) (kk : EvP G d M X ob0 t0 h00 rv f q lv' rest t ob) : EvP G d M X ob0 t0 h00 rv f pc lv (.int x :: rest) t ob := by
  subst hq
  exact fun L1 L2 r t' hf => ⟨(kk L1 L2 r t' hf).1, fun h F Fx => ev_istore hdg hn hl' ((kk L1 L2 r t' hf).2 h F Fx)⟩
theorem ep_lstore_n {q : Nat} {k : Fin 4} {i : Nat} {x : Int64} {lv' : List (Nat × Value)} (hdg : decode (mbM M) pc = .ok (.lstore_n k, 1)) (hi : (k : Nat) = i) (hn : i + 1 < mlM M) (hl' : (i, Value.long x) :: lv.filter (fun q => !(q.1 == i) && (!(q.1 == i + 1) && !(q.1 + 1 == i && q.2.category == 2))) = lv') (hq : pc + 1 = q) (kk : EvP G d M X ob0 t0 h00 rv f q lv' rest t ob) : EvP G d M X ob0 t0 h00 rv f pc lv (.long x :: rest) t ob := by
  subst hq
  exact fun L1 L2 r t' hf => ⟨(kk L1 L2 r t' hf).1, fun h F Fx => ev_lstore_n hdg hi hn hl' ((kk L1 L2 r t' hf).2 h F Fx)⟩
theorem ep_lstore {q : Nat} {i : Nat} {x : Int64} {lv' : List (Nat × Value)} (hdg : decode (mbM M) pc = .ok (.lstore i, 2)) (hn : i + 1 < mlM M) (hl' : (i, Value.long x) :: lv.filter (fun q => !(q.1 == i) && (!(q.1 == i + 1) && !(q.1 + 1 == i && q.2.category == 2))) = lv') (hq : pc + 2 = q) (kk : EvP G d M X ob0 t0 h00 rv f q lv' rest t ob) : EvP G d M X ob0 t0 h00 rv f pc lv (.long x :: rest) t ob := by
  subst hq
  exact fun L1 L2 r t' hf => ⟨(kk L1 L2 r t' hf).1, fun h F Fx => ev_lstore hdg hn hl' ((kk L1 L2 r t' hf).2 h F Fx)⟩
theorem ep_astore_n {q : Nat} {k : Fin 4} {i x : Nat} {lv' : List (Nat × Value)} (hdg : decode (mbM M) pc = .ok (.astore_n k, 1)) (hi : (k : Nat) = i) (hn : i < mlM M) (hl' : (i, Value.ref x) :: lv.filter (fun q => !(q.1 == i) && !(q.1 + 1 == i && q.2.category == 2)) = lv') (hq : pc + 1 = q) (kk : EvP G d M X ob0 t0 h00 rv f q lv' rest t ob) : EvP G d M X ob0 t0 h00 rv f pc lv (.ref x :: rest) t ob := by
  subst hq
  exact fun L1 L2 r t' hf => ⟨(kk L1 L2 r t' hf).1, fun h F Fx => ev_astore_n hdg hi hn hl' ((kk L1 L2 r t' hf).2 h F Fx)⟩
theorem ep_astore {q : Nat} {i x : Nat} {lv' : List (Nat × Value)} (hdg : decode (mbM M) pc = .ok (.astore i, 2)) (hn : i < mlM M) (hl' : (i, Value.ref x) :: lv.filter (fun q => !(q.1 == i) && !(q.1 + 1 == i && q.2.category == 2)) = lv') (hq : pc + 2 = q) (kk : EvP G d M X ob0 t0 h00 rv f q lv' rest t ob) : EvP G d M X ob0 t0 h00 rv f pc lv (.ref x :: rest) t ob := by
  subst hq
  exact fun L1 L2 r t' hf => ⟨(kk L1 L2 r t' hf).1, fun h F Fx => ev_astore hdg hn hl' ((kk L1 L2 r t' hf).2 h F Fx)⟩
theorem ep_iinc {q : Nat} {i : Nat} {n : Int} {x v : Int32} {lv' : List (Nat × Value)} (j : Nat) (hdg : decode (mbM M) pc = .ok (.iinc i n, 3)) (hj : lv[j]? = some (i, .int x)) (hv : x + Int32.ofInt n = v) (hn : i < mlM M) (hl' : (i, Value.int v) :: lv.filter (fun q => !(q.1 == i) && !(q.1 + 1 == i && q.2.category == 2)) = lv') (hq : pc + 3 = q) (kk : EvP G d M X ob0 t0 h00 rv f q lv' rest t ob) : EvP G d M X ob0 t0 h00 rv f pc lv rest t ob := by
  subst hq
  exact fun L1 L2 r t' hf => ⟨(kk L1 L2 r t' hf).1, fun h F Fx => ev_iinc j hdg hj hv hn hl' ((kk L1 L2 r t' hf).2 h F Fx)⟩
theorem ep_sub {lv' : List (Nat × Value)} (js : List Nat) (hj : lv_pick lv js = lv') (kk : EvP G d M X ob0 t0 h00 rv f pc lv' rest t ob) : EvP G d M X ob0 t0 h00 rv f pc lv rest t ob := fun L1 L2 r t' hf => ⟨(kk L1 L2 r t' hf).1, fun h F Fx => ev_sub js hj ((kk L1 L2 r t' hf).2 h F Fx)⟩
theorem ep_lcmp {q : Nat} {x y : Int64} (hdg : decode (mbM M) pc = .ok (.lcmp, 1)) (hq : pc + 1 = q) (kk : EvP G d M X ob0 t0 h00 rv f q lv (.int (lg_cmp x y) :: rest) t ob) : EvP G d M X ob0 t0 h00 rv f pc lv (.long y :: .long x :: rest) t ob := by
  subst hq
  exact fun L1 L2 r t' hf => ⟨(kk L1 L2 r t' hf).1, fun h F Fx => ev_lcmp hdg ((kk L1 L2 r t' hf).2 h F Fx)⟩
theorem ep_ldc {q : Nat} {index : Nat} {v : Int32} (hc : Cond.constant (moM M) index v ∈ TT) (hdg : decode (mbM M) pc = .ok (.ldc index, 2)) (hq : pc + 2 = q) (kk : EvP G d M X ob0 t0 h00 rv f q lv (.int v :: rest) t ob) : EvP G d M X ob0 t0 h00 rv f pc lv rest t ob := by
  subst hq
  exact fun L1 L2 r t' hf => ⟨(kk L1 L2 r t' hf).1, fun h F Fx => ev_ldc hc hdg ((kk L1 L2 r t' hf).2 h F Fx)⟩
theorem ep_ldc2 {q : Nat} {index : Nat} {v : Int64} (hc : Cond.constantLong (moM M) index v ∈ TT) (hdg : decode (mbM M) pc = .ok (.ldc2_w index, 3)) (hq : pc + 3 = q) (kk : EvP G d M X ob0 t0 h00 rv f q lv (.long v :: rest) t ob) : EvP G d M X ob0 t0 h00 rv f pc lv rest t ob := by
  subst hq
  exact fun L1 L2 r t' hf => ⟨(kk L1 L2 r t' hf).1, fun h F Fx => ev_ldc2 hc hdg ((kk L1 L2 r t' hf).2 h F Fx)⟩
theorem ep_ldcw {q : Nat} {index : Nat} {v : Int32} (hc : Cond.constant (moM M) index v ∈ TT) (hdg : decode (mbM M) pc = .ok (.ldc_w index, 3)) (hq : pc + 3 = q) (kk : EvP G d M X ob0 t0 h00 rv f q lv (.int v :: rest) t ob) : EvP G d M X ob0 t0 h00 rv f pc lv rest t ob := by
  subst hq
  exact fun L1 L2 r t' hf => ⟨(kk L1 L2 r t' hf).1, fun h F Fx => ev_ldcw hc hdg ((kk L1 L2 r t' hf).2 h F Fx)⟩
theorem ep_guard {c : Prop} [Decidable c] {A : Option (ρ × TF)} {st : List Value} (kk : c → EvP G d M X ob0 t0 h00 rv A pc lv st t ob) : EvP G d M X ob0 t0 h00 rv (if c then A else none) pc lv st t ob := fun L1 L2 r t' hf => by
  by_cases z : c
  · rw [if_pos z] at hf
    exact kk z L1 L2 r t' hf
  · rw [if_neg z] at hf
    cases hf
theorem ep_dec {c : Prop} [Decidable c] {A B : Option (ρ × TF)} {st : List Value} (kt : c → EvP G d M X ob0 t0 h00 rv A pc lv st t ob) (kf : ¬ c → EvP G d M X ob0 t0 h00 rv B pc lv st t ob) : EvP G d M X ob0 t0 h00 rv (if c then A else B) pc lv st t ob := fun L1 L2 r t' hf => by
  by_cases z : c
  · exact kt z L1 L2 r t' (by rw [if_pos z] at hf; exact hf)
  · exact kf z L1 L2 r t' (by rw [if_neg z] at hf; exact hf)
theorem ep_if {c : Prop} [Decidable c] {A B : Option (ρ × TF)} {pt pf : Nat} {st0 st : List Value} (rule : ∀ (mc ms kc ks : Nat) (Q : Option Value → PH → Prop) (h : PH), (c → Ev G d M mc ms Q kc ks pt lv st h) → (¬ c → Ev G d M mc ms Q kc ks pf lv st h) → Ev G d M mc ms Q kc ks pc lv st0 h)
    (kt : c → EvP G d M X ob0 t0 h00 rv A pt lv st t ob) (kf : ¬ c → EvP G d M X ob0 t0 h00 rv B pf lv st t ob) : EvP G d M X ob0 t0 h00 rv (if c then A else B) pc lv st0 t ob := fun L1 L2 r t' hf => by
  by_cases z : c
  · have hf1 : A = some (r, t') := by rw [if_pos z] at hf; exact hf
    exact ⟨(kt z L1 L2 r t' hf1).1, fun h F Fx => rule _ _ _ _ _ h (fun _ => (kt z L1 L2 r t' hf1).2 h F Fx) (fun y => absurd z y)⟩
  · have hf1 : B = some (r, t') := by rw [if_neg z] at hf; exact hf
    exact ⟨(kf z L1 L2 r t' hf1).1, fun h F Fx => rule _ _ _ _ _ h (fun y => absurd y z) (fun _ => (kf z L1 L2 r t' hf1).2 h F Fx)⟩
theorem ep_of {pc2 : Nat} {lv2 : List (Nat × Value)} {st st2 : List Value} (rule : ∀ (mc ms kc ks : Nat) (Q : Option Value → PH → Prop) (h : PH), Ev G d M mc ms Q kc ks pc2 lv2 st2 h → Ev G d M mc ms Q kc ks pc lv st h) (kk : EvP G d M X ob0 t0 h00 rv f pc2 lv2 st2 t ob) : EvP G d M X ob0 t0 h00 rv f pc lv st t ob := fun L1 L2 r t' hf => ⟨(kk L1 L2 r t' hf).1, fun h F Fx => rule _ _ _ _ _ h ((kk L1 L2 r t' hf).2 h F Fx)⟩
theorem ep_none {st : List Value} : EvP G d M X ob0 t0 h00 rv none pc lv st t ob := fun L1 L2 r t' hf => by cases hf
theorem FO.shA {h : PH} {p : List Nat} {a k : Nat} {e : (Nat × Nat) × List (Nat × Nat)} (F : FO X ob t h) (ha : AtF ob t p a) (he : lyR[k]? = some e) : h.2.1 (a + k) = some e.1 := (F.lay ha).sh he
theorem ep_getI {q idx j a : Nat} {p : List Nat} {x : Int32} (ha : AtF ob t p a) (hF : FL M idx 6 j) (hr : isRf (ftyG 6 j) = false) (hx : (t.2 p).1 0 j = x) (hdg : decode (mbM M) pc = .ok (.getfield idx, 3)) (hq : pc + 3 = q) (kk : EvP G d M X ob0 t0 h00 rv f q lv (.int x :: rest) t ob) : EvP G d M X ob0 t0 h00 rv f pc lv (.ref a :: rest) t ob := fun L1 L2 r t' hf => ⟨(kk L1 L2 r t' hf).1, fun h F Fx => by
  subst hq
  refine ev_getf (ci := 6) (F.shA (k := 0) ha rfl) hF ?_ hdg ((kk L1 L2 r t' hf).2 h F Fx)
  unfold fvalG
  rw [if_neg (by rw [hr]; decide), ← hx]
  exact congrArg Value.int (congrFun (F.at (k := 0) ha (by decide)).1 j)⟩
theorem ep_getR {q idx j a k : Nat} {p : List Nat} {e : (Nat × Nat) × List (Nat × Nat)} (ha : AtF ob t p a) (hF : FL M idx 6 j) (hr : isRf (ftyG 6 j) = true) (he : lyR[0]? = some e) (ht : e.2.lookup j = some k) (hdg : decode (mbM M) pc = .ok (.getfield idx, 3)) (hq : pc + 3 = q) (kk : EvP G d M X ob0 t0 h00 rv f q lv (.ref (a + k) :: rest) t ob) : EvP G d M X ob0 t0 h00 rv f pc lv (.ref a :: rest) t ob := fun L1 L2 r t' hf => ⟨(kk L1 L2 r t' hf).1, fun h F Fx => by
  subst hq
  refine ev_getf (ci := 6) (n := 0) ?_ hF ?_ hdg ((kk L1 L2 r t' hf).2 h F Fx)
  · exact F.shA (k := 0) (e := ((6, 0), _)) ha rfl
  · unfold fvalG
    rw [if_pos hr]
    exact ((F.lay ha).2 0 e he).2 j k ht⟩
theorem ep_iaload {q a k n : Nat} {p : List Nat} {rs : List (Nat × Nat)} {i x : Int32} (ha : AtF ob t p a) (he : lyR[k]? = some ((10, n), rs)) (hi : ixB i n) (hdg : decode (mbM M) pc = .ok (.iaload, 1)) (hx : (t.2 p).1 k i.toNatClampNeg = x) (hq : pc + 1 = q) (kk : EvP G d M X ob0 t0 h00 rv f q lv (.int x :: rest) t ob) : EvP G d M X ob0 t0 h00 rv f pc lv (.int i :: .ref (a + k) :: rest) t ob := fun L1 L2 r t' hf => ⟨(kk L1 L2 r t' hf).1, fun h F Fx => by
  subst hq
  refine ev_iaload (F.shA ha he) hi hdg ?_
  have hk : k < 33 := LayOK.lt he
  rw [show h.2.2.2.1 (a + k) i.toNatClampNeg = x from (congrFun (F.at ha hk).1 _).trans hx]
  exact (kk L1 L2 r t' hf).2 h F Fx⟩
theorem ep_laload {q a k n : Nat} {p : List Nat} {rs : List (Nat × Nat)} {i : Int32} {x : Int64} (ha : AtF ob t p a) (he : lyR[k]? = some ((11, n), rs)) (hi : ixB i n) (hdg : decode (mbM M) pc = .ok (.laload, 1)) (hx : (t.2 p).2 k i.toNatClampNeg = x) (hq : pc + 1 = q) (kk : EvP G d M X ob0 t0 h00 rv f q lv (.long x :: rest) t ob) : EvP G d M X ob0 t0 h00 rv f pc lv (.int i :: .ref (a + k) :: rest) t ob := fun L1 L2 r t' hf => ⟨(kk L1 L2 r t' hf).1, fun h F Fx => by
  subst hq
  refine ev_laload (F.shA ha he) hi hdg ?_
  have hk : k < 33 := LayOK.lt he
  rw [show h.2.2.2.2 (a + k) i.toNatClampNeg = x from (congrFun (F.at ha hk).2 _).trans hx]
  exact (kk L1 L2 r t' hf).2 h F Fx⟩
theorem ep_aaload {q a k n ty z : Nat} {p : List Nat} {rs : List (Nat × Nat)} {tf : Nat → Nat} {i : Int32} (ha : AtF ob t p a) (he : lyR[k]? = some ((ty, n), rs)) (h12 : 12 ≤ ty) (htf : ∀ j : Nat, j < n → rs.lookup j = some (tf j)) (hi : ixB i n) (hdg : decode (mbM M) pc = .ok (.aaload, 1)) (hz : tf i.toNatClampNeg = z) (hq : pc + 1 = q) (kk : EvP G d M X ob0 t0 h00 rv f q lv (.ref (a + z) :: rest) t ob) : EvP G d M X ob0 t0 h00 rv f pc lv (.int i :: .ref (a + k) :: rest) t ob := fun L1 L2 r t' hf => ⟨(kk L1 L2 r t' hf).1, fun h F Fx => by
  subst hq
  subst hz
  exact ev_aaload (F.shA ha he) h12 hi (((F.lay ha).2 k _ he).2 _ _ (htf _ (ixB_lt hi))) hdg ((kk L1 L2 r t' hf).2 h F Fx)⟩
theorem ep_alenI {q a k n : Nat} {p : List Nat} {rs : List (Nat × Nat)} {v : Int32} (ha : AtF ob t p a) (he : lyR[k]? = some ((10, n), rs)) (hv : Int32.ofNat n = v) (hdg : decode (mbM M) pc = .ok (.arraylength, 1)) (hq : pc + 1 = q) (kk : EvP G d M X ob0 t0 h00 rv f q lv (.int v :: rest) t ob) : EvP G d M X ob0 t0 h00 rv f pc lv (.ref (a + k) :: rest) t ob := fun L1 L2 r t' hf => ⟨(kk L1 L2 r t' hf).1, fun h F Fx => by
  subst hq
  exact ev_alenI (F.shA ha he) hv hdg ((kk L1 L2 r t' hf).2 h F Fx)⟩
theorem FO.putI {h : PH} {p : List Nat} {a k j : Nat} {x : Int32} (F : FO X ob t h) (ha : AtF ob t p a) (hk : k < 33) : FO X ob (wrT t p (wrI (t.2 p) k j x)) (h.1, h.2.1, h.2.2.1, upd2 h.2.2.2.1 (a + k) j x, h.2.2.2.2) ∧ FrX X h (h.1, h.2.1, h.2.2.1, upd2 h.2.2.2.1 (a + k) j x, h.2.2.2.2) := by
  have e := F.put (s := wrI (t.2 p) k j x) ha
  rw [LH_wrI (fun i j _ _ e => by unfold plA at e; omega) hk, F.sel ha] at e
  exact e
theorem FO.putL {h : PH} {p : List Nat} {a k j : Nat} {x : Int64} (F : FO X ob t h) (ha : AtF ob t p a) (hk : k < 33) : FO X ob (wrT t p (wrL (t.2 p) k j x)) (h.1, h.2.1, h.2.2.1, h.2.2.2.1, upd2 h.2.2.2.2 (a + k) j x) ∧ FrX X h (h.1, h.2.1, h.2.2.1, h.2.2.2.1, upd2 h.2.2.2.2 (a + k) j x) := by
  have e := F.put (s := wrL (t.2 p) k j x) ha
  rw [LH_wrL (fun i j _ _ e => by unfold plA at e; omega) hk, F.sel ha] at e
  exact e
theorem ep_putI {q idx j a : Nat} {p : List Nat} {x : Int32} (ha : AtF ob t p a) (hF : FL M idx 6 j) (hfin : (TXG 6 j).2.2.2 = false) (hty : ftyG 6 j = .int) (hdg : decode (mbM M) pc = .ok (.putfield idx, 3)) (hq : pc + 3 = q) (kk : EvP G d M X ob0 t0 h00 rv f q lv rest (wrT t p (wrI (t.2 p) 0 j x)) ob) : EvP G d M X ob0 t0 h00 rv f pc lv (.int x :: .ref a :: rest) t ob := fun L1 L2 r t' hf => ⟨(kk L1 L2 r t' hf).1, fun h F Fx => by
  subst hq
  obtain ⟨F1, F2⟩ := F.putI (k := 0) (j := j) (x := x) ha (by decide)
  exact ev_putI (ci := 6) (F.shA (k := 0) ha rfl) hF hfin (by rw [hty]; rfl) (by rw [hty]; rfl) (by rw [hty]; rfl) hdg ((kk L1 L2 r t' hf).2 _ F1 (Fx.tr F2))⟩
theorem ep_iastore {q a k n j : Nat} {p : List Nat} {rs : List (Nat × Nat)} {i x : Int32} (ha : AtF ob t p a) (he : lyR[k]? = some ((10, n), rs)) (hi : ixB i n) (hdg : decode (mbM M) pc = .ok (.iastore, 1)) (hj : i.toNatClampNeg = j) (hq : pc + 1 = q) (kk : EvP G d M X ob0 t0 h00 rv f q lv rest (wrT t p (wrI (t.2 p) k j x)) ob) : EvP G d M X ob0 t0 h00 rv f pc lv (.int x :: .int i :: .ref (a + k) :: rest) t ob := fun L1 L2 r t' hf => ⟨(kk L1 L2 r t' hf).1, fun h F Fx => by
  subst hq
  subst hj
  obtain ⟨F1, F2⟩ := F.putI (k := k) (j := i.toNatClampNeg) (x := x) ha (LayOK.lt he)
  exact ev_iastore (F.shA ha he) hi hdg ((kk L1 L2 r t' hf).2 _ F1 (Fx.tr F2))⟩
theorem ep_lastore {q a k n j : Nat} {p : List Nat} {rs : List (Nat × Nat)} {i : Int32} {x : Int64} (ha : AtF ob t p a) (he : lyR[k]? = some ((11, n), rs)) (hi : ixB i n) (hdg : decode (mbM M) pc = .ok (.lastore, 1)) (hj : i.toNatClampNeg = j) (hq : pc + 1 = q) (kk : EvP G d M X ob0 t0 h00 rv f q lv rest (wrT t p (wrL (t.2 p) k j x)) ob) : EvP G d M X ob0 t0 h00 rv f pc lv (.long x :: .int i :: .ref (a + k) :: rest) t ob := fun L1 L2 r t' hf => ⟨(kk L1 L2 r t' hf).1, fun h F Fx => by
  subst hq
  subst hj
  obtain ⟨F1, F2⟩ := F.putL (k := k) (j := i.toNatClampNeg) (x := x) ha (LayOK.lt he)
  exact ev_lastore (F.shA ha he) hi hdg ((kk L1 L2 r t' hf).2 _ F1 (Fx.tr F2))⟩
theorem ep_iret {x : Int32} (hr : mrM M = some .int) (hdg : decode (mbM M) pc = .ok (.ireturn, 1)) : EvP G d M X ob0 t0 h00 rwI (some (x, t)) pc lv [.int x] t ob := fun L1 L2 r t' hf => by
  cases hf
  exact ⟨leF.rf, fun h F Fx => ev_iret hr ⟨ob, rfl, L2, F, Fx⟩ (Nat.le_refl _) (Nat.le_refl _) hdg⟩
theorem ep_zret {x : Int32} (hr : mrM M = some .boolean) (hdg : decode (mbM M) pc = .ok (.ireturn, 1)) : EvP G d M X ob0 t0 h00 rwI (some (nbZ x, t)) pc lv [.int x] t ob := fun L1 L2 r t' hf => by
  cases hf
  exact ⟨leF.rf, fun h F Fx => ev_zret hr ⟨ob, rfl, L2, F, Fx⟩ (Nat.le_refl _) (Nat.le_refl _) hdg⟩
theorem ep_vret (hr : mrM M = none) (hdg : decode (mbM M) pc = .ok (.return_, 1)) : EvP G d M X ob0 t0 h00 rwU (some ((), t)) pc lv [] t ob := fun L1 L2 r t' hf => by
  cases hf
  exact ⟨leF.rf, fun h F Fx => ev_vret hr ⟨ob, rfl, L2, F, Fx⟩ (Nat.le_refl _) (Nat.le_refl _) hdg⟩
theorem ep_invVI1 {N : MI} {q idx d' n a : Nat} {p : List Nat} {As st : List Value} {av : GG → (Nat → Nat) → List Value} {fc : SS → Option (Int32 × SS)} {A : Int32 × SS → Option (ρ × TF)} {rest : List Value} (ha : AtF ob t p a) (hM : MtF d' N lyR rvI av fc) (hav : av G (plA a) = .ref a :: As) (hC : CalV N 6 n) (hlk : Cond.methodLink (moM M) idx (myM N) ∈ TT) (hd : d' + 1 ≤ d) (hst : st = As.reverse ++ .ref a :: rest) (hn : As.length = n) (hW : (rest.map fun v => v.category).sum ≤ 8) (hdg : decode (mbM M) pc = .ok (.invokevirtual idx, 3)) (hq : pc + 3 = q)
    (kk : ∀ x : Int32 × SS, EvP G d M X ob0 t0 h00 rv (A x) q lv (.int x.1 :: rest) (wrT t p x.2) ob) : EvP G d M X ob0 t0 h00 rv ((fc (t.2 p)).bind A) pc lv st t ob := fun L1 L2 r t' hf => by
  subst hq
  obtain ⟨⟨r1, t1⟩, g1, g2⟩ := Option.bind_eq_some_iff.mp hf
  have K := kk (r1, t1) L1 L2 r t' g2
  refine ⟨K.1, fun h F Fx => ?_⟩
  have hMt : MtG G d' N 0 0 (av G (plA a)) (LH (plA a) lyR.length h (t.2 p)) (Qf rvI (plA a) lyR.length h r1 t1) := hM (plA a) h (F.lay ha) (t.2 p) r1 t1 g1 G
  rw [lyR_len, F.sel ha, hav] at hMt
  obtain ⟨F1, F2⟩ := F.put (s := t1) ha
  refine ev_invV (mc' := 0) (ms' := 0) hMt hC hlk hd (F.shA (k := 0) ha rfl) hst hn hW (CC_le K.1) (CS_le K.1) hdg (fun v h' hq => ?_)
  obtain ⟨e1, e2⟩ := hq
  subst e1
  subst e2
  exact K.2 _ F1 (Fx.tr F2)
theorem ep_invVU1 {N : MI} {q idx d' n a : Nat} {p : List Nat} {As st : List Value} {av : GG → (Nat → Nat) → List Value} {fc : SS → Option (Unit × SS)} {A : Unit × SS → Option (ρ × TF)} {rest : List Value} (ha : AtF ob t p a) (hM : MtF d' N lyR rvU av fc) (hav : av G (plA a) = .ref a :: As) (hC : CalV N 6 n) (hlk : Cond.methodLink (moM M) idx (myM N) ∈ TT) (hd : d' + 1 ≤ d) (hst : st = As.reverse ++ .ref a :: rest) (hn : As.length = n) (hW : (rest.map fun v => v.category).sum ≤ 8) (hdg : decode (mbM M) pc = .ok (.invokevirtual idx, 3)) (hq : pc + 3 = q)
    (kk : ∀ x : Unit × SS, EvP G d M X ob0 t0 h00 rv (A x) q lv (rest) (wrT t p x.2) ob) : EvP G d M X ob0 t0 h00 rv ((fc (t.2 p)).bind A) pc lv st t ob := fun L1 L2 r t' hf => by
  subst hq
  obtain ⟨⟨r1, t1⟩, g1, g2⟩ := Option.bind_eq_some_iff.mp hf
  have K := kk (r1, t1) L1 L2 r t' g2
  refine ⟨K.1, fun h F Fx => ?_⟩
  have hMt : MtG G d' N 0 0 (av G (plA a)) (LH (plA a) lyR.length h (t.2 p)) (Qf rvU (plA a) lyR.length h r1 t1) := hM (plA a) h (F.lay ha) (t.2 p) r1 t1 g1 G
  rw [lyR_len, F.sel ha, hav] at hMt
  obtain ⟨F1, F2⟩ := F.put (s := t1) ha
  refine ev_invV (mc' := 0) (ms' := 0) hMt hC hlk hd (F.shA (k := 0) ha rfl) hst hn hW (CC_le K.1) (CS_le K.1) hdg (fun v h' hq => ?_)
  obtain ⟨e1, e2⟩ := hq
  subst e1
  subst e2
  exact K.2 _ F1 (Fx.tr F2)
theorem ep_invVL1 {N : MI} {q idx d' n a : Nat} {p : List Nat} {As st : List Value} {av : GG → (Nat → Nat) → List Value} {fc : SS → Option (Int64 × SS)} {A : Int64 × SS → Option (ρ × TF)} {rest : List Value} (ha : AtF ob t p a) (hM : MtF d' N lyR rvL av fc) (hav : av G (plA a) = .ref a :: As) (hC : CalV N 6 n) (hlk : Cond.methodLink (moM M) idx (myM N) ∈ TT) (hd : d' + 1 ≤ d) (hst : st = As.reverse ++ .ref a :: rest) (hn : As.length = n) (hW : (rest.map fun v => v.category).sum ≤ 8) (hdg : decode (mbM M) pc = .ok (.invokevirtual idx, 3)) (hq : pc + 3 = q)
    (kk : ∀ x : Int64 × SS, EvP G d M X ob0 t0 h00 rv (A x) q lv (.long x.1 :: rest) (wrT t p x.2) ob) : EvP G d M X ob0 t0 h00 rv ((fc (t.2 p)).bind A) pc lv st t ob := fun L1 L2 r t' hf => by
  subst hq
  obtain ⟨⟨r1, t1⟩, g1, g2⟩ := Option.bind_eq_some_iff.mp hf
  have K := kk (r1, t1) L1 L2 r t' g2
  refine ⟨K.1, fun h F Fx => ?_⟩
  have hMt : MtG G d' N 0 0 (av G (plA a)) (LH (plA a) lyR.length h (t.2 p)) (Qf rvL (plA a) lyR.length h r1 t1) := hM (plA a) h (F.lay ha) (t.2 p) r1 t1 g1 G
  rw [lyR_len, F.sel ha, hav] at hMt
  obtain ⟨F1, F2⟩ := F.put (s := t1) ha
  refine ev_invV (mc' := 0) (ms' := 0) hMt hC hlk hd (F.shA (k := 0) ha rfl) hst hn hW (CC_le K.1) (CS_le K.1) hdg (fun v h' hq => ?_)
  obtain ⟨e1, e2⟩ := hq
  subst e1
  subst e2
  exact K.2 _ F1 (Fx.tr F2)
theorem ep_invPI {N : MI} {q idx d' n : Nat} {s : SS} {As st : List Value} {av : GG → (Nat → Nat) → List Value} {fc : SS → Option (Int32 × SS)} {A : Int32 × SS → Option (ρ × TF)} {rest : List Value} (hM : MtF d' N [] rvI av fc) (hav : av G (fun k => k) = As) (hC : CalS N n) (hlk : Cond.methodLink (moM M) idx (myM N) ∈ TT) (hd : d' + 1 ≤ d) (hst : st = As.reverse ++ rest) (hn : As.length = n) (hW : (rest.map fun v => v.category).sum ≤ 8) (hdg : decode (mbM M) pc = .ok (.invokestatic idx, 3)) (hq : pc + 3 = q)
    (kk : ∀ x : Int32 × SS, EvP G d M X ob0 t0 h00 rv (A x) q lv (.int x.1 :: rest) t ob) : EvP G d M X ob0 t0 h00 rv ((fc s).bind A) pc lv st t ob := fun L1 L2 r t' hf => by
  subst hq
  obtain ⟨⟨r1, t1⟩, g1, g2⟩ := Option.bind_eq_some_iff.mp hf
  have K := kk (r1, t1) L1 L2 r t' g2
  refine ⟨K.1, fun h F Fx => ?_⟩
  have hMt : MtG G d' N 0 0 (av G (fun k => k)) h (Qf rvI (fun k => k) 0 h r1 t1) := hM (fun k => k) h ⟨fun i j hi => absurd hi (Nat.not_lt_zero i), fun k e hk => by simp at hk⟩ s r1 t1 g1 G
  rw [hav] at hMt
  refine ev_invS (mc' := 0) (ms' := 0) hMt hC hlk hd hst hn hW (CC_le K.1) (CS_le K.1) hdg (fun v h' hq => ?_)
  obtain ⟨e1, e2⟩ := hq
  subst e1
  subst e2
  exact K.2 h F Fx
theorem ep_invPU {N : MI} {q idx d' n : Nat} {s : SS} {As st : List Value} {av : GG → (Nat → Nat) → List Value} {fc : SS → Option (Unit × SS)} {A : Unit × SS → Option (ρ × TF)} {rest : List Value} (hM : MtF d' N [] rvU av fc) (hav : av G (fun k => k) = As) (hC : CalS N n) (hlk : Cond.methodLink (moM M) idx (myM N) ∈ TT) (hd : d' + 1 ≤ d) (hst : st = As.reverse ++ rest) (hn : As.length = n) (hW : (rest.map fun v => v.category).sum ≤ 8) (hdg : decode (mbM M) pc = .ok (.invokestatic idx, 3)) (hq : pc + 3 = q)
    (kk : ∀ x : Unit × SS, EvP G d M X ob0 t0 h00 rv (A x) q lv (rest) t ob) : EvP G d M X ob0 t0 h00 rv ((fc s).bind A) pc lv st t ob := fun L1 L2 r t' hf => by
  subst hq
  obtain ⟨⟨r1, t1⟩, g1, g2⟩ := Option.bind_eq_some_iff.mp hf
  have K := kk (r1, t1) L1 L2 r t' g2
  refine ⟨K.1, fun h F Fx => ?_⟩
  have hMt : MtG G d' N 0 0 (av G (fun k => k)) h (Qf rvU (fun k => k) 0 h r1 t1) := hM (fun k => k) h ⟨fun i j hi => absurd hi (Nat.not_lt_zero i), fun k e hk => by simp at hk⟩ s r1 t1 g1 G
  rw [hav] at hMt
  refine ev_invS (mc' := 0) (ms' := 0) hMt hC hlk hd hst hn hW (CC_le K.1) (CS_le K.1) hdg (fun v h' hq => ?_)
  obtain ⟨e1, e2⟩ := hq
  subst e1
  subst e2
  exact K.2 h F Fx
theorem ep_invPL {N : MI} {q idx d' n : Nat} {s : SS} {As st : List Value} {av : GG → (Nat → Nat) → List Value} {fc : SS → Option (Int64 × SS)} {A : Int64 × SS → Option (ρ × TF)} {rest : List Value} (hM : MtF d' N [] rvL av fc) (hav : av G (fun k => k) = As) (hC : CalS N n) (hlk : Cond.methodLink (moM M) idx (myM N) ∈ TT) (hd : d' + 1 ≤ d) (hst : st = As.reverse ++ rest) (hn : As.length = n) (hW : (rest.map fun v => v.category).sum ≤ 8) (hdg : decode (mbM M) pc = .ok (.invokestatic idx, 3)) (hq : pc + 3 = q)
    (kk : ∀ x : Int64 × SS, EvP G d M X ob0 t0 h00 rv (A x) q lv (.long x.1 :: rest) t ob) : EvP G d M X ob0 t0 h00 rv ((fc s).bind A) pc lv st t ob := fun L1 L2 r t' hf => by
  subst hq
  obtain ⟨⟨r1, t1⟩, g1, g2⟩ := Option.bind_eq_some_iff.mp hf
  have K := kk (r1, t1) L1 L2 r t' g2
  refine ⟨K.1, fun h F Fx => ?_⟩
  have hMt : MtG G d' N 0 0 (av G (fun k => k)) h (Qf rvL (fun k => k) 0 h r1 t1) := hM (fun k => k) h ⟨fun i j hi => absurd hi (Nat.not_lt_zero i), fun k e hk => by simp at hk⟩ s r1 t1 g1 G
  rw [hav] at hMt
  refine ev_invS (mc' := 0) (ms' := 0) hMt hC hlk hd hst hn hW (CC_le K.1) (CS_le K.1) hdg (fun v h' hq => ?_)
  obtain ⟨e1, e2⟩ := hq
  subst e1
  subst e2
  exact K.2 h F Fx
theorem ep_invVI2 {N : MI} {q idx d' n a b : Nat} {p p2 : List Nat} {As st : List Value} {av : GG → (Nat → Nat) → List Value} {fc : SS → Option (Int32 × SS)} {A : Int32 × SS → Option (ρ × TF)} {rest : List Value} (ha : AtF ob t p a) (hb : AtF ob t p2 b) (hne : p ≠ p2) (hM : MtF d' N lyRR rvI av fc) (hav : av G (plAB a b) = .ref a :: As) (hC : CalV N 6 n) (hlk : Cond.methodLink (moM M) idx (myM N) ∈ TT) (hd : d' + 1 ≤ d) (hst : st = As.reverse ++ .ref a :: rest) (hn : As.length = n) (hW : (rest.map fun v => v.category).sum ≤ 8) (hdg : decode (mbM M) pc = .ok (.invokevirtual idx, 3)) (hq : pc + 3 = q)
    (kk : ∀ x : Int32 × SS, EvP G d M X ob0 t0 h00 rv (A x) q lv (.int x.1 :: rest) (wrT (wrT t p x.2) p2 (snS x.2)) ob) : EvP G d M X ob0 t0 h00 rv ((fc (prS (t.2 p) (t.2 p2))).bind A) pc lv st t ob := fun L1 L2 r t' hf => by
  subst hq
  obtain ⟨⟨r1, t1⟩, g1, g2⟩ := Option.bind_eq_some_iff.mp hf
  have K := kk (r1, t1) L1 L2 r t' g2
  refine ⟨K.1, fun h F Fx => ?_⟩
  have hd2 : a + 33 ≤ b ∨ b + 33 ≤ a := by
    have := F.2.1 p p2 ha.1 hb.1 hne
    rw [ha.2, hb.2] at this
    exact this
  have hMt : MtG G d' N 0 0 (av G (plAB a b)) (LH (plAB a b) lyRR.length h (prS (t.2 p) (t.2 p2))) (Qf rvI (plAB a b) lyRR.length h r1 t1) := hM (plAB a b) h (LayOK.pair (F.lay ha) (F.lay hb) hd2) (prS (t.2 p) (t.2 p2)) r1 t1 g1 G
  rw [show lyRR.length = 66 from rfl, F.sel2 ha hb hne, hav] at hMt
  obtain ⟨F1, F2⟩ := F.put2 (s := t1) ha hb hne
  refine ev_invV (mc' := 0) (ms' := 0) hMt hC hlk hd (F.shA (k := 0) ha rfl) hst hn hW (CC_le K.1) (CS_le K.1) hdg (fun v h' hq => ?_)
  obtain ⟨e1, e2⟩ := hq
  subst e1
  subst e2
  exact K.2 _ F1 (Fx.tr F2)
theorem ep_invVU2 {N : MI} {q idx d' n a b : Nat} {p p2 : List Nat} {As st : List Value} {av : GG → (Nat → Nat) → List Value} {fc : SS → Option (Unit × SS)} {A : Unit × SS → Option (ρ × TF)} {rest : List Value} (ha : AtF ob t p a) (hb : AtF ob t p2 b) (hne : p ≠ p2) (hM : MtF d' N lyRR rvU av fc) (hav : av G (plAB a b) = .ref a :: As) (hC : CalV N 6 n) (hlk : Cond.methodLink (moM M) idx (myM N) ∈ TT) (hd : d' + 1 ≤ d) (hst : st = As.reverse ++ .ref a :: rest) (hn : As.length = n) (hW : (rest.map fun v => v.category).sum ≤ 8) (hdg : decode (mbM M) pc = .ok (.invokevirtual idx, 3)) (hq : pc + 3 = q)
    (kk : ∀ x : Unit × SS, EvP G d M X ob0 t0 h00 rv (A x) q lv (rest) (wrT (wrT t p x.2) p2 (snS x.2)) ob) : EvP G d M X ob0 t0 h00 rv ((fc (prS (t.2 p) (t.2 p2))).bind A) pc lv st t ob := fun L1 L2 r t' hf => by
  subst hq
  obtain ⟨⟨r1, t1⟩, g1, g2⟩ := Option.bind_eq_some_iff.mp hf
  have K := kk (r1, t1) L1 L2 r t' g2
  refine ⟨K.1, fun h F Fx => ?_⟩
  have hd2 : a + 33 ≤ b ∨ b + 33 ≤ a := by
    have := F.2.1 p p2 ha.1 hb.1 hne
    rw [ha.2, hb.2] at this
    exact this
  have hMt : MtG G d' N 0 0 (av G (plAB a b)) (LH (plAB a b) lyRR.length h (prS (t.2 p) (t.2 p2))) (Qf rvU (plAB a b) lyRR.length h r1 t1) := hM (plAB a b) h (LayOK.pair (F.lay ha) (F.lay hb) hd2) (prS (t.2 p) (t.2 p2)) r1 t1 g1 G
  rw [show lyRR.length = 66 from rfl, F.sel2 ha hb hne, hav] at hMt
  obtain ⟨F1, F2⟩ := F.put2 (s := t1) ha hb hne
  refine ev_invV (mc' := 0) (ms' := 0) hMt hC hlk hd (F.shA (k := 0) ha rfl) hst hn hW (CC_le K.1) (CS_le K.1) hdg (fun v h' hq => ?_)
  obtain ⟨e1, e2⟩ := hq
  subst e1
  subst e2
  exact K.2 _ F1 (Fx.tr F2)
theorem ep_invVL2 {N : MI} {q idx d' n a b : Nat} {p p2 : List Nat} {As st : List Value} {av : GG → (Nat → Nat) → List Value} {fc : SS → Option (Int64 × SS)} {A : Int64 × SS → Option (ρ × TF)} {rest : List Value} (ha : AtF ob t p a) (hb : AtF ob t p2 b) (hne : p ≠ p2) (hM : MtF d' N lyRR rvL av fc) (hav : av G (plAB a b) = .ref a :: As) (hC : CalV N 6 n) (hlk : Cond.methodLink (moM M) idx (myM N) ∈ TT) (hd : d' + 1 ≤ d) (hst : st = As.reverse ++ .ref a :: rest) (hn : As.length = n) (hW : (rest.map fun v => v.category).sum ≤ 8) (hdg : decode (mbM M) pc = .ok (.invokevirtual idx, 3)) (hq : pc + 3 = q)
    (kk : ∀ x : Int64 × SS, EvP G d M X ob0 t0 h00 rv (A x) q lv (.long x.1 :: rest) (wrT (wrT t p x.2) p2 (snS x.2)) ob) : EvP G d M X ob0 t0 h00 rv ((fc (prS (t.2 p) (t.2 p2))).bind A) pc lv st t ob := fun L1 L2 r t' hf => by
  subst hq
  obtain ⟨⟨r1, t1⟩, g1, g2⟩ := Option.bind_eq_some_iff.mp hf
  have K := kk (r1, t1) L1 L2 r t' g2
  refine ⟨K.1, fun h F Fx => ?_⟩
  have hd2 : a + 33 ≤ b ∨ b + 33 ≤ a := by
    have := F.2.1 p p2 ha.1 hb.1 hne
    rw [ha.2, hb.2] at this
    exact this
  have hMt : MtG G d' N 0 0 (av G (plAB a b)) (LH (plAB a b) lyRR.length h (prS (t.2 p) (t.2 p2))) (Qf rvL (plAB a b) lyRR.length h r1 t1) := hM (plAB a b) h (LayOK.pair (F.lay ha) (F.lay hb) hd2) (prS (t.2 p) (t.2 p2)) r1 t1 g1 G
  rw [show lyRR.length = 66 from rfl, F.sel2 ha hb hne, hav] at hMt
  obtain ⟨F1, F2⟩ := F.put2 (s := t1) ha hb hne
  refine ev_invV (mc' := 0) (ms' := 0) hMt hC hlk hd (F.shA (k := 0) ha rfl) hst hn hW (CC_le K.1) (CS_le K.1) hdg (fun v h' hq => ?_)
  obtain ⟨e1, e2⟩ := hq
  subst e1
  subst e2
  exact K.2 _ F1 (Fx.tr F2)

theorem ep_invVIP {N : MI} {q idx d' n a : Nat} {p : List Nat} {As st : List Value} {av : Nat → List Value} {fc : TF → Option (Int32 × TF)} {A : Int32 × TF → Option (ρ × TF)} {rest : List Value} (ha : AtF ob t p a) (hM : MtP d' N rwI p av fc) (hav : av a = .ref a :: As) (hC : CalV N 6 n) (hlk : Cond.methodLink (moM M) idx (myM N) ∈ TT) (hd : d' + 1 ≤ d) (hst : st = As.reverse ++ .ref a :: rest) (hn : As.length = n) (hW : (rest.map fun v => v.category).sum ≤ 8) (hdg : decode (mbM M) pc = .ok (.invokevirtual idx, 3)) (hq : pc + 3 = q)
    (kk : ∀ (x : Int32 × TF) (ob' : List Nat → Nat), leF t x.2 → (∀ (p : List Nat) (b : Nat), AtF ob t p b → AtF ob' x.2 p b) → EvP G d M X ob0 t0 h00 rv (A x) q lv (.int x.1 :: rest) x.2 ob') : EvP G d M X ob0 t0 h00 rv ((fc t).bind A) pc lv st t ob := fun L1 L2 r t' hf => by
  subst hq
  obtain ⟨⟨r1, t1⟩, g1, g2⟩ := Option.bind_eq_some_iff.mp hf
  have hl : leF t t1 := hM.1 t r1 t1 ha.1 g1
  have hg : ∀ ob' : List Nat → Nat, (∀ q : List Nat, t.1 q = true → ob' q = ob q) → ∀ p : List Nat, t0.1 p = true → ob' p = ob0 p := fun ob' ho p hp => (ho p (L1 p hp)).trans (L2 p hp)
  have K1 := (kk (r1, t1) ob hl (fun p b e => e.mono hl (fun _ _ => rfl)) (L1.tr hl) (hg ob (fun _ _ => rfl)) r t' g2).1
  refine ⟨hl.tr K1, fun h F Fx => ?_⟩
  have hMt := hM.2 X h ob t r1 t1 a ha F g1 G
  rw [hav] at hMt
  refine ev_invV hMt hC hlk hd (F.shA (k := 0) ha rfl) hst hn hW (by rw [CC_add L1 hl]; exact CC_le K1) (by rw [CS_add L1 hl]; exact CS_le K1) hdg (fun v h' hq => ?_)
  obtain ⟨ob', e1, ho, F1, F2⟩ := hq
  subst e1
  rw [CC_add L1 hl, CS_add L1 hl]
  exact (kk (r1, t1) ob' hl (fun p b e => e.mono hl ho) (L1.tr hl) (hg ob' ho) r t' g2).2 h' F1 (Fx.tr F2)

theorem ep_invVUP {N : MI} {q idx d' n a : Nat} {p : List Nat} {As st : List Value} {av : Nat → List Value} {fc : TF → Option (Unit × TF)} {A : Unit × TF → Option (ρ × TF)} {rest : List Value} (ha : AtF ob t p a) (hM : MtP d' N rwU p av fc) (hav : av a = .ref a :: As) (hC : CalV N 6 n) (hlk : Cond.methodLink (moM M) idx (myM N) ∈ TT) (hd : d' + 1 ≤ d) (hst : st = As.reverse ++ .ref a :: rest) (hn : As.length = n) (hW : (rest.map fun v => v.category).sum ≤ 8) (hdg : decode (mbM M) pc = .ok (.invokevirtual idx, 3)) (hq : pc + 3 = q)
    (kk : ∀ (x : Unit × TF) (ob' : List Nat → Nat), leF t x.2 → (∀ (p : List Nat) (b : Nat), AtF ob t p b → AtF ob' x.2 p b) → EvP G d M X ob0 t0 h00 rv (A x) q lv (rest) x.2 ob') : EvP G d M X ob0 t0 h00 rv ((fc t).bind A) pc lv st t ob := fun L1 L2 r t' hf => by
  subst hq
  obtain ⟨⟨r1, t1⟩, g1, g2⟩ := Option.bind_eq_some_iff.mp hf
  have hl : leF t t1 := hM.1 t r1 t1 ha.1 g1
  have hg : ∀ ob' : List Nat → Nat, (∀ q : List Nat, t.1 q = true → ob' q = ob q) → ∀ p : List Nat, t0.1 p = true → ob' p = ob0 p := fun ob' ho p hp => (ho p (L1 p hp)).trans (L2 p hp)
  have K1 := (kk (r1, t1) ob hl (fun p b e => e.mono hl (fun _ _ => rfl)) (L1.tr hl) (hg ob (fun _ _ => rfl)) r t' g2).1
  refine ⟨hl.tr K1, fun h F Fx => ?_⟩
  have hMt := hM.2 X h ob t r1 t1 a ha F g1 G
  rw [hav] at hMt
  refine ev_invV hMt hC hlk hd (F.shA (k := 0) ha rfl) hst hn hW (by rw [CC_add L1 hl]; exact CC_le K1) (by rw [CS_add L1 hl]; exact CS_le K1) hdg (fun v h' hq => ?_)
  obtain ⟨ob', e1, ho, F1, F2⟩ := hq
  subst e1
  rw [CC_add L1 hl, CS_add L1 hl]
  exact (kk (r1, t1) ob' hl (fun p b e => e.mono hl ho) (L1.tr hl) (hg ob' ho) r t' g2).2 h' F1 (Fx.tr F2)

theorem ep_invVLP {N : MI} {q idx d' n a : Nat} {p : List Nat} {As st : List Value} {av : Nat → List Value} {fc : TF → Option (Int64 × TF)} {A : Int64 × TF → Option (ρ × TF)} {rest : List Value} (ha : AtF ob t p a) (hM : MtP d' N rwL p av fc) (hav : av a = .ref a :: As) (hC : CalV N 6 n) (hlk : Cond.methodLink (moM M) idx (myM N) ∈ TT) (hd : d' + 1 ≤ d) (hst : st = As.reverse ++ .ref a :: rest) (hn : As.length = n) (hW : (rest.map fun v => v.category).sum ≤ 8) (hdg : decode (mbM M) pc = .ok (.invokevirtual idx, 3)) (hq : pc + 3 = q)
    (kk : ∀ (x : Int64 × TF) (ob' : List Nat → Nat), leF t x.2 → (∀ (p : List Nat) (b : Nat), AtF ob t p b → AtF ob' x.2 p b) → EvP G d M X ob0 t0 h00 rv (A x) q lv (.long x.1 :: rest) x.2 ob') : EvP G d M X ob0 t0 h00 rv ((fc t).bind A) pc lv st t ob := fun L1 L2 r t' hf => by
  subst hq
  obtain ⟨⟨r1, t1⟩, g1, g2⟩ := Option.bind_eq_some_iff.mp hf
  have hl : leF t t1 := hM.1 t r1 t1 ha.1 g1
  have hg : ∀ ob' : List Nat → Nat, (∀ q : List Nat, t.1 q = true → ob' q = ob q) → ∀ p : List Nat, t0.1 p = true → ob' p = ob0 p := fun ob' ho p hp => (ho p (L1 p hp)).trans (L2 p hp)
  have K1 := (kk (r1, t1) ob hl (fun p b e => e.mono hl (fun _ _ => rfl)) (L1.tr hl) (hg ob (fun _ _ => rfl)) r t' g2).1
  refine ⟨hl.tr K1, fun h F Fx => ?_⟩
  have hMt := hM.2 X h ob t r1 t1 a ha F g1 G
  rw [hav] at hMt
  refine ev_invV hMt hC hlk hd (F.shA (k := 0) ha rfl) hst hn hW (by rw [CC_add L1 hl]; exact CC_le K1) (by rw [CS_add L1 hl]; exact CS_le K1) hdg (fun v h' hq => ?_)
  obtain ⟨ob', e1, ho, F1, F2⟩ := hq
  subst e1
  rw [CC_add L1 hl, CS_add L1 hl]
  exact (kk (r1, t1) ob' hl (fun p b e => e.mono hl ho) (L1.tr hl) (hg ob' ho) r t' g2).2 h' F1 (Fx.tr F2)

theorem ep_fresh {N : MI} {q idx d' a : Nat} {p p2 : List Nat} {st : List Value} {av : Nat → List Value} {fc : TF → Option (Unit × TF)} {A : Unit × TF → Option (ρ × TF)} {rest : List Value} (ha : AtF ob t p a) (hM : MtPf d' N p p2 av fc) (hav : av a = [.ref a]) (hC : CalV N 6 0) (hlk : Cond.methodLink (moM M) idx (myM N) ∈ TT) (hd : d' + 1 ≤ d) (hst : st = .ref a :: rest) (hW : (rest.map fun v => v.category).sum ≤ 8) (hdg : decode (mbM M) pc = .ok (.invokevirtual idx, 3)) (hq : pc + 3 = q)
    (kk : ∀ (x : Unit × TF) (ob' : List Nat → Nat) (z : Nat), leF t x.2 → (∀ (p : List Nat) (b : Nat), AtF ob t p b → AtF ob' x.2 p b) → AtF ob' x.2 p2 z → EvP G d M X ob0 t0 h00 rv (A x) q lv (.ref z :: rest) x.2 ob') : EvP G d M X ob0 t0 h00 rv ((fc t).bind A) pc lv st t ob := fun L1 L2 r t' hf => by
  subst hq
  obtain ⟨⟨r1, t1⟩, g1, g2⟩ := Option.bind_eq_some_iff.mp hf
  have hin := hM.1 t t1 g1
  have hl : leF t t1 := hM.2.1 t () t1 ha.1 g1
  have hg : ∀ ob' : List Nat → Nat, (∀ q : List Nat, t.1 q = true → ob' q = ob q) → ∀ p : List Nat, t0.1 p = true → ob' p = ob0 p := fun ob' ho p hp => (ho p (L1 p hp)).trans (L2 p hp)
  have K1 := (kk (r1, t1) ob (ob p2) hl (fun p b e => e.mono hl (fun _ _ => rfl)) ⟨hin, rfl⟩ (L1.tr hl) (hg ob (fun _ _ => rfl)) r t' g2).1
  refine ⟨hl.tr K1, fun h F Fx => ?_⟩
  have hMt := hM.2.2 X h ob t () t1 a ha F g1 G
  rw [hav] at hMt
  refine ev_invV (As := []) hMt hC hlk hd (F.shA (k := 0) ha rfl) hst rfl hW (by rw [CC_add L1 hl]; exact CC_le K1) (by rw [CS_add L1 hl]; exact CS_le K1) hdg (fun v h' hq => ?_)
  obtain ⟨ob', e1, ho, F1, F2⟩ := hq
  subst e1
  rw [CC_add L1 hl, CS_add L1 hl]
  exact (kk (r1, t1) ob' (ob' p2) hl (fun p b e => e.mono hl ho) ⟨hin, rfl⟩ (L1.tr hl) (hg ob' ho) r t' g2).2 h' F1 (Fx.tr F2)

theorem ep_invSI {N : MI} {q idx d' n a nn : Nat} {p : List Nat} {π : Nat → Nat} {ly' : LY} {As st : List Value} {av : GG → (Nat → Nat) → List Value} {fc : SS → Option (Int32 × SS)} {A : Int32 × SS → Option (ρ × TF)} {rest : List Value} (ha : AtF ob t p a) (hM : MtF d' N ly' rvI av fc) (hm : layMap lyR ly' π = true) (hav : av G (fun k => plA a (π k)) = As) (hC : CalS N n) (hlk : Cond.methodLink (moM M) idx (myM N) ∈ TT) (hd : d' + 1 ≤ d) (hst : st = As.reverse ++ rest) (hn : As.length = n) (hW : (rest.map fun v => v.category).sum ≤ 8) (hdg : decode (mbM M) pc = .ok (.invokestatic idx, 3)) (hq : pc + 3 = q) (hnn : ly'.length = nn)
    (kk : ∀ x : Int32 × SS, EvP G d M X ob0 t0 h00 rv (A x) q lv (.int x.1 :: rest) (wrT t p (mrgS π nn (t.2 p) x.2)) ob) : EvP G d M X ob0 t0 h00 rv ((fc (selS π (t.2 p))).bind A) pc lv st t ob := fun L1 L2 r t' hf => by
  subst hq
  subst hnn
  obtain ⟨⟨r1, t1⟩, g1, g2⟩ := Option.bind_eq_some_iff.mp hf
  have K := kk (r1, t1) L1 L2 r t' g2
  refine ⟨K.1, fun h F Fx => ?_⟩
  obtain ⟨m1, m2, -⟩ := layMap_spec hm
  have hi : injN (plA a) lyR.length := fun i j _ _ e => by unfold plA at e; omega
  have hMt : MtG G d' N 0 0 (av G (fun k => plA a (π k))) (LH (fun k => plA a (π k)) ly'.length (LH (plA a) lyR.length h (t.2 p)) (selS π (t.2 p))) (Qf rvI (fun k => plA a (π k)) ly'.length (LH (plA a) lyR.length h (t.2 p)) r1 t1) := by
    rw [lyR_len, F.sel ha]
    exact hM (fun k => plA a (π k)) h ((F.lay ha).sub hm) (selS π (t.2 p)) r1 t1 g1 G
  rw [LH_sel hi m1 m2, hav, lyR_len, F.sel ha] at hMt
  obtain ⟨F1, F2⟩ := F.put (s := mrgS π ly'.length (t.2 p) t1) ha
  refine ev_invS (mc' := 0) (ms' := 0) hMt hC hlk hd hst hn hW (CC_le K.1) (CS_le K.1) hdg (fun v h' hq => ?_)
  obtain ⟨e1, e2⟩ := hq
  subst e1
  subst e2
  have e3 := LH_call (pl := plA a) (π := π) (n := 33) (n' := ly'.length) (h0 := h) (s := t.2 p) (t := t1) (fun i j _ _ e => by unfold plA at e; omega) m1 m2
  rw [F.sel ha] at e3
  rw [e3]
  exact K.2 _ F1 (Fx.tr F2)

theorem ep_invSU {N : MI} {q idx d' n a nn : Nat} {p : List Nat} {π : Nat → Nat} {ly' : LY} {As st : List Value} {av : GG → (Nat → Nat) → List Value} {fc : SS → Option (Unit × SS)} {A : Unit × SS → Option (ρ × TF)} {rest : List Value} (ha : AtF ob t p a) (hM : MtF d' N ly' rvU av fc) (hm : layMap lyR ly' π = true) (hav : av G (fun k => plA a (π k)) = As) (hC : CalS N n) (hlk : Cond.methodLink (moM M) idx (myM N) ∈ TT) (hd : d' + 1 ≤ d) (hst : st = As.reverse ++ rest) (hn : As.length = n) (hW : (rest.map fun v => v.category).sum ≤ 8) (hdg : decode (mbM M) pc = .ok (.invokestatic idx, 3)) (hq : pc + 3 = q) (hnn : ly'.length = nn)
    (kk : ∀ x : Unit × SS, EvP G d M X ob0 t0 h00 rv (A x) q lv (rest) (wrT t p (mrgS π nn (t.2 p) x.2)) ob) : EvP G d M X ob0 t0 h00 rv ((fc (selS π (t.2 p))).bind A) pc lv st t ob := fun L1 L2 r t' hf => by
  subst hq
  subst hnn
  obtain ⟨⟨r1, t1⟩, g1, g2⟩ := Option.bind_eq_some_iff.mp hf
  have K := kk (r1, t1) L1 L2 r t' g2
  refine ⟨K.1, fun h F Fx => ?_⟩
  obtain ⟨m1, m2, -⟩ := layMap_spec hm
  have hi : injN (plA a) lyR.length := fun i j _ _ e => by unfold plA at e; omega
  have hMt : MtG G d' N 0 0 (av G (fun k => plA a (π k))) (LH (fun k => plA a (π k)) ly'.length (LH (plA a) lyR.length h (t.2 p)) (selS π (t.2 p))) (Qf rvU (fun k => plA a (π k)) ly'.length (LH (plA a) lyR.length h (t.2 p)) r1 t1) := by
    rw [lyR_len, F.sel ha]
    exact hM (fun k => plA a (π k)) h ((F.lay ha).sub hm) (selS π (t.2 p)) r1 t1 g1 G
  rw [LH_sel hi m1 m2, hav, lyR_len, F.sel ha] at hMt
  obtain ⟨F1, F2⟩ := F.put (s := mrgS π ly'.length (t.2 p) t1) ha
  refine ev_invS (mc' := 0) (ms' := 0) hMt hC hlk hd hst hn hW (CC_le K.1) (CS_le K.1) hdg (fun v h' hq => ?_)
  obtain ⟨e1, e2⟩ := hq
  subst e1
  subst e2
  have e3 := LH_call (pl := plA a) (π := π) (n := 33) (n' := ly'.length) (h0 := h) (s := t.2 p) (t := t1) (fun i j _ _ e => by unfold plA at e; omega) m1 m2
  rw [F.sel ha] at e3
  rw [e3]
  exact K.2 _ F1 (Fx.tr F2)

theorem ep_invSL {N : MI} {q idx d' n a nn : Nat} {p : List Nat} {π : Nat → Nat} {ly' : LY} {As st : List Value} {av : GG → (Nat → Nat) → List Value} {fc : SS → Option (Int64 × SS)} {A : Int64 × SS → Option (ρ × TF)} {rest : List Value} (ha : AtF ob t p a) (hM : MtF d' N ly' rvL av fc) (hm : layMap lyR ly' π = true) (hav : av G (fun k => plA a (π k)) = As) (hC : CalS N n) (hlk : Cond.methodLink (moM M) idx (myM N) ∈ TT) (hd : d' + 1 ≤ d) (hst : st = As.reverse ++ rest) (hn : As.length = n) (hW : (rest.map fun v => v.category).sum ≤ 8) (hdg : decode (mbM M) pc = .ok (.invokestatic idx, 3)) (hq : pc + 3 = q) (hnn : ly'.length = nn)
    (kk : ∀ x : Int64 × SS, EvP G d M X ob0 t0 h00 rv (A x) q lv (.long x.1 :: rest) (wrT t p (mrgS π nn (t.2 p) x.2)) ob) : EvP G d M X ob0 t0 h00 rv ((fc (selS π (t.2 p))).bind A) pc lv st t ob := fun L1 L2 r t' hf => by
  subst hq
  subst hnn
  obtain ⟨⟨r1, t1⟩, g1, g2⟩ := Option.bind_eq_some_iff.mp hf
  have K := kk (r1, t1) L1 L2 r t' g2
  refine ⟨K.1, fun h F Fx => ?_⟩
  obtain ⟨m1, m2, -⟩ := layMap_spec hm
  have hi : injN (plA a) lyR.length := fun i j _ _ e => by unfold plA at e; omega
  have hMt : MtG G d' N 0 0 (av G (fun k => plA a (π k))) (LH (fun k => plA a (π k)) ly'.length (LH (plA a) lyR.length h (t.2 p)) (selS π (t.2 p))) (Qf rvL (fun k => plA a (π k)) ly'.length (LH (plA a) lyR.length h (t.2 p)) r1 t1) := by
    rw [lyR_len, F.sel ha]
    exact hM (fun k => plA a (π k)) h ((F.lay ha).sub hm) (selS π (t.2 p)) r1 t1 g1 G
  rw [LH_sel hi m1 m2, hav, lyR_len, F.sel ha] at hMt
  obtain ⟨F1, F2⟩ := F.put (s := mrgS π ly'.length (t.2 p) t1) ha
  refine ev_invS (mc' := 0) (ms' := 0) hMt hC hlk hd hst hn hW (CC_le K.1) (CS_le K.1) hdg (fun v h' hq => ?_)
  obtain ⟨e1, e2⟩ := hq
  subst e1
  subst e2
  have e3 := LH_call (pl := plA a) (π := π) (n := 33) (n' := ly'.length) (h0 := h) (s := t.2 p) (t := t1) (fun i j _ _ e => by unfold plA at e; omega) m1 m2
  rw [F.sel ha] at e3
  rw [e3]
  exact K.2 _ F1 (Fx.tr F2)

theorem ep_aret {w : List Nat} {a : Nat} {C : String} (ha : AtF ob t w a) (hr : mrM M = some (.object C)) (hdg : decode (mbM M) pc = .ok (.areturn, 1)) : EvP G d M X ob0 t0 h00 (rwA w) (some ((), t)) pc lv [.ref a] t ob := fun L1 L2 r t' hf => by
  cases hf
  refine ⟨leF.rf, fun h F Fx => ev_aret hr ⟨ob, ?_, L2, F, Fx⟩ (Nat.le_refl _) (Nat.le_refl _) hdg⟩
  show some (Value.ref a) = some (Value.ref (ob w))
  rw [ha.2]
theorem ep_zretc {x : Int32} (hx : nbZ x = x) (hr : mrM M = some .boolean) (hdg : decode (mbM M) pc = .ok (.ireturn, 1)) : EvP G d M X ob0 t0 h00 rwI (some (x, t)) pc lv [.int x] t ob := fun L1 L2 r t' hf => by
  cases hf
  exact ⟨leF.rf, fun h F Fx => ev_zret hr ⟨ob, by rw [hx]; rfl, L2, F, Fx⟩ (Nat.le_refl _) (Nat.le_refl _) hdg⟩
/-- a slot that may be null -/
theorem ep_getZ {q idx a : Nat} {p : List Nat} {z : Nat × Nat × Nat} (ha : AtF ob t p a) (hz : z ∈ NZ) (hz0 : z.2.1 = 0) (hF : FL M idx 6 z.2.2) (hr : isRf (ftyG 6 z.2.2) = true) (hdg : decode (mbM M) pc = .ok (.getfield idx, 3)) (hq : pc + 3 = q) (kk : EvP G d M X ob0 t0 h00 rv f q lv (lzF ob t (z.1 :: p) :: rest) t ob) : EvP G d M X ob0 t0 h00 rv f pc lv (.ref a :: rest) t ob := fun L1 L2 r t' hf => ⟨(kk L1 L2 r t' hf).1, fun h F Fx => by
  subst hq
  refine ev_getf (ci := 6) (n := 0) (F.shA (k := 0) (e := ((6, 0), _)) ha rfl) hF ?_ hdg ((kk L1 L2 r t' hf).2 h F Fx)
  have e := (F.1 p ha.1).2.2.2 z hz
  rw [ha.2, hz0] at e
  unfold fvalG
  rw [if_pos hr]
  exact e⟩
theorem ep_aaZ {q a : Nat} {p : List Nat} {i : Int32} (ha : AtF ob t p a) (hi : ixB i 4) (hdg : decode (mbM M) pc = .ok (.aaload, 1)) (hq : pc + 1 = q) (kk : EvP G d M X ob0 t0 h00 rv f q lv (lzF ob t (i.toNatClampNeg :: p) :: rest) t ob) : EvP G d M X ob0 t0 h00 rv f pc lv (.int i :: .ref (a + 28) :: rest) t ob := fun L1 L2 r t' hf => ⟨(kk L1 L2 r t' hf).1, fun h F Fx => by
  subst hq
  have h4 := ixB_lt hi
  have hm : (i.toNatClampNeg, 28, i.toNatClampNeg) ∈ NZ := by
    generalize i.toNatClampNeg = k at h4
    rcases (show k = 0 ∨ k = 1 ∨ k = 2 ∨ k = 3 by omega) with rfl | rfl | rfl | rfl <;> decide
  have e := (F.1 p ha.1).2.2.2 _ hm
  rw [ha.2] at e
  exact ev_aaload (F.shA (k := 28) ha rfl) (by decide) hi e hdg ((kk L1 L2 r t' hf).2 h F Fx)⟩
/-- what was read is no null -/
theorem ep_lz {w : List Nat} (kk : t.1 w = true → EvP G d M X ob0 t0 h00 rv f pc lv (.ref (ob w) :: rest) t ob) : EvP G d M X ob0 t0 h00 rv (if t.1 w = true then f else none) pc lv (lzF ob t w :: rest) t ob := fun L1 L2 r t' hf => by
  by_cases z : t.1 w = true
  · rw [if_pos z] at hf
    unfold lzF
    rw [if_pos z]
    exact kk z L1 L2 r t' hf
  · rw [if_neg z] at hf
    cases hf
theorem ep_ifnonnull {w : List Nat} {tgt q : Nat} {off : Int} {A B : Option (ρ × TF)} (hdg : decode (mbM M) pc = .ok (.ifnonnull off, 3)) (ht : (pc : Int) + off = (tgt : Int)) (hq : pc + 3 = q) (kt : t.1 w = true → EvP G d M X ob0 t0 h00 rv A tgt lv rest t ob) (kf : ¬ t.1 w = true → EvP G d M X ob0 t0 h00 rv B q lv rest t ob) : EvP G d M X ob0 t0 h00 rv (if t.1 w = true then A else B) pc lv (lzF ob t w :: rest) t ob := fun L1 L2 r t' hf => by
  subst hq
  by_cases z : t.1 w = true
  · rw [if_pos z] at hf
    have K := kt z L1 L2 r t' hf
    refine ⟨K.1, fun h F Fx => ?_⟩
    unfold lzF
    rw [if_pos z]
    exact ev_ifnonnull hdg ht (K.2 h F Fx)
  · rw [if_neg z] at hf
    have K := kf z L1 L2 r t' hf
    refine ⟨K.1, fun h F Fx => ?_⟩
    unfold lzF
    rw [if_neg z]
    exact ev_ifnonnullN hdg (K.2 h F Fx)

end EPL
