/-! ===== the judgement G: from any heap that holds the world w, at pc with locals lv and stack st, the machine comes to its end ===== -/
abbrev MK : Type := ByteArray × Nat × String × List Cond × Option FieldType × Room
abbrev XT : Type := (Nat → Prop) → State → Heap → Prop
/-- a premise on what nobody writes: kept by a call's frame, passed down to a callee -/
def Xok (X : XT) : Prop := (∀ (A : Nat → Prop) (U : State) (g : JFrame) (mk : MethodId) (a : Array Value), X A U U.heap → X A (U.calling g mk a) (U.calling g mk a).heap) ∧ (∀ (A B : Nat → Prop) (s U : State) (H : Heap), X A s s.heap → (∀ q : Nat, q < s.heap.size → ¬ A q → H[q]? = s.heap[q]?) → (∀ q, B q → A q) → s.WarmedH U.vm → U.heap = H → X B U U.heap)
abbrev GE : Type := Program × Launch × Env × State × MethodId × Array Value × List Frame × Method × Code × (State → Prop) × (Nat → Prop) × va_G × List (ClassId × FieldType) × XT
abbrev eL (E : GE) : Launch := E.2.1
abbrev eD (E : GE) : va_G := E.2.2.2.2.2.2.2.2.2.2.2.1
abbrev eT (E : GE) : List (ClassId × FieldType) := E.2.2.2.2.2.2.2.2.2.2.2.2.1
abbrev eX (E : GE) : XT := E.2.2.2.2.2.2.2.2.2.2.2.2.2
def Cx : GE → MK → Prop := fun (p, _, _, s, m, args, _, meth, c, _, A, D, tys, X) (cc, nL, own, Ts, ret, _) =>
  p.tables.exec = Jvm.exec ∧ c.code = cc ∧ meth.sig.returnType = ret ∧ c.maxLocals = nL ∧ s.vm.findClass own = some m.cls ∧ (∀ w ∈ Ts, w.before args s = true) ∧ meth.locks = false ∧ va_K D vwCl tys s ∧ (∀ q : Nat, s.heap.size ≤ q → A q) ∧ Xok X ∧ X A s s.heap
def G : GE → MK → Nat → Nat → Nat → List (Nat × Value) → List Value → va_W → Prop := fun (p, l, e, s, m, args, below, meth, c, Q, A, D, tys, X) (cc, nL, own, Ts, ret, R) kc ks pc lv st w =>
  Cx (p, l, e, s, m, args, below, meth, c, Q, A, D, tys, X) (cc, nL, own, Ts, ret, R) → ∀ (H : Heap) (locs : List Loc) (ls : Array Slot), va_P D vwCl w H → va_D A w → va_S A s.heap H locs → lv_has ls nL lv → W p l e R s m args below meth c H locs kc ks Q (F0 m pc ls st)
section GB
variable {E : GE} {K : MK} {kc ks pc : Nat} {lv : List (Nat × Value)} {st : List Value} {w : va_W}

theorem g_iconst {n : Int} {v : Int32} (hd : decode K.1 pc = .ok (.iconst n, 1)) (hv : Int32.ofInt n = v) (kk : G E K kc ks (pc + 1) lv (.int v :: st) w) : G E K kc ks pc lv (st) w := by
  obtain ⟨p, l, e, s, m, args, below, meth, c, Q, A, D, tys, X⟩ := E
  obtain ⟨cc, nL, own, Ts, ret, R⟩ := K
  intro HC H locs ls hP hD hS hl
  have C' := HC
  obtain ⟨hx, hb, hr, hml, hown, hts, hlocks, hK, hA, hXo, hX⟩ := C'
  exact lv_iconst hx hb hd hv (kk HC H locs ls hP hD hS hl)

theorem g_bipush {n : Int} {v : Int32} (hd : decode K.1 pc = .ok (.bipush n, 2)) (hv : (Int8.ofInt n).toInt32 = v) (kk : G E K kc ks (pc + 2) lv (.int v :: st) w) : G E K kc ks pc lv (st) w := by
  obtain ⟨p, l, e, s, m, args, below, meth, c, Q, A, D, tys, X⟩ := E
  obtain ⟨cc, nL, own, Ts, ret, R⟩ := K
  intro HC H locs ls hP hD hS hl
  have C' := HC
  obtain ⟨hx, hb, hr, hml, hown, hts, hlocks, hK, hA, hXo, hX⟩ := C'
  exact lv_bipush hx hb hd hv (kk HC H locs ls hP hD hS hl)

theorem g_sipush {n : Int} {v : Int32} (hd : decode K.1 pc = .ok (.sipush n, 3)) (hv : (Int16.ofInt n).toInt32 = v) (kk : G E K kc ks (pc + 3) lv (.int v :: st) w) : G E K kc ks pc lv (st) w := by
  obtain ⟨p, l, e, s, m, args, below, meth, c, Q, A, D, tys, X⟩ := E
  obtain ⟨cc, nL, own, Ts, ret, R⟩ := K
  intro HC H locs ls hP hD hS hl
  have C' := HC
  obtain ⟨hx, hb, hr, hml, hown, hts, hlocks, hK, hA, hXo, hX⟩ := C'
  exact lv_sipush hx hb hd hv (kk HC H locs ls hP hD hS hl)

theorem g_lconst {n : Fin 2} {v : Int64} (hd : decode K.1 pc = .ok (.lconst n, 1)) (hv : Int64.ofNat (n : Nat) = v) (kk : G E K kc ks (pc + 1) lv (.long v :: st) w) : G E K kc ks pc lv (st) w := by
  obtain ⟨p, l, e, s, m, args, below, meth, c, Q, A, D, tys, X⟩ := E
  obtain ⟨cc, nL, own, Ts, ret, R⟩ := K
  intro HC H locs ls hP hD hS hl
  have C' := HC
  obtain ⟨hx, hb, hr, hml, hown, hts, hlocks, hK, hA, hXo, hX⟩ := C'
  exact lv_lconst hx hb hd hv (kk HC H locs ls hP hD hS hl)

theorem g_iload_n {k : Fin 4} {i : Nat} {x : Int32} (j : Nat) (hd : decode K.1 pc = .ok (.iload_n k, 1)) (hi : (k : Nat) = i) (hj : lv[j]? = some (i, .int x)) (kk : G E K kc ks (pc + 1) lv (.int x :: st) w) : G E K kc ks pc lv (st) w := by
  obtain ⟨p, l, e, s, m, args, below, meth, c, Q, A, D, tys, X⟩ := E
  obtain ⟨cc, nL, own, Ts, ret, R⟩ := K
  intro HC H locs ls hP hD hS hl
  have C' := HC
  obtain ⟨hx, hb, hr, hml, hown, hts, hlocks, hK, hA, hXo, hX⟩ := C'
  exact lv_iload_n hx hb hd hi (lv_at hl j hj) (kk HC H locs ls hP hD hS hl)

theorem g_iload {i : Nat} {x : Int32} (j : Nat) (hd : decode K.1 pc = .ok (.iload i, 2)) (hj : lv[j]? = some (i, .int x)) (kk : G E K kc ks (pc + 2) lv (.int x :: st) w) : G E K kc ks pc lv (st) w := by
  obtain ⟨p, l, e, s, m, args, below, meth, c, Q, A, D, tys, X⟩ := E
  obtain ⟨cc, nL, own, Ts, ret, R⟩ := K
  intro HC H locs ls hP hD hS hl
  have C' := HC
  obtain ⟨hx, hb, hr, hml, hown, hts, hlocks, hK, hA, hXo, hX⟩ := C'
  exact lv_iload hx hb hd (lv_at hl j hj) (kk HC H locs ls hP hD hS hl)

theorem g_lload_n {k : Fin 4} {i : Nat} {x : Int64} (j : Nat) (hd : decode K.1 pc = .ok (.lload_n k, 1)) (hi : (k : Nat) = i) (hj : lv[j]? = some (i, .long x)) (kk : G E K kc ks (pc + 1) lv (.long x :: st) w) : G E K kc ks pc lv (st) w := by
  obtain ⟨p, l, e, s, m, args, below, meth, c, Q, A, D, tys, X⟩ := E
  obtain ⟨cc, nL, own, Ts, ret, R⟩ := K
  intro HC H locs ls hP hD hS hl
  have C' := HC
  obtain ⟨hx, hb, hr, hml, hown, hts, hlocks, hK, hA, hXo, hX⟩ := C'
  exact lv_lload_n hx hb hd hi (lv_at hl j hj) (kk HC H locs ls hP hD hS hl)

theorem g_lload {i : Nat} {x : Int64} (j : Nat) (hd : decode K.1 pc = .ok (.lload i, 2)) (hj : lv[j]? = some (i, .long x)) (kk : G E K kc ks (pc + 2) lv (.long x :: st) w) : G E K kc ks pc lv (st) w := by
  obtain ⟨p, l, e, s, m, args, below, meth, c, Q, A, D, tys, X⟩ := E
  obtain ⟨cc, nL, own, Ts, ret, R⟩ := K
  intro HC H locs ls hP hD hS hl
  have C' := HC
  obtain ⟨hx, hb, hr, hml, hown, hts, hlocks, hK, hA, hXo, hX⟩ := C'
  exact lv_lload hx hb hd (lv_at hl j hj) (kk HC H locs ls hP hD hS hl)

theorem g_aload_n {k : Fin 4} {i : Nat} {x : Nat} (j : Nat) (hd : decode K.1 pc = .ok (.aload_n k, 1)) (hi : (k : Nat) = i) (hj : lv[j]? = some (i, .ref x)) (kk : G E K kc ks (pc + 1) lv (.ref x :: st) w) : G E K kc ks pc lv (st) w := by
  obtain ⟨p, l, e, s, m, args, below, meth, c, Q, A, D, tys, X⟩ := E
  obtain ⟨cc, nL, own, Ts, ret, R⟩ := K
  intro HC H locs ls hP hD hS hl
  have C' := HC
  obtain ⟨hx, hb, hr, hml, hown, hts, hlocks, hK, hA, hXo, hX⟩ := C'
  exact lv_aload_n hx hb hd hi (lv_at hl j hj) (kk HC H locs ls hP hD hS hl)

theorem g_aload {i : Nat} {x : Nat} (j : Nat) (hd : decode K.1 pc = .ok (.aload i, 2)) (hj : lv[j]? = some (i, .ref x)) (kk : G E K kc ks (pc + 2) lv (.ref x :: st) w) : G E K kc ks pc lv (st) w := by
  obtain ⟨p, l, e, s, m, args, below, meth, c, Q, A, D, tys, X⟩ := E
  obtain ⟨cc, nL, own, Ts, ret, R⟩ := K
  intro HC H locs ls hP hD hS hl
  have C' := HC
  obtain ⟨hx, hb, hr, hml, hown, hts, hlocks, hK, hA, hXo, hX⟩ := C'
  exact lv_aload hx hb hd (lv_at hl j hj) (kk HC H locs ls hP hD hS hl)

theorem g_istore_n {k : Fin 4} {i : Nat} {x : Int32} {lv2 : List (Nat × Value)} (hd : decode K.1 pc = .ok (.istore_n k, 1)) (hi : (k : Nat) = i) (hn : i < K.2.1) (h2 : (i, Value.int x) :: lv.filter (fun q => !(q.1 == i) && !(q.1 + 1 == i && q.2.category == 2)) = lv2) (kk : G E K kc ks (pc + 1) lv2 st w) : G E K kc ks pc lv (.int x :: st) w := by
  obtain ⟨p, l, e, s, m, args, below, meth, c, Q, A, D, tys, X⟩ := E
  obtain ⟨cc, nL, own, Ts, ret, R⟩ := K
  intro HC H locs ls hP hD hS hl
  have C' := HC
  obtain ⟨hx, hb, hr, hml, hown, hts, hlocks, hK, hA, hXo, hX⟩ := C'
  exact lv_istore_n hx hb hd hi hl hn h2 (fun ls2 hl2 => kk HC H locs ls2 hP hD hS hl2)

theorem g_istore {i : Nat} {x : Int32} {lv2 : List (Nat × Value)} (hd : decode K.1 pc = .ok (.istore i, 2)) (hn : i < K.2.1) (h2 : (i, Value.int x) :: lv.filter (fun q => !(q.1 == i) && !(q.1 + 1 == i && q.2.category == 2)) = lv2) (kk : G E K kc ks (pc + 2) lv2 st w) : G E K kc ks pc lv (.int x :: st) w := by
  obtain ⟨p, l, e, s, m, args, below, meth, c, Q, A, D, tys, X⟩ := E
  obtain ⟨cc, nL, own, Ts, ret, R⟩ := K
  intro HC H locs ls hP hD hS hl
  have C' := HC
  obtain ⟨hx, hb, hr, hml, hown, hts, hlocks, hK, hA, hXo, hX⟩ := C'
  exact lv_istore hx hb hd hl hn h2 (fun ls2 hl2 => kk HC H locs ls2 hP hD hS hl2)

theorem g_lstore_n {k : Fin 4} {i : Nat} {x : Int64} {lv2 : List (Nat × Value)} (hd : decode K.1 pc = .ok (.lstore_n k, 1)) (hi : (k : Nat) = i) (hn : i + 1 < K.2.1) (h2 : (i, Value.long x) :: lv.filter (fun q => !(q.1 == i) && (!(q.1 == i + 1) && !(q.1 + 1 == i && q.2.category == 2))) = lv2) (kk : G E K kc ks (pc + 1) lv2 st w) : G E K kc ks pc lv (.long x :: st) w := by
  obtain ⟨p, l, e, s, m, args, below, meth, c, Q, A, D, tys, X⟩ := E
  obtain ⟨cc, nL, own, Ts, ret, R⟩ := K
  intro HC H locs ls hP hD hS hl
  have C' := HC
  obtain ⟨hx, hb, hr, hml, hown, hts, hlocks, hK, hA, hXo, hX⟩ := C'
  exact lv_lstore_n hx hb hd hi hl hn h2 (fun ls2 hl2 => kk HC H locs ls2 hP hD hS hl2)

theorem g_lstore {i : Nat} {x : Int64} {lv2 : List (Nat × Value)} (hd : decode K.1 pc = .ok (.lstore i, 2)) (hn : i + 1 < K.2.1) (h2 : (i, Value.long x) :: lv.filter (fun q => !(q.1 == i) && (!(q.1 == i + 1) && !(q.1 + 1 == i && q.2.category == 2))) = lv2) (kk : G E K kc ks (pc + 2) lv2 st w) : G E K kc ks pc lv (.long x :: st) w := by
  obtain ⟨p, l, e, s, m, args, below, meth, c, Q, A, D, tys, X⟩ := E
  obtain ⟨cc, nL, own, Ts, ret, R⟩ := K
  intro HC H locs ls hP hD hS hl
  have C' := HC
  obtain ⟨hx, hb, hr, hml, hown, hts, hlocks, hK, hA, hXo, hX⟩ := C'
  exact lv_lstore hx hb hd hl hn h2 (fun ls2 hl2 => kk HC H locs ls2 hP hD hS hl2)

theorem g_astore_n {k : Fin 4} {i : Nat} {x : Nat} {lv2 : List (Nat × Value)} (hd : decode K.1 pc = .ok (.astore_n k, 1)) (hi : (k : Nat) = i) (hn : i < K.2.1) (h2 : (i, Value.ref x) :: lv.filter (fun q => !(q.1 == i) && !(q.1 + 1 == i && q.2.category == 2)) = lv2) (kk : G E K kc ks (pc + 1) lv2 st w) : G E K kc ks pc lv (.ref x :: st) w := by
  obtain ⟨p, l, e, s, m, args, below, meth, c, Q, A, D, tys, X⟩ := E
  obtain ⟨cc, nL, own, Ts, ret, R⟩ := K
  intro HC H locs ls hP hD hS hl
  have C' := HC
  obtain ⟨hx, hb, hr, hml, hown, hts, hlocks, hK, hA, hXo, hX⟩ := C'
  exact lv_astore_n hx hb hd hi hl hn h2 (fun ls2 hl2 => kk HC H locs ls2 hP hD hS hl2)

theorem g_astore {i : Nat} {x : Nat} {lv2 : List (Nat × Value)} (hd : decode K.1 pc = .ok (.astore i, 2)) (hn : i < K.2.1) (h2 : (i, Value.ref x) :: lv.filter (fun q => !(q.1 == i) && !(q.1 + 1 == i && q.2.category == 2)) = lv2) (kk : G E K kc ks (pc + 2) lv2 st w) : G E K kc ks pc lv (.ref x :: st) w := by
  obtain ⟨p, l, e, s, m, args, below, meth, c, Q, A, D, tys, X⟩ := E
  obtain ⟨cc, nL, own, Ts, ret, R⟩ := K
  intro HC H locs ls hP hD hS hl
  have C' := HC
  obtain ⟨hx, hb, hr, hml, hown, hts, hlocks, hK, hA, hXo, hX⟩ := C'
  exact lv_astore hx hb hd hl hn h2 (fun ls2 hl2 => kk HC H locs ls2 hP hD hS hl2)

theorem g_iinc {i : Nat} {n : Int} {x v : Int32} {lv2 : List (Nat × Value)} (j : Nat) (hd : decode K.1 pc = .ok (.iinc i n, 3)) (hj : lv[j]? = some (i, .int x)) (hv : x + Int32.ofInt n = v) (hn : i < K.2.1) (h2 : (i, Value.int v) :: lv.filter (fun q => !(q.1 == i) && !(q.1 + 1 == i && q.2.category == 2)) = lv2) (kk : G E K kc ks (pc + 3) lv2 st w) : G E K kc ks pc lv st w := by
  obtain ⟨p, l, e, s, m, args, below, meth, c, Q, A, D, tys, X⟩ := E
  obtain ⟨cc, nL, own, Ts, ret, R⟩ := K
  intro HC H locs ls hP hD hS hl
  have C' := HC
  obtain ⟨hx, hb, hr, hml, hown, hts, hlocks, hK, hA, hXo, hX⟩ := C'
  exact lv_iinc hx hb hd hl hj hv hn h2 (fun ls2 hl2 => kk HC H locs ls2 hP hD hS hl2)

theorem g_iadd {x y : Int32} (hd : decode K.1 pc = .ok (.iadd, 1))  (kk : G E K kc ks (pc + 1) lv (.int (x + y) :: st) w) : G E K kc ks pc lv (.int y :: .int x :: st) w := by
  obtain ⟨p, l, e, s, m, args, below, meth, c, Q, A, D, tys, X⟩ := E
  obtain ⟨cc, nL, own, Ts, ret, R⟩ := K
  intro HC H locs ls hP hD hS hl
  have C' := HC
  obtain ⟨hx, hb, hr, hml, hown, hts, hlocks, hK, hA, hXo, hX⟩ := C'
  exact lv_iadd hx hb hd  (kk HC H locs ls hP hD hS hl)

theorem g_isub {x y : Int32} (hd : decode K.1 pc = .ok (.isub, 1))  (kk : G E K kc ks (pc + 1) lv (.int (x - y) :: st) w) : G E K kc ks pc lv (.int y :: .int x :: st) w := by
  obtain ⟨p, l, e, s, m, args, below, meth, c, Q, A, D, tys, X⟩ := E
  obtain ⟨cc, nL, own, Ts, ret, R⟩ := K
  intro HC H locs ls hP hD hS hl
  have C' := HC
  obtain ⟨hx, hb, hr, hml, hown, hts, hlocks, hK, hA, hXo, hX⟩ := C'
  exact lv_isub hx hb hd  (kk HC H locs ls hP hD hS hl)

theorem g_imul {x y : Int32} (hd : decode K.1 pc = .ok (.imul, 1))  (kk : G E K kc ks (pc + 1) lv (.int (x * y) :: st) w) : G E K kc ks pc lv (.int y :: .int x :: st) w := by
  obtain ⟨p, l, e, s, m, args, below, meth, c, Q, A, D, tys, X⟩ := E
  obtain ⟨cc, nL, own, Ts, ret, R⟩ := K
  intro HC H locs ls hP hD hS hl
  have C' := HC
  obtain ⟨hx, hb, hr, hml, hown, hts, hlocks, hK, hA, hXo, hX⟩ := C'
  exact lv_imul hx hb hd  (kk HC H locs ls hP hD hS hl)

theorem g_iand {x y : Int32} (hd : decode K.1 pc = .ok (.iand, 1))  (kk : G E K kc ks (pc + 1) lv (.int (x &&& y) :: st) w) : G E K kc ks pc lv (.int y :: .int x :: st) w := by
  obtain ⟨p, l, e, s, m, args, below, meth, c, Q, A, D, tys, X⟩ := E
  obtain ⟨cc, nL, own, Ts, ret, R⟩ := K
  intro HC H locs ls hP hD hS hl
  have C' := HC
  obtain ⟨hx, hb, hr, hml, hown, hts, hlocks, hK, hA, hXo, hX⟩ := C'
  exact lv_iand hx hb hd  (kk HC H locs ls hP hD hS hl)

theorem g_ior {x y : Int32} (hd : decode K.1 pc = .ok (.ior, 1))  (kk : G E K kc ks (pc + 1) lv (.int (x ||| y) :: st) w) : G E K kc ks pc lv (.int y :: .int x :: st) w := by
  obtain ⟨p, l, e, s, m, args, below, meth, c, Q, A, D, tys, X⟩ := E
  obtain ⟨cc, nL, own, Ts, ret, R⟩ := K
  intro HC H locs ls hP hD hS hl
  have C' := HC
  obtain ⟨hx, hb, hr, hml, hown, hts, hlocks, hK, hA, hXo, hX⟩ := C'
  exact lv_ior hx hb hd  (kk HC H locs ls hP hD hS hl)

theorem g_ixor {x y : Int32} (hd : decode K.1 pc = .ok (.ixor, 1))  (kk : G E K kc ks (pc + 1) lv (.int (x ^^^ y) :: st) w) : G E K kc ks pc lv (.int y :: .int x :: st) w := by
  obtain ⟨p, l, e, s, m, args, below, meth, c, Q, A, D, tys, X⟩ := E
  obtain ⟨cc, nL, own, Ts, ret, R⟩ := K
  intro HC H locs ls hP hD hS hl
  have C' := HC
  obtain ⟨hx, hb, hr, hml, hown, hts, hlocks, hK, hA, hXo, hX⟩ := C'
  exact lv_ixor hx hb hd  (kk HC H locs ls hP hD hS hl)

theorem g_ladd {x y : Int64} (hd : decode K.1 pc = .ok (.ladd, 1))  (kk : G E K kc ks (pc + 1) lv (.long (x + y) :: st) w) : G E K kc ks pc lv (.long y :: .long x :: st) w := by
  obtain ⟨p, l, e, s, m, args, below, meth, c, Q, A, D, tys, X⟩ := E
  obtain ⟨cc, nL, own, Ts, ret, R⟩ := K
  intro HC H locs ls hP hD hS hl
  have C' := HC
  obtain ⟨hx, hb, hr, hml, hown, hts, hlocks, hK, hA, hXo, hX⟩ := C'
  exact lv_ladd hx hb hd  (kk HC H locs ls hP hD hS hl)

theorem g_lsub {x y : Int64} (hd : decode K.1 pc = .ok (.lsub, 1))  (kk : G E K kc ks (pc + 1) lv (.long (x - y) :: st) w) : G E K kc ks pc lv (.long y :: .long x :: st) w := by
  obtain ⟨p, l, e, s, m, args, below, meth, c, Q, A, D, tys, X⟩ := E
  obtain ⟨cc, nL, own, Ts, ret, R⟩ := K
  intro HC H locs ls hP hD hS hl
  have C' := HC
  obtain ⟨hx, hb, hr, hml, hown, hts, hlocks, hK, hA, hXo, hX⟩ := C'
  exact lv_lsub hx hb hd  (kk HC H locs ls hP hD hS hl)

theorem g_lmul {x y : Int64} (hd : decode K.1 pc = .ok (.lmul, 1))  (kk : G E K kc ks (pc + 1) lv (.long (x * y) :: st) w) : G E K kc ks pc lv (.long y :: .long x :: st) w := by
  obtain ⟨p, l, e, s, m, args, below, meth, c, Q, A, D, tys, X⟩ := E
  obtain ⟨cc, nL, own, Ts, ret, R⟩ := K
  intro HC H locs ls hP hD hS hl
  have C' := HC
  obtain ⟨hx, hb, hr, hml, hown, hts, hlocks, hK, hA, hXo, hX⟩ := C'
  exact lv_lmul hx hb hd  (kk HC H locs ls hP hD hS hl)

theorem g_land {x y : Int64} (hd : decode K.1 pc = .ok (.land, 1))  (kk : G E K kc ks (pc + 1) lv (.long (x &&& y) :: st) w) : G E K kc ks pc lv (.long y :: .long x :: st) w := by
  obtain ⟨p, l, e, s, m, args, below, meth, c, Q, A, D, tys, X⟩ := E
  obtain ⟨cc, nL, own, Ts, ret, R⟩ := K
  intro HC H locs ls hP hD hS hl
  have C' := HC
  obtain ⟨hx, hb, hr, hml, hown, hts, hlocks, hK, hA, hXo, hX⟩ := C'
  exact lv_land hx hb hd  (kk HC H locs ls hP hD hS hl)

theorem g_lor {x y : Int64} (hd : decode K.1 pc = .ok (.lor, 1))  (kk : G E K kc ks (pc + 1) lv (.long (x ||| y) :: st) w) : G E K kc ks pc lv (.long y :: .long x :: st) w := by
  obtain ⟨p, l, e, s, m, args, below, meth, c, Q, A, D, tys, X⟩ := E
  obtain ⟨cc, nL, own, Ts, ret, R⟩ := K
  intro HC H locs ls hP hD hS hl
  have C' := HC
  obtain ⟨hx, hb, hr, hml, hown, hts, hlocks, hK, hA, hXo, hX⟩ := C'
  exact lv_lor hx hb hd  (kk HC H locs ls hP hD hS hl)

theorem g_idiv {x y : Int32} (hd : decode K.1 pc = .ok (.idiv, 1)) (hne : ¬ y = 0) (kk : G E K kc ks (pc + 1) lv (.int (x / y) :: st) w) : G E K kc ks pc lv (.int y :: .int x :: st) w := by
  obtain ⟨p, l, e, s, m, args, below, meth, c, Q, A, D, tys, X⟩ := E
  obtain ⟨cc, nL, own, Ts, ret, R⟩ := K
  intro HC H locs ls hP hD hS hl
  have C' := HC
  obtain ⟨hx, hb, hr, hml, hown, hts, hlocks, hK, hA, hXo, hX⟩ := C'
  exact lv_idiv hx hb hd hne (kk HC H locs ls hP hD hS hl)

theorem g_irem {x y : Int32} (hd : decode K.1 pc = .ok (.irem, 1)) (hne : ¬ y = 0) (kk : G E K kc ks (pc + 1) lv (.int (x - x / y * y) :: st) w) : G E K kc ks pc lv (.int y :: .int x :: st) w := by
  obtain ⟨p, l, e, s, m, args, below, meth, c, Q, A, D, tys, X⟩ := E
  obtain ⟨cc, nL, own, Ts, ret, R⟩ := K
  intro HC H locs ls hP hD hS hl
  have C' := HC
  obtain ⟨hx, hb, hr, hml, hown, hts, hlocks, hK, hA, hXo, hX⟩ := C'
  exact lv_irem hx hb hd hne (kk HC H locs ls hP hD hS hl)

theorem g_ldiv {x y : Int64} (hd : decode K.1 pc = .ok (.ldiv, 1)) (hne : ¬ y = 0) (kk : G E K kc ks (pc + 1) lv (.long (x / y) :: st) w) : G E K kc ks pc lv (.long y :: .long x :: st) w := by
  obtain ⟨p, l, e, s, m, args, below, meth, c, Q, A, D, tys, X⟩ := E
  obtain ⟨cc, nL, own, Ts, ret, R⟩ := K
  intro HC H locs ls hP hD hS hl
  have C' := HC
  obtain ⟨hx, hb, hr, hml, hown, hts, hlocks, hK, hA, hXo, hX⟩ := C'
  exact lv_ldiv hx hb hd hne (kk HC H locs ls hP hD hS hl)

theorem g_lrem {x y : Int64} (hd : decode K.1 pc = .ok (.lrem, 1)) (hne : ¬ y = 0) (kk : G E K kc ks (pc + 1) lv (.long (x - x / y * y) :: st) w) : G E K kc ks pc lv (.long y :: .long x :: st) w := by
  obtain ⟨p, l, e, s, m, args, below, meth, c, Q, A, D, tys, X⟩ := E
  obtain ⟨cc, nL, own, Ts, ret, R⟩ := K
  intro HC H locs ls hP hD hS hl
  have C' := HC
  obtain ⟨hx, hb, hr, hml, hown, hts, hlocks, hK, hA, hXo, hX⟩ := C'
  exact lv_lrem hx hb hd hne (kk HC H locs ls hP hD hS hl)

theorem g_ineg {x : Int32} (hd : decode K.1 pc = .ok (.ineg, 1))  (kk : G E K kc ks (pc + 1) lv (.int (-x) :: st) w) : G E K kc ks pc lv (.int x :: st) w := by
  obtain ⟨p, l, e, s, m, args, below, meth, c, Q, A, D, tys, X⟩ := E
  obtain ⟨cc, nL, own, Ts, ret, R⟩ := K
  intro HC H locs ls hP hD hS hl
  have C' := HC
  obtain ⟨hx, hb, hr, hml, hown, hts, hlocks, hK, hA, hXo, hX⟩ := C'
  exact lv_ineg hx hb hd  (kk HC H locs ls hP hD hS hl)

theorem g_lneg {x : Int64} (hd : decode K.1 pc = .ok (.lneg, 1))  (kk : G E K kc ks (pc + 1) lv (.long (-x) :: st) w) : G E K kc ks pc lv (.long x :: st) w := by
  obtain ⟨p, l, e, s, m, args, below, meth, c, Q, A, D, tys, X⟩ := E
  obtain ⟨cc, nL, own, Ts, ret, R⟩ := K
  intro HC H locs ls hP hD hS hl
  have C' := HC
  obtain ⟨hx, hb, hr, hml, hown, hts, hlocks, hK, hA, hXo, hX⟩ := C'
  exact lv_lneg hx hb hd  (kk HC H locs ls hP hD hS hl)

theorem g_ishl {x y : Int32} (hd : decode K.1 pc = .ok (.ishl, 1))  (kk : G E K kc ks (pc + 1) lv (.int (x <<< (y &&& 31)) :: st) w) : G E K kc ks pc lv (.int y :: .int x :: st) w := by
  obtain ⟨p, l, e, s, m, args, below, meth, c, Q, A, D, tys, X⟩ := E
  obtain ⟨cc, nL, own, Ts, ret, R⟩ := K
  intro HC H locs ls hP hD hS hl
  have C' := HC
  obtain ⟨hx, hb, hr, hml, hown, hts, hlocks, hK, hA, hXo, hX⟩ := C'
  exact lv_ishl hx hb hd  (kk HC H locs ls hP hD hS hl)

theorem g_ishr {x y : Int32} (hd : decode K.1 pc = .ok (.ishr, 1))  (kk : G E K kc ks (pc + 1) lv (.int (x >>> (y &&& 31)) :: st) w) : G E K kc ks pc lv (.int y :: .int x :: st) w := by
  obtain ⟨p, l, e, s, m, args, below, meth, c, Q, A, D, tys, X⟩ := E
  obtain ⟨cc, nL, own, Ts, ret, R⟩ := K
  intro HC H locs ls hP hD hS hl
  have C' := HC
  obtain ⟨hx, hb, hr, hml, hown, hts, hlocks, hK, hA, hXo, hX⟩ := C'
  exact lv_ishr hx hb hd  (kk HC H locs ls hP hD hS hl)

theorem g_iushr {x y : Int32} (hd : decode K.1 pc = .ok (.iushr, 1))  (kk : G E K kc ks (pc + 1) lv (.int ((x.toUInt32 >>> (y.toUInt32 &&& Int32.toUInt32 31)).toInt32) :: st) w) : G E K kc ks pc lv (.int y :: .int x :: st) w := by
  obtain ⟨p, l, e, s, m, args, below, meth, c, Q, A, D, tys, X⟩ := E
  obtain ⟨cc, nL, own, Ts, ret, R⟩ := K
  intro HC H locs ls hP hD hS hl
  have C' := HC
  obtain ⟨hx, hb, hr, hml, hown, hts, hlocks, hK, hA, hXo, hX⟩ := C'
  exact lv_iushr hx hb hd rfl (kk HC H locs ls hP hD hS hl)

theorem g_lushr {x : Int64} {y : Int32} (hd : decode K.1 pc = .ok (.lushr, 1))  (kk : G E K kc ks (pc + 1) lv (.long ((x.toUInt64 >>> (y.toInt64.toUInt64 &&& Int64.toUInt64 63)).toInt64) :: st) w) : G E K kc ks pc lv (.int y :: .long x :: st) w := by
  obtain ⟨p, l, e, s, m, args, below, meth, c, Q, A, D, tys, X⟩ := E
  obtain ⟨cc, nL, own, Ts, ret, R⟩ := K
  intro HC H locs ls hP hD hS hl
  have C' := HC
  obtain ⟨hx, hb, hr, hml, hown, hts, hlocks, hK, hA, hXo, hX⟩ := C'
  exact lv_lushr hx hb hd rfl (kk HC H locs ls hP hD hS hl)

theorem g_lshl {x : Int64} {y : Int32} (hd : decode K.1 pc = .ok (.lshl, 1))  (kk : G E K kc ks (pc + 1) lv (.long (x <<< (y.toInt64 &&& 63)) :: st) w) : G E K kc ks pc lv (.int y :: .long x :: st) w := by
  obtain ⟨p, l, e, s, m, args, below, meth, c, Q, A, D, tys, X⟩ := E
  obtain ⟨cc, nL, own, Ts, ret, R⟩ := K
  intro HC H locs ls hP hD hS hl
  have C' := HC
  obtain ⟨hx, hb, hr, hml, hown, hts, hlocks, hK, hA, hXo, hX⟩ := C'
  exact lv_lshl hx hb hd rfl (kk HC H locs ls hP hD hS hl)

theorem g_lshr {x : Int64} {y : Int32} (hd : decode K.1 pc = .ok (.lshr, 1))  (kk : G E K kc ks (pc + 1) lv (.long (x >>> (y.toInt64 &&& 63)) :: st) w) : G E K kc ks pc lv (.int y :: .long x :: st) w := by
  obtain ⟨p, l, e, s, m, args, below, meth, c, Q, A, D, tys, X⟩ := E
  obtain ⟨cc, nL, own, Ts, ret, R⟩ := K
  intro HC H locs ls hP hD hS hl
  have C' := HC
  obtain ⟨hx, hb, hr, hml, hown, hts, hlocks, hK, hA, hXo, hX⟩ := C'
  exact lv_lshr hx hb hd rfl (kk HC H locs ls hP hD hS hl)

theorem g_i2l {x : Int32} (hd : decode K.1 pc = .ok (.i2l, 1))  (kk : G E K kc ks (pc + 1) lv (.long x.toInt64 :: st) w) : G E K kc ks pc lv (.int x :: st) w := by
  obtain ⟨p, l, e, s, m, args, below, meth, c, Q, A, D, tys, X⟩ := E
  obtain ⟨cc, nL, own, Ts, ret, R⟩ := K
  intro HC H locs ls hP hD hS hl
  have C' := HC
  obtain ⟨hx, hb, hr, hml, hown, hts, hlocks, hK, hA, hXo, hX⟩ := C'
  exact lv_i2l hx hb hd rfl (kk HC H locs ls hP hD hS hl)

theorem g_l2i {x : Int64} (hd : decode K.1 pc = .ok (.l2i, 1))  (kk : G E K kc ks (pc + 1) lv (.int x.toInt32 :: st) w) : G E K kc ks pc lv (.long x :: st) w := by
  obtain ⟨p, l, e, s, m, args, below, meth, c, Q, A, D, tys, X⟩ := E
  obtain ⟨cc, nL, own, Ts, ret, R⟩ := K
  intro HC H locs ls hP hD hS hl
  have C' := HC
  obtain ⟨hx, hb, hr, hml, hown, hts, hlocks, hK, hA, hXo, hX⟩ := C'
  exact lv_l2i hx hb hd rfl (kk HC H locs ls hP hD hS hl)

theorem g_i2c {x : Int32} (hd : decode K.1 pc = .ok (.i2c, 1))  (kk : G E K kc ks (pc + 1) lv (.int (x.toUInt32 % 65536).toInt32 :: st) w) : G E K kc ks pc lv (.int x :: st) w := by
  obtain ⟨p, l, e, s, m, args, below, meth, c, Q, A, D, tys, X⟩ := E
  obtain ⟨cc, nL, own, Ts, ret, R⟩ := K
  intro HC H locs ls hP hD hS hl
  have C' := HC
  obtain ⟨hx, hb, hr, hml, hown, hts, hlocks, hK, hA, hXo, hX⟩ := C'
  exact lv_i2c hx hb hd rfl (kk HC H locs ls hP hD hS hl)

theorem g_lcmp {x y : Int64} (hd : decode K.1 pc = .ok (.lcmp, 1))  (kk : G E K kc ks (pc + 1) lv (.int (lg_cmp x y) :: st) w) : G E K kc ks pc lv (.long y :: .long x :: st) w := by
  obtain ⟨p, l, e, s, m, args, below, meth, c, Q, A, D, tys, X⟩ := E
  obtain ⟨cc, nL, own, Ts, ret, R⟩ := K
  intro HC H locs ls hP hD hS hl
  have C' := HC
  obtain ⟨hx, hb, hr, hml, hown, hts, hlocks, hK, hA, hXo, hX⟩ := C'
  exact W.lcmp hx hb hd  (kk HC H locs ls hP hD hS hl)

theorem g_dup {va : Value} (hd : decode K.1 pc = .ok (.dup, 1)) (hva : va.category = 1) (kk : G E K kc ks (pc + 1) lv (va :: va :: st) w) : G E K kc ks pc lv (va :: st) w := by
  obtain ⟨p, l, e, s, m, args, below, meth, c, Q, A, D, tys, X⟩ := E
  obtain ⟨cc, nL, own, Ts, ret, R⟩ := K
  intro HC H locs ls hP hD hS hl
  have C' := HC
  obtain ⟨hx, hb, hr, hml, hown, hts, hlocks, hK, hA, hXo, hX⟩ := C'
  exact lv_dup hx hb hd hva (kk HC H locs ls hP hD hS hl)

theorem g_pop {va : Value} (hd : decode K.1 pc = .ok (.pop, 1)) (hva : va.category = 1) (kk : G E K kc ks (pc + 1) lv (st) w) : G E K kc ks pc lv (va :: st) w := by
  obtain ⟨p, l, e, s, m, args, below, meth, c, Q, A, D, tys, X⟩ := E
  obtain ⟨cc, nL, own, Ts, ret, R⟩ := K
  intro HC H locs ls hP hD hS hl
  have C' := HC
  obtain ⟨hx, hb, hr, hml, hown, hts, hlocks, hK, hA, hXo, hX⟩ := C'
  exact lv_pop hx hb hd hva (kk HC H locs ls hP hD hS hl)

theorem g_dup2 {va vb : Value} (hd : decode K.1 pc = .ok (.dup2, 1)) (hva : va.category = 1) (hvb : vb.category = 1) (kk : G E K kc ks (pc + 1) lv (va :: vb :: va :: vb :: st) w) : G E K kc ks pc lv (va :: vb :: st) w := by
  obtain ⟨p, l, e, s, m, args, below, meth, c, Q, A, D, tys, X⟩ := E
  obtain ⟨cc, nL, own, Ts, ret, R⟩ := K
  intro HC H locs ls hP hD hS hl
  have C' := HC
  obtain ⟨hx, hb, hr, hml, hown, hts, hlocks, hK, hA, hXo, hX⟩ := C'
  exact lv_dup2_11 hx hb hd hva hvb (kk HC H locs ls hP hD hS hl)

theorem g_dup2l {va : Value} (hd : decode K.1 pc = .ok (.dup2, 1)) (hva : va.category = 2) (kk : G E K kc ks (pc + 1) lv (va :: va :: st) w) : G E K kc ks pc lv (va :: st) w := by
  obtain ⟨p, l, e, s, m, args, below, meth, c, Q, A, D, tys, X⟩ := E
  obtain ⟨cc, nL, own, Ts, ret, R⟩ := K
  intro HC H locs ls hP hD hS hl
  have C' := HC
  obtain ⟨hx, hb, hr, hml, hown, hts, hlocks, hK, hA, hXo, hX⟩ := C'
  exact lv_dup2_2 hx hb hd hva (kk HC H locs ls hP hD hS hl)

theorem g_if_eq {x : Int32} {off : Int} {tgt : Nat} (hd : decode K.1 pc = .ok (.ifCond .eq off, 3)) (ht : (pc : Int) + off = (tgt : Int)) (kt : x = 0 → G E K kc ks tgt lv st w) (kf : ¬ x = 0 → G E K kc ks (pc + 3) lv st w) : G E K kc ks pc lv (.int x :: st) w := by
  obtain ⟨p, l, e, s, m, args, below, meth, c, Q, A, D, tys, X⟩ := E
  obtain ⟨cc, nL, own, Ts, ret, R⟩ := K
  intro HC H locs ls hP hD hS hl
  have C' := HC
  obtain ⟨hx, hb, hr, hml, hown, hts, hlocks, hK, hA, hXo, hX⟩ := C'
  exact lv_if_eq hx hb hd ht (fun h => kt h HC H locs ls hP hD hS hl) (fun h => kf h HC H locs ls hP hD hS hl)

theorem g_if_ne {x : Int32} {off : Int} {tgt : Nat} (hd : decode K.1 pc = .ok (.ifCond .ne off, 3)) (ht : (pc : Int) + off = (tgt : Int)) (kt : ¬ x = 0 → G E K kc ks tgt lv st w) (kf : x = 0 → G E K kc ks (pc + 3) lv st w) : G E K kc ks pc lv (.int x :: st) w := by
  obtain ⟨p, l, e, s, m, args, below, meth, c, Q, A, D, tys, X⟩ := E
  obtain ⟨cc, nL, own, Ts, ret, R⟩ := K
  intro HC H locs ls hP hD hS hl
  have C' := HC
  obtain ⟨hx, hb, hr, hml, hown, hts, hlocks, hK, hA, hXo, hX⟩ := C'
  exact lv_if_ne hx hb hd ht (fun h => kt h HC H locs ls hP hD hS hl) (fun h => kf h HC H locs ls hP hD hS hl)

theorem g_if_lt {x : Int32} {off : Int} {tgt : Nat} (hd : decode K.1 pc = .ok (.ifCond .lt off, 3)) (ht : (pc : Int) + off = (tgt : Int)) (kt : x < 0 → G E K kc ks tgt lv st w) (kf : ¬ x < 0 → G E K kc ks (pc + 3) lv st w) : G E K kc ks pc lv (.int x :: st) w := by
  obtain ⟨p, l, e, s, m, args, below, meth, c, Q, A, D, tys, X⟩ := E
  obtain ⟨cc, nL, own, Ts, ret, R⟩ := K
  intro HC H locs ls hP hD hS hl
  have C' := HC
  obtain ⟨hx, hb, hr, hml, hown, hts, hlocks, hK, hA, hXo, hX⟩ := C'
  exact lv_if_lt hx hb hd ht (fun h => kt h HC H locs ls hP hD hS hl) (fun h => kf h HC H locs ls hP hD hS hl)

theorem g_if_ge {x : Int32} {off : Int} {tgt : Nat} (hd : decode K.1 pc = .ok (.ifCond .ge off, 3)) (ht : (pc : Int) + off = (tgt : Int)) (kt : 0 ≤ x → G E K kc ks tgt lv st w) (kf : ¬ 0 ≤ x → G E K kc ks (pc + 3) lv st w) : G E K kc ks pc lv (.int x :: st) w := by
  obtain ⟨p, l, e, s, m, args, below, meth, c, Q, A, D, tys, X⟩ := E
  obtain ⟨cc, nL, own, Ts, ret, R⟩ := K
  intro HC H locs ls hP hD hS hl
  have C' := HC
  obtain ⟨hx, hb, hr, hml, hown, hts, hlocks, hK, hA, hXo, hX⟩ := C'
  exact lv_if_ge hx hb hd ht (fun h => kt h HC H locs ls hP hD hS hl) (fun h => kf h HC H locs ls hP hD hS hl)

theorem g_if_gt {x : Int32} {off : Int} {tgt : Nat} (hd : decode K.1 pc = .ok (.ifCond .gt off, 3)) (ht : (pc : Int) + off = (tgt : Int)) (kt : 0 < x → G E K kc ks tgt lv st w) (kf : ¬ 0 < x → G E K kc ks (pc + 3) lv st w) : G E K kc ks pc lv (.int x :: st) w := by
  obtain ⟨p, l, e, s, m, args, below, meth, c, Q, A, D, tys, X⟩ := E
  obtain ⟨cc, nL, own, Ts, ret, R⟩ := K
  intro HC H locs ls hP hD hS hl
  have C' := HC
  obtain ⟨hx, hb, hr, hml, hown, hts, hlocks, hK, hA, hXo, hX⟩ := C'
  exact lv_if_gt hx hb hd ht (fun h => kt h HC H locs ls hP hD hS hl) (fun h => kf h HC H locs ls hP hD hS hl)

theorem g_if_le {x : Int32} {off : Int} {tgt : Nat} (hd : decode K.1 pc = .ok (.ifCond .le off, 3)) (ht : (pc : Int) + off = (tgt : Int)) (kt : x ≤ 0 → G E K kc ks tgt lv st w) (kf : ¬ x ≤ 0 → G E K kc ks (pc + 3) lv st w) : G E K kc ks pc lv (.int x :: st) w := by
  obtain ⟨p, l, e, s, m, args, below, meth, c, Q, A, D, tys, X⟩ := E
  obtain ⟨cc, nL, own, Ts, ret, R⟩ := K
  intro HC H locs ls hP hD hS hl
  have C' := HC
  obtain ⟨hx, hb, hr, hml, hown, hts, hlocks, hK, hA, hXo, hX⟩ := C'
  exact lv_if_le hx hb hd ht (fun h => kt h HC H locs ls hP hD hS hl) (fun h => kf h HC H locs ls hP hD hS hl)

theorem g_icmp_eq {x y : Int32} {off : Int} {tgt : Nat} (hd : decode K.1 pc = .ok (.if_icmp .eq off, 3)) (ht : (pc : Int) + off = (tgt : Int)) (kt : x = y → G E K kc ks tgt lv st w) (kf : ¬ x = y → G E K kc ks (pc + 3) lv st w) : G E K kc ks pc lv (.int y :: .int x :: st) w := by
  obtain ⟨p, l, e, s, m, args, below, meth, c, Q, A, D, tys, X⟩ := E
  obtain ⟨cc, nL, own, Ts, ret, R⟩ := K
  intro HC H locs ls hP hD hS hl
  have C' := HC
  obtain ⟨hx, hb, hr, hml, hown, hts, hlocks, hK, hA, hXo, hX⟩ := C'
  exact lv_icmp_eq hx hb hd ht (fun h => kt h HC H locs ls hP hD hS hl) (fun h => kf h HC H locs ls hP hD hS hl)

theorem g_icmp_ne {x y : Int32} {off : Int} {tgt : Nat} (hd : decode K.1 pc = .ok (.if_icmp .ne off, 3)) (ht : (pc : Int) + off = (tgt : Int)) (kt : ¬ x = y → G E K kc ks tgt lv st w) (kf : x = y → G E K kc ks (pc + 3) lv st w) : G E K kc ks pc lv (.int y :: .int x :: st) w := by
  obtain ⟨p, l, e, s, m, args, below, meth, c, Q, A, D, tys, X⟩ := E
  obtain ⟨cc, nL, own, Ts, ret, R⟩ := K
  intro HC H locs ls hP hD hS hl
  have C' := HC
  obtain ⟨hx, hb, hr, hml, hown, hts, hlocks, hK, hA, hXo, hX⟩ := C'
  exact lv_icmp_ne hx hb hd ht (fun h => kt h HC H locs ls hP hD hS hl) (fun h => kf h HC H locs ls hP hD hS hl)

theorem g_icmp_lt {x y : Int32} {off : Int} {tgt : Nat} (hd : decode K.1 pc = .ok (.if_icmp .lt off, 3)) (ht : (pc : Int) + off = (tgt : Int)) (kt : x < y → G E K kc ks tgt lv st w) (kf : ¬ x < y → G E K kc ks (pc + 3) lv st w) : G E K kc ks pc lv (.int y :: .int x :: st) w := by
  obtain ⟨p, l, e, s, m, args, below, meth, c, Q, A, D, tys, X⟩ := E
  obtain ⟨cc, nL, own, Ts, ret, R⟩ := K
  intro HC H locs ls hP hD hS hl
  have C' := HC
  obtain ⟨hx, hb, hr, hml, hown, hts, hlocks, hK, hA, hXo, hX⟩ := C'
  exact lv_icmp_lt hx hb hd ht (fun h => kt h HC H locs ls hP hD hS hl) (fun h => kf h HC H locs ls hP hD hS hl)

theorem g_icmp_ge {x y : Int32} {off : Int} {tgt : Nat} (hd : decode K.1 pc = .ok (.if_icmp .ge off, 3)) (ht : (pc : Int) + off = (tgt : Int)) (kt : y ≤ x → G E K kc ks tgt lv st w) (kf : ¬ y ≤ x → G E K kc ks (pc + 3) lv st w) : G E K kc ks pc lv (.int y :: .int x :: st) w := by
  obtain ⟨p, l, e, s, m, args, below, meth, c, Q, A, D, tys, X⟩ := E
  obtain ⟨cc, nL, own, Ts, ret, R⟩ := K
  intro HC H locs ls hP hD hS hl
  have C' := HC
  obtain ⟨hx, hb, hr, hml, hown, hts, hlocks, hK, hA, hXo, hX⟩ := C'
  exact lv_icmp_ge hx hb hd ht (fun h => kt h HC H locs ls hP hD hS hl) (fun h => kf h HC H locs ls hP hD hS hl)

theorem g_icmp_gt {x y : Int32} {off : Int} {tgt : Nat} (hd : decode K.1 pc = .ok (.if_icmp .gt off, 3)) (ht : (pc : Int) + off = (tgt : Int)) (kt : y < x → G E K kc ks tgt lv st w) (kf : ¬ y < x → G E K kc ks (pc + 3) lv st w) : G E K kc ks pc lv (.int y :: .int x :: st) w := by
  obtain ⟨p, l, e, s, m, args, below, meth, c, Q, A, D, tys, X⟩ := E
  obtain ⟨cc, nL, own, Ts, ret, R⟩ := K
  intro HC H locs ls hP hD hS hl
  have C' := HC
  obtain ⟨hx, hb, hr, hml, hown, hts, hlocks, hK, hA, hXo, hX⟩ := C'
  exact lv_icmp_gt hx hb hd ht (fun h => kt h HC H locs ls hP hD hS hl) (fun h => kf h HC H locs ls hP hD hS hl)

theorem g_icmp_le {x y : Int32} {off : Int} {tgt : Nat} (hd : decode K.1 pc = .ok (.if_icmp .le off, 3)) (ht : (pc : Int) + off = (tgt : Int)) (kt : x ≤ y → G E K kc ks tgt lv st w) (kf : ¬ x ≤ y → G E K kc ks (pc + 3) lv st w) : G E K kc ks pc lv (.int y :: .int x :: st) w := by
  obtain ⟨p, l, e, s, m, args, below, meth, c, Q, A, D, tys, X⟩ := E
  obtain ⟨cc, nL, own, Ts, ret, R⟩ := K
  intro HC H locs ls hP hD hS hl
  have C' := HC
  obtain ⟨hx, hb, hr, hml, hown, hts, hlocks, hK, hA, hXo, hX⟩ := C'
  exact lv_icmp_le hx hb hd ht (fun h => kt h HC H locs ls hP hD hS hl) (fun h => kf h HC H locs ls hP hD hS hl)

theorem g_goto {off : Int} {tgt : Nat} (hd : decode K.1 pc = .ok (.goto off, 3)) (ht : (pc : Int) + off = (tgt : Int)) (kk : G E K kc ks tgt lv st w) : G E K kc ks pc lv st w := by
  obtain ⟨p, l, e, s, m, args, below, meth, c, Q, A, D, tys, X⟩ := E
  obtain ⟨cc, nL, own, Ts, ret, R⟩ := K
  intro HC H locs ls hP hD hS hl
  have C' := HC
  obtain ⟨hx, hb, hr, hml, hown, hts, hlocks, hK, hA, hXo, hX⟩ := C'
  exact lv_goto hx hb hd ht (kk HC H locs ls hP hD hS hl)

theorem g_ldc {index : Nat} {v : Int32} (hd : decode K.1 pc = .ok (.ldc index, 2)) (hm : Cond.constant K.2.2.1 index v ∈ K.2.2.2.1) (kk : G E K kc ks (pc + 2) lv (.int v :: st) w) : G E K kc ks pc lv st w := by
  obtain ⟨p, l, e, s, m, args, below, meth, c, Q, A, D, tys, X⟩ := E
  obtain ⟨cc, nL, own, Ts, ret, R⟩ := K
  intro HC H locs ls hP hD hS hl
  have C' := HC
  obtain ⟨hx, hb, hr, hml, hown, hts, hlocks, hK, hA, hXo, hX⟩ := C'
  exact lv_ldc hx hb hown (hts _ hm) hd (kk HC H locs ls hP hD hS hl)

theorem g_ldc2 {index : Nat} {v : Int64} (hd : decode K.1 pc = .ok (.ldc2_w index, 3)) (hm : Cond.constantLong K.2.2.1 index v ∈ K.2.2.2.1) (kk : G E K kc ks (pc + 3) lv (.long v :: st) w) : G E K kc ks pc lv st w := by
  obtain ⟨p, l, e, s, m, args, below, meth, c, Q, A, D, tys, X⟩ := E
  obtain ⟨cc, nL, own, Ts, ret, R⟩ := K
  intro HC H locs ls hP hD hS hl
  have C' := HC
  obtain ⟨hx, hb, hr, hml, hown, hts, hlocks, hK, hA, hXo, hX⟩ := C'
  exact lv_ldc2 hx hb hown (hts _ hm) hd (kk HC H locs ls hP hD hS hl)

theorem g_lookup {dflt : Int} {ps : Array (Int × Int)} {len : Nat} {x : Int32} {off : Int} {tgt : Nat} (hd : decode K.1 pc = .ok (.lookupswitch dflt ps, len)) (hp : (ps.toList.zip (ps.toList.drop 1)).all (fun (a, next) => a.1 < next.1) = true) (ho : Op.lookupswitch.offset ps.toList dflt x.toInt = off) (ht : (pc : Int) + off = (tgt : Int)) (kk : G E K kc ks tgt lv st w) : G E K kc ks pc lv (.int x :: st) w := by
  obtain ⟨p, l, e, s, m, args, below, meth, c, Q, A, D, tys, X⟩ := E
  obtain ⟨cc, nL, own, Ts, ret, R⟩ := K
  intro HC H locs ls hP hD hS hl
  have C' := HC
  obtain ⟨hx, hb, hr, hml, hown, hts, hlocks, hK, hA, hXo, hX⟩ := C'
  exact lv_lookup hx hb hd hp ho ht (kk HC H locs ls hP hD hS hl)

theorem g_tableOut {dflt lo hi : Int} {offs : Array Int} {len : Nat} {x : Int32} {tgt : Nat} (hd : decode K.1 pc = .ok (.tableswitch dflt lo hi offs, len)) (h : x.toInt < lo ∨ hi < x.toInt) (ht : (pc : Int) + dflt = (tgt : Int)) (kk : G E K kc ks tgt lv st w) : G E K kc ks pc lv (.int x :: st) w := by
  obtain ⟨p, l, e, s, m, args, below, meth, c, Q, A, D, tys, X⟩ := E
  obtain ⟨cc, nL, own, Ts, ret, R⟩ := K
  intro HC H locs ls hP hD hS hl
  have C' := HC
  obtain ⟨hx, hb, hr, hml, hown, hts, hlocks, hK, hA, hXo, hX⟩ := C'
  exact lv_tableOut hx hb hd h ht (kk HC H locs ls hP hD hS hl)

theorem g_tableIn {dflt lo hi : Int} {offs : Array Int} {len : Nat} {x : Int32} {off : Int} {tgt : Nat} (hd : decode K.1 pc = .ok (.tableswitch dflt lo hi offs, len)) (h1 : ¬ x.toInt < lo) (h2 : ¬ hi < x.toInt) (ho : offs[(x.toInt - lo).toNat]? = some off) (ht : (pc : Int) + off = (tgt : Int)) (kk : G E K kc ks tgt lv st w) : G E K kc ks pc lv (.int x :: st) w := by
  obtain ⟨p, l, e, s, m, args, below, meth, c, Q, A, D, tys, X⟩ := E
  obtain ⟨cc, nL, own, Ts, ret, R⟩ := K
  intro HC H locs ls hP hD hS hl
  have C' := HC
  obtain ⟨hx, hb, hr, hml, hown, hts, hlocks, hK, hA, hXo, hX⟩ := C'
  exact lv_tableIn hx hb hd h1 h2 ho ht (kk HC H locs ls hP hD hS hl)

theorem g_get {C : String} {T : u_T} {N ci index a : Nat} (q0 k : Nat) (v : Value) {fs : List Value} (hd : decode K.1 pc = .ok (.getfield index, 3)) (hin : ∀ x ∈ u_ws C T N, x ∈ K.2.2.2.1) (hc : vwCl[ci]? = some (C, T, N)) (hm : Cond.fieldLink K.2.2.1 index (T k).1 (T k).2.1 (T k).2.2.1 ∈ K.2.2.2.1) (hk : k < N) (he : w[q0]? = some (a, .inr (ci, fs))) (hv : fs[k]? = some v) (kk : G E K kc ks (pc + 3) lv (v :: st) w) : G E K kc ks pc lv (.ref a :: st) w := by
  obtain ⟨p, l, e, s, m, args, below, meth, c, Q, A, D, tys, X⟩ := E
  obtain ⟨cc, nL, own, Ts, ret, R⟩ := K
  intro HC H locs ls hP hD hS hl
  have C' := HC
  obtain ⟨hx, hb, hr, hml, hown, hts, hlocks, hK, hA, hXo, hX⟩ := C'
  exact va_get (D := D) (C := C) (T := T) (N := N) hx hb hts hin hown hK hP q0 he hc k hk (hts _ hm) (fun _ h9 => h9) hv hd (kk HC H locs ls hP hD hS hl)

theorem g_put {C : String} {T : u_T} {N ci index a : Nat} (q0 k : Nat) (v : Value) (ty0 : Nat → FieldType) {ty : FieldType} {fs : List Value} {w2 : va_W} (hd : decode K.1 pc = .ok (.putfield index, 3)) (hin : ∀ x ∈ u_ws C T N, x ∈ K.2.2.2.1) (hty : ∀ k, k < N → parseFieldDescriptor (T k).2.2.1 = some (ty0 k)) (hnm : ∀ a, a < N → ∀ b, b < N → a ≠ b → (T a).2.1 ≠ (T b).2.1) (hc : vwCl[ci]? = some (C, T, N)) (hm : Cond.fieldLink K.2.2.1 index (T k).1 (T k).2.1 (T k).2.2.1 ∈ K.2.2.2.1) (hk : k < N) (hfin : (T k).2.2.2 = false) (hty1 : ty0 k = ty) (hn : narrow ty v = v) (hfit : fits ty v = true) (he : w[q0]? = some (a, .inr (ci, fs))) (hl : k < fs.length) (h2 : w.set q0 (a, .inr (ci, fs.set k v)) = w2) (kk : G E K kc ks (pc + 3) lv st w2) : G E K kc ks pc lv (v :: .ref a :: st) w := by
  obtain ⟨p, l, e, s, m, args, below, meth, c, Q, A, D, tys, X⟩ := E
  obtain ⟨cc, nL, own, Ts, ret, R⟩ := K
  intro HC H locs ls hP hD hS hl
  have C' := HC
  obtain ⟨hx, hb, hr, hml, hown, hts, hlocks, hK, hA, hXo, hX⟩ := C'
  exact va_put (D := D) (C := C) (T := T) (N := N) hx hb hts hin ty0 hty hnm hown hK hP hD hS q0 he hc k hk (hts _ hm) (fun _ h9 => h9) hfin (by rw [hty k hk, hty1]) hn hfit ‹_› hd (fun H1 locs1 hP1 hD1 hS1 => kk HC H1 locs1 ls (by rw [← h2]; exact hP1) (by rw [← h2]; exact hD1) hS1 ‹_›)

theorem g_iald {i : Int32} {a n : Nat} {cA : ClassId} {f : Nat → Int32} (q0 t0 : Nat) (hd : decode K.1 pc = .ok (.iaload, 1)) (ha : w[q0]? = some (a, .inl (cA, n, .inl f))) (ht : (eT E)[t0]? = some (cA, .int)) (hin : vp_in i n) (kk : G E K kc ks (pc + 1) lv (.int (f i.toNatClampNeg) :: st) w) : G E K kc ks pc lv (.int i :: .ref a :: st) w := by
  obtain ⟨p, l, e, s, m, args, below, meth, c, Q, A, D, tys, X⟩ := E
  obtain ⟨cc, nL, own, Ts, ret, R⟩ := K
  intro HC H locs ls hP hD hS hl
  have C' := HC
  obtain ⟨hx, hb, hr, hml, hown, hts, hlocks, hK, hA, hXo, hX⟩ := C'
  exact va_iald hx hb hK hP q0 t0 ha ht hin hd (kk HC H locs ls hP hD hS hl)

theorem g_zald {i : Int32} {a n : Nat} {cA : ClassId} {f : Nat → Int32} (q0 t0 : Nat) (hd : decode K.1 pc = .ok (.baload, 1)) (ha : w[q0]? = some (a, .inl (cA, n, .inl f))) (ht : (eT E)[t0]? = some (cA, .boolean)) (hin : vp_in i n) (kk : G E K kc ks (pc + 1) lv (.int (f i.toNatClampNeg) :: st) w) : G E K kc ks pc lv (.int i :: .ref a :: st) w := by
  obtain ⟨p, l, e, s, m, args, below, meth, c, Q, A, D, tys, X⟩ := E
  obtain ⟨cc, nL, own, Ts, ret, R⟩ := K
  intro HC H locs ls hP hD hS hl
  have C' := HC
  obtain ⟨hx, hb, hr, hml, hown, hts, hlocks, hK, hA, hXo, hX⟩ := C'
  exact va_zald hx hb hK hP q0 t0 ha ht hin hd (kk HC H locs ls hP hD hS hl)

theorem g_lald {i : Int32} {a n : Nat} {cA : ClassId} {f : Nat → Int64} (q0 t0 : Nat) (hd : decode K.1 pc = .ok (.laload, 1)) (ha : w[q0]? = some (a, .inl (cA, n, .inr (.inl f)))) (ht : (eT E)[t0]? = some (cA, .long)) (hin : vp_in i n) (kk : G E K kc ks (pc + 1) lv (.long (f i.toNatClampNeg) :: st) w) : G E K kc ks pc lv (.int i :: .ref a :: st) w := by
  obtain ⟨p, l, e, s, m, args, below, meth, c, Q, A, D, tys, X⟩ := E
  obtain ⟨cc, nL, own, Ts, ret, R⟩ := K
  intro HC H locs ls hP hD hS hl
  have C' := HC
  obtain ⟨hx, hb, hr, hml, hown, hts, hlocks, hK, hA, hXo, hX⟩ := C'
  exact va_lald hx hb hK hP q0 t0 ha ht hin hd (kk HC H locs ls hP hD hS hl)

theorem g_iast {i : Int32} {x : Int32} {a n : Nat} {cA : ClassId} {f : Nat → Int32} (q0 t0 : Nat) {w2 : va_W} (hd : decode K.1 pc = .ok (.iastore, 1)) (ha : w[q0]? = some (a, .inl (cA, n, .inl f))) (ht : (eT E)[t0]? = some (cA, .int)) (hin : vp_in i n) (h2 : w.set q0 (a, .inl (cA, n, .inl (upd f i.toNatClampNeg x))) = w2) (kk : G E K kc ks (pc + 1) lv st w2) : G E K kc ks pc lv (.int x :: .int i :: .ref a :: st) w := by
  obtain ⟨p, l, e, s, m, args, below, meth, c, Q, A, D, tys, X⟩ := E
  obtain ⟨cc, nL, own, Ts, ret, R⟩ := K
  intro HC H locs ls hP hD hS hl
  have C' := HC
  obtain ⟨hx, hb, hr, hml, hown, hts, hlocks, hK, hA, hXo, hX⟩ := C'
  exact va_iast hx hb hK hP hD hS q0 t0 ha ht hin hd (fun H1 locs1 hP1 hD1 hS1 => kk HC H1 locs1 ls (by rw [← h2]; exact hP1) (by rw [← h2]; exact hD1) hS1 hl)

theorem g_zast {i : Int32} {x : Int32} {a n : Nat} {cA : ClassId} {f : Nat → Int32} (q0 t0 : Nat) {w2 : va_W} (hd : decode K.1 pc = .ok (.bastore, 1)) (ha : w[q0]? = some (a, .inl (cA, n, .inl f))) (ht : (eT E)[t0]? = some (cA, .boolean)) (hin : vp_in i n) (h2 : w.set q0 (a, .inl (cA, n, .inl (upd f i.toNatClampNeg (vp_nar .boolean x)))) = w2) (kk : G E K kc ks (pc + 1) lv st w2) : G E K kc ks pc lv (.int x :: .int i :: .ref a :: st) w := by
  obtain ⟨p, l, e, s, m, args, below, meth, c, Q, A, D, tys, X⟩ := E
  obtain ⟨cc, nL, own, Ts, ret, R⟩ := K
  intro HC H locs ls hP hD hS hl
  have C' := HC
  obtain ⟨hx, hb, hr, hml, hown, hts, hlocks, hK, hA, hXo, hX⟩ := C'
  exact va_zast hx hb hK hP hD hS q0 t0 ha ht hin hd (fun H1 locs1 hP1 hD1 hS1 => kk HC H1 locs1 ls (by rw [← h2]; exact hP1) (by rw [← h2]; exact hD1) hS1 hl)

theorem g_last {i : Int32} {x : Int64} {a n : Nat} {cA : ClassId} {f : Nat → Int64} (q0 t0 : Nat) {w2 : va_W} (hd : decode K.1 pc = .ok (.lastore, 1)) (ha : w[q0]? = some (a, .inl (cA, n, .inr (.inl f)))) (ht : (eT E)[t0]? = some (cA, .long)) (hin : vp_in i n) (h2 : w.set q0 (a, .inl (cA, n, .inr (.inl (vp_updL f i.toNatClampNeg x)))) = w2) (kk : G E K kc ks (pc + 1) lv st w2) : G E K kc ks pc lv (.long x :: .int i :: .ref a :: st) w := by
  obtain ⟨p, l, e, s, m, args, below, meth, c, Q, A, D, tys, X⟩ := E
  obtain ⟨cc, nL, own, Ts, ret, R⟩ := K
  intro HC H locs ls hP hD hS hl
  have C' := HC
  obtain ⟨hx, hb, hr, hml, hown, hts, hlocks, hK, hA, hXo, hX⟩ := C'
  exact va_last hx hb hK hP hD hS q0 t0 ha ht hin hd (fun H1 locs1 hP1 hD1 hS1 => kk HC H1 locs1 ls (by rw [← h2]; exact hP1) (by rw [← h2]; exact hD1) hS1 hl)

theorem g_alen {x : vp_A} {a : Nat} {cA : ClassId} {ty : FieldType} {v : Int32} (q0 t0 : Nat) (hd : decode K.1 pc = .ok (.arraylength, 1)) (ha : w[q0]? = some (a, .inl (cA, x))) (ht : (eT E)[t0]? = some (cA, ty)) (hv : Int32.ofNat x.1 = v) (kk : G E K kc ks (pc + 1) lv (.int v :: st) w) : G E K kc ks pc lv (.ref a :: st) w := by
  obtain ⟨p, l, e, s, m, args, below, meth, c, Q, A, D, tys, X⟩ := E
  obtain ⟨cc, nL, own, Ts, ret, R⟩ := K
  intro HC H locs ls hP hD hS hl
  have C' := HC
  obtain ⟨hx, hb, hr, hml, hown, hts, hlocks, hK, hA, hXo, hX⟩ := C'
  exact va_alen hx hb hK hP q0 t0 ha ht hv hd (kk HC H locs ls hP hD hS hl)

theorem g_sub {lv2 : List (Nat × Value)} (ks2 : List Nat) (h2 : lv_pick lv ks2 = lv2) (kk : G E K kc ks pc lv2 st w) : G E K kc ks pc lv st w := by
  obtain ⟨p, l, e, s, m, args, below, meth, c, Q, A, D, tys, X⟩ := E
  obtain ⟨cc, nL, own, Ts, ret, R⟩ := K
  intro HC H locs ls hP hD hS hl
  have C' := HC
  obtain ⟨hx, hb, hr, hml, hown, hts, hlocks, hK, hA, hXo, hX⟩ := C'
  exact kk HC H locs ls hP hD hS (lv_sub hl ks2 h2)

theorem g_cast {pc2 : Nat} {lv2 : List (Nat × Value)} {st2 : List Value} {w2 : va_W} (h1 : pc = pc2) (h2 : lv = lv2) (h3 : st = st2) (h4 : w = w2) (kk : G E K kc ks pc2 lv2 st2 w2) : G E K kc ks pc lv st w := by
  subst h1; subst h2; subst h3; subst h4; exact kk
theorem g_widen {k2 n2 : Nat} (h1 : kc ≤ k2) (h2 : ks ≤ n2) (kk : G E K k2 n2 pc lv st w) : G E K kc ks pc lv st w := by
  obtain ⟨p, l, e, s, m, args, below, meth, c, Q, A, D, tys, X⟩ := E
  obtain ⟨cc, nL, own, Ts, ret, R⟩ := K
  intro HC H locs ls hP hD hS hl
  have C' := HC
  obtain ⟨hx, hb, hr, hml, hown, hts, hlocks, hK, hA, hXo, hX⟩ := C'
  exact W.widen h1 h2 (kk HC H locs ls hP hD hS hl)
end GB

/-! ===== contracts: args, a world before, an answer, a world behind ===== -/
def cPre (D : va_G) (tys : List (ClassId × FieldType)) (X : XT) (w : va_W) (sz : Nat) : State → Prop := fun U => U.heap.size = sz ∧ va_P D vwCl w U.heap ∧ va_K D vwCl tys U ∧ va_D (fun _ => True) w ∧ Xok X ∧ X (va_A w sz) U U.heap
def cPost (D : va_G) (tys : List (ClassId × FieldType)) (w w2 : va_W) (sz : Nat) : State → Prop := fun t => va_P D vwCl w2 t.heap ∧ va_K D vwCl tys t ∧ va_D (va_A w sz) w2
def Ci (l : Launch) (D : va_G) (tys : List (ClassId × FieldType)) (X : XT) (y : MethodName) (ws : List Cond) (rm : Room) (av : List Value) (w : va_W) (r : Int32) (w2 : va_W) : Prop :=
  ∀ sz : Nat, Met l y ws rm (va_Pc av (cPre D tys X w sz)) (va_Qi (fun (r2 : Int32) (_ : Unit) => r2 = r) (fun _ t => cPost D tys w w2 sz t) (va_A w sz)) 0 0 (va_A w sz)
def Cl (l : Launch) (D : va_G) (tys : List (ClassId × FieldType)) (X : XT) (y : MethodName) (ws : List Cond) (rm : Room) (av : List Value) (w : va_W) (r : Int64) (w2 : va_W) : Prop :=
  ∀ sz : Nat, Met l y ws rm (va_Pc av (cPre D tys X w sz)) (va_Ql (fun (r2 : Int64) (_ : Unit) => r2 = r) (fun _ t => cPost D tys w w2 sz t) (va_A w sz)) 0 0 (va_A w sz)
def Cv (l : Launch) (D : va_G) (tys : List (ClassId × FieldType)) (X : XT) (y : MethodName) (ws : List Cond) (rm : Room) (av : List Value) (w : va_W) (w2 : va_W) : Prop :=
  ∀ sz : Nat, Met l y ws rm (va_Pc av (cPre D tys X w sz)) (va_Qv (fun (_ : Unit) => True) (fun _ t => cPost D tys w w2 sz t) (va_A w sz)) 0 0 (va_A w sz)
/-- returning is all right: the answer r in the world w2 -/
def Ri (E : GE) (K : MK) (r : Int32) (w2 : va_W) : Prop := ∀ (pc : Nat) (lv : List (Nat × Value)), decode K.1 pc = .ok (.ireturn, 1) → G E K 0 0 pc lv [.int r] w2
def Rz (E : GE) (K : MK) (r : Int32) (w2 : va_W) : Prop := ∀ (pc : Nat) (lv : List (Nat × Value)), decode K.1 pc = .ok (.ireturn, 1) → (r = 0 ∨ r = 1) → G E K 0 0 pc lv [.int r] w2
theorem nb01 {r : Int32} (h : r = 0 ∨ r = 1) : narrow .boolean (.int r) = .int r := by
  rcases h with rfl | rfl <;> decide
def Rl (E : GE) (K : MK) (r : Int64) (w2 : va_W) : Prop := ∀ (pc : Nat) (lv : List (Nat × Value)), decode K.1 pc = .ok (.lreturn, 1) → G E K 0 0 pc lv [.long r] w2
def Rv (E : GE) (K : MK) (w2 : va_W) : Prop := ∀ (pc : Nat) (lv : List (Nat × Value)), decode K.1 pc = .ok (.return_, 1) → G E K 0 0 pc lv [] w2

theorem Ci_ofG {l : Launch} {D : va_G} {tys : List (ClassId × FieldType)} {X : XT} {y : MethodName} {ws ws2 : List Cond} {rm : Room} {av : List Value} {w : va_W} {r : Int32} {w2 : va_W} {cc : ByteArray} {nL : Nat} {ret : Option FieldType} (hy : plainFor y = true) (hw : ws = Cond.code y cc nL ret :: ws2) (hav : (lg_sl av).length ≤ nL) (ty : FieldType) (hty : ret = some ty) (hn : narrow ty (.int r) = .int r) (body : ∀ E : GE, eL E = l → eD E = D → eT E = tys → eX E = X → Ri E (cc, nL, y.cls, ws, ret, rm) r w2 → G E (cc, nL, y.cls, ws, ret, rm) 0 0 0 (lv_args 0 av) [] w) : Ci l D tys X y ws rm av w r w2 := by
  intro sz
  refine va_MetF (cc := cc) (maxL := nL) (ret := ret) hy hw ?_
  intro p e s m args below meth c s₁ B hml hv
  obtain ⟨rfl, hsz, hP, hK, hD0, hXo, hX⟩ := hv
  subst hsz
  have hD := hD0.self (sz := s.heap.size)
  have hl := lv_entry av (n := nL) hav
  rw [lg_entry_eq]
  refine body (p, l, e, s, m, av.toArray, below, meth, c, _, va_A w s.heap.size, D, tys, X) rfl rfl rfl rfl ?_ ⟨B.exec, B.bytes, B.returns, hml, findClass_of_methodNamed B.named, atoms_spec (ws := ws) B.pre, B.notSynchronized, hK, fun q h => Or.inr h, hXo, hX⟩ s.heap [] _ hP hD va_S.rf hl
  intro pc lv hd HC H locs ls hP1 hD1 hS1 hl1
  exact W.zret (ty := ty) B.exec B.bytes (by rw [B.returns, hty]) hn (fun t ht hW => ⟨⟨r, (), rfl, rfl, by rw [ht]; exact hP1, va_K.moved hW.alike hK, hD1⟩, hS1.F ht⟩) hS1.2.2 hd B.notSynchronized

theorem Cl_ofG {l : Launch} {D : va_G} {tys : List (ClassId × FieldType)} {X : XT} {y : MethodName} {ws ws2 : List Cond} {rm : Room} {av : List Value} {w : va_W} {r : Int64} {w2 : va_W} {cc : ByteArray} {nL : Nat} (hy : plainFor y = true) (hw : ws = Cond.code y cc nL (some .long) :: ws2) (hav : (lg_sl av).length ≤ nL) (body : ∀ E : GE, eL E = l → eD E = D → eT E = tys → eX E = X → Rl E (cc, nL, y.cls, ws, (some .long), rm) r w2 → G E (cc, nL, y.cls, ws, (some .long), rm) 0 0 0 (lv_args 0 av) [] w) : Cl l D tys X y ws rm av w r w2 := by
  intro sz
  refine va_MetF (cc := cc) (maxL := nL) (ret := (some .long)) hy hw ?_
  intro p e s m args below meth c s₁ B hml hv
  obtain ⟨rfl, hsz, hP, hK, hD0, hXo, hX⟩ := hv
  subst hsz
  have hD := hD0.self (sz := s.heap.size)
  have hl := lv_entry av (n := nL) hav
  rw [lg_entry_eq]
  refine body (p, l, e, s, m, av.toArray, below, meth, c, _, va_A w s.heap.size, D, tys, X) rfl rfl rfl rfl ?_ ⟨B.exec, B.bytes, B.returns, hml, findClass_of_methodNamed B.named, atoms_spec (ws := ws) B.pre, B.notSynchronized, hK, fun q h => Or.inr h, hXo, hX⟩ s.heap [] _ hP hD va_S.rf hl
  intro pc lv hd HC H locs ls hP1 hD1 hS1 hl1
  exact W.lret B.exec B.bytes B.returns (fun t ht hW => ⟨⟨r, (), rfl, rfl, by rw [ht]; exact hP1, va_K.moved hW.alike hK, hD1⟩, hS1.F ht⟩) hS1.2.2 hd B.notSynchronized

theorem Cv_ofG {l : Launch} {D : va_G} {tys : List (ClassId × FieldType)} {X : XT} {y : MethodName} {ws ws2 : List Cond} {rm : Room} {av : List Value} {w : va_W} {w2 : va_W} {cc : ByteArray} {nL : Nat} (hy : plainFor y = true) (hw : ws = Cond.code y cc nL none :: ws2) (hav : (lg_sl av).length ≤ nL) (body : ∀ E : GE, eL E = l → eD E = D → eT E = tys → eX E = X → Rv E (cc, nL, y.cls, ws, none, rm) w2 → G E (cc, nL, y.cls, ws, none, rm) 0 0 0 (lv_args 0 av) [] w) : Cv l D tys X y ws rm av w w2 := by
  intro sz
  refine va_MetF (cc := cc) (maxL := nL) (ret := none) hy hw ?_
  intro p e s m args below meth c s₁ B hml hv
  obtain ⟨rfl, hsz, hP, hK, hD0, hXo, hX⟩ := hv
  subst hsz
  have hD := hD0.self (sz := s.heap.size)
  have hl := lv_entry av (n := nL) hav
  rw [lg_entry_eq]
  refine body (p, l, e, s, m, av.toArray, below, meth, c, _, va_A w s.heap.size, D, tys, X) rfl rfl rfl rfl ?_ ⟨B.exec, B.bytes, B.returns, hml, findClass_of_methodNamed B.named, atoms_spec (ws := ws) B.pre, B.notSynchronized, hK, fun q h => Or.inr h, hXo, hX⟩ s.heap [] _ hP hD va_S.rf hl
  intro pc lv hd HC H locs ls hP1 hD1 hS1 hl1
  exact W.vret B.exec B.bytes B.returns (fun t ht hW => ⟨⟨(), rfl, trivial, by rw [ht]; exact hP1, va_K.moved hW.alike hK, hD1⟩, hS1.F ht⟩) hS1.2.2 hd B.notSynchronized

theorem Cz_ofG {l : Launch} {D : va_G} {tys : List (ClassId × FieldType)} {X : XT} {y : MethodName} {ws ws2 : List Cond} {rm : Room} {av : List Value} {w : va_W} {r : Int32} {w2 : va_W} {cc : ByteArray} {nL : Nat} (hy : plainFor y = true) (hw : ws = Cond.code y cc nL (some .boolean) :: ws2) (hav : (lg_sl av).length ≤ nL) (body : ∀ E : GE, eL E = l → eD E = D → eT E = tys → eX E = X → Rz E (cc, nL, y.cls, ws, some .boolean, rm) r w2 → G E (cc, nL, y.cls, ws, some .boolean, rm) 0 0 0 (lv_args 0 av) [] w) : Ci l D tys X y ws rm av w r w2 := by
  intro sz
  refine va_MetF (cc := cc) (maxL := nL) (ret := (some .boolean)) hy hw ?_
  intro p e s m args below meth c s₁ B hml hv
  obtain ⟨rfl, hsz, hP, hK, hD0, hXo, hX⟩ := hv
  subst hsz
  have hD := hD0.self (sz := s.heap.size)
  have hl := lv_entry av (n := nL) hav
  rw [lg_entry_eq]
  refine body (p, l, e, s, m, av.toArray, below, meth, c, _, va_A w s.heap.size, D, tys, X) rfl rfl rfl rfl ?_ ⟨B.exec, B.bytes, B.returns, hml, findClass_of_methodNamed B.named, atoms_spec (ws := ws) B.pre, B.notSynchronized, hK, fun q h => Or.inr h, hXo, hX⟩ s.heap [] _ hP hD va_S.rf hl
  intro pc lv hd h01 HC H locs ls hP1 hD1 hS1 hl1
  exact W.zret (ty := .boolean) B.exec B.bytes B.returns (nb01 h01) (fun t ht hW => ⟨⟨r, (), rfl, rfl, by rw [ht]; exact hP1, va_K.moved hW.alike hK, hD1⟩, hS1.F ht⟩) hS1.2.2 hd B.notSynchronized

/-! ===== calls: the callee's cells stand side by side at place i of the caller's world ===== -/
/-- what a call of an instance method needs of the tables, by program -/
def KV (K : MK) (idx : Nat) (C : String) (y : MethodName) (ws : List Cond) (rm : Room) (n : Nat) : Prop := ∃ (bytes : ByteArray) (maxL : Nat) (ret : Option FieldType) (ws2 : List Cond), GoodIn K.2.2.2.1 (wsV K.2.2.1 idx C y ws) ∧ ws = Cond.code y bytes maxL ret :: ws2 ∧ rm.cells = 0 ∧ rm.slots = 0 ∧ (y.cls = C ∧ y.cls ≠ "java/lang/invoke/MethodHandle" ∧ y.cls ≠ "java/lang/invoke/VarHandle" ∧ (parseMethodDescriptor y.desc).map (fun d => d.parameters.length) = some n) ∧ (rm.frames + 1 ≤ K.2.2.2.2.2.frames ∧ 8 + (maxL + 11) + rm.locals ≤ K.2.2.2.2.2.locals)
def KS (K : MK) (idx : Nat) (y : MethodName) (ws : List Cond) (rm : Room) (n : Nat) : Prop := ∃ (bytes : ByteArray) (maxL : Nat) (ret : Option FieldType) (ws2 : List Cond), GoodIn K.2.2.2.1 (va_wsS K.2.2.1 idx y ws) ∧ ws = Cond.code y bytes maxL ret :: ws2 ∧ rm.cells = 0 ∧ rm.slots = 0 ∧ (y.cls ≠ "java/lang/invoke/MethodHandle" ∧ y.cls ≠ "java/lang/invoke/VarHandle" ∧ (parseMethodDescriptor y.desc).map (fun d => d.parameters.length) = some n) ∧ (rm.frames + 1 ≤ K.2.2.2.2.2.frames ∧ 8 + (maxL + 11) + rm.locals ≤ K.2.2.2.2.2.locals)
theorem cPre_blind {D : va_G} {tys : List (ClassId × FieldType)} {X : XT} {w : va_W} {sz : Nat} {av : List Value} : FrameBlind (va_Pc av (cPre D tys X w sz)) := fun a U g mk q => by
  obtain ⟨q0, q1, qP, qK, qD, qo, qX⟩ := q
  exact ⟨q0, q1, qP, va_K.moved (u := U) (U := U.calling g mk a) (Vm.Alike.refl U.vm) qK, qD, qo, qo.1 _ U g mk a qX⟩
/-- a part of the world, side by side, and the rest -/
theorem va_mid {A0 : Nat → Prop} {D : va_G} {w wc wc2 : va_W} {H H1 : Heap} (i : Nat) (hi : (w.drop i).take wc.length = wc) (hP : va_P D vwCl w H) (hD : va_D A0 w)
    (hk : ∀ q : Nat, q < H.size → ¬ va_A wc H.size q → H1[q]? = H[q]?) (hF : ∀ q, va_A wc H.size q → A0 q) (hP1 : va_P D vwCl wc2 H1) (hD1 : va_D (va_A wc H.size) wc2) :
    va_P D vwCl (w.take i ++ (wc2 ++ w.drop (i + wc.length))) H1 ∧ va_D A0 (w.take i ++ (wc2 ++ w.drop (i + wc.length))) := by
  have atC : ∀ (k : Nat) (q : Nat × va_E), wc[k]? = some q → w[i + k]? = some q := by
    intro k q hq
    have hlt : k < wc.length := (List.getElem?_eq_some_iff.mp hq).1
    rw [← hi, List.getElem?_take, if_pos (by omega), List.getElem?_drop] at hq
    exact hq
  have atT : ∀ (k : Nat) (q : Nat × va_E), (w.take i)[k]? = some q → k < i ∧ w[k]? = some q := by
    intro k q hq
    rw [List.getElem?_take] at hq
    by_cases h : k < i
    · rw [if_pos h] at hq; exact ⟨h, hq⟩
    · rw [if_neg h] at hq; cases hq
  have atD : ∀ (k : Nat) (q : Nat × va_E), (w.drop (i + wc.length))[k]? = some q → w[i + wc.length + k]? = some q := by
    intro k q hq
    rw [List.getElem?_drop] at hq
    exact hq
  have apart : ∀ (j : Nat) (q : Nat × va_E), w[j]? = some q → (j < i ∨ i + wc.length ≤ j) → q.1 < H.size ∧ ¬ va_A wc H.size q.1 := by
    intro j q hq hj
    have hl := (hP j q hq).lt
    refine ⟨hl, fun h => ?_⟩
    rcases h with ⟨k2, e, h⟩ | h
    · have h4 := atC k2 (q.1, e) h
      have hlt : k2 < wc.length := (List.getElem?_eq_some_iff.mp h).1
      have hij := hD.1 j (i + k2) q (q.1, e) hq h4 rfl
      omega
    · omega
  have hPT : va_P D vwCl (w.take i) H1 := fun k q hq => by
    obtain ⟨h1, h2⟩ := atT k q hq
    obtain ⟨g1, g2⟩ := apart k q h2 (Or.inl h1)
    exact (hP k q h2).kept (hk q.1 g1 g2)
  have hPD : va_P D vwCl (w.drop (i + wc.length)) H1 := fun k q hq => by
    have h2 := atD k q hq
    obtain ⟨g1, g2⟩ := apart _ q h2 (Or.inr (by omega))
    exact (hP _ q h2).kept (hk q.1 g1 g2)
  refine ⟨va_P.app hPT (va_P.app hP1 hPD), va_D.app ⟨fun a b x y hx hy hxy => ?_, fun k q hq => hD.2 k q (atT k q hq).2⟩ (va_D.app (hD1.weaken (fun k q _ h => hF q.1 h)) ⟨fun a b x y hx hy hxy => ?_, fun k q hq => hD.2 _ q (atD k q hq)⟩ (fun a b x y hx hy hxy => ?_)) (fun a b x y hx hy hxy => ?_)⟩
  · exact hD.1 a b x y (atT a x hx).2 (atT b y hy).2 hxy
  · have := hD.1 _ _ x y (atD a x hx) (atD b y hy) hxy
    omega
  · exact (apart _ y (atD b y hy) (Or.inr (by omega))).2 (by rw [← hxy]; exact hD1.2 a x hx)
  · obtain ⟨h1, h2⟩ := atT a x hx
    have hyy : (∃ k : Nat, wc2[k]? = some y) ∨ (∃ k : Nat, (w.drop (i + wc.length))[k]? = some y) := by
      rcases List.mem_append.mp (List.mem_of_getElem? hy) with h | h
      · exact Or.inl (List.getElem?_of_mem h)
      · exact Or.inr (List.getElem?_of_mem h)
    rcases hyy with ⟨k, hk2⟩ | ⟨k, hk2⟩
    · exact (apart a x h2 (Or.inl h1)).2 (by rw [hxy]; exact hD1.2 k y hk2)
    · have := hD.1 _ _ x y h2 (atD k y hk2) hxy
      omega
theorem va_midP {A0 : Nat → Prop} {D : va_G} {w wc : va_W} {H : Heap} (i : Nat) (hi : (w.drop i).take wc.length = wc) (hP : va_P D vwCl w H) (hD : va_D A0 w) : va_P D vwCl wc H ∧ va_D (fun _ => True) wc ∧ ∀ (k : Nat) (q : Nat × va_E), wc[k]? = some q → A0 q.1 := by
  have atC : ∀ (k : Nat) (q : Nat × va_E), wc[k]? = some q → w[i + k]? = some q := by
    intro k q hq
    have hlt : k < wc.length := (List.getElem?_eq_some_iff.mp hq).1
    rw [← hi, List.getElem?_take, if_pos (by omega), List.getElem?_drop] at hq
    exact hq
  refine ⟨fun k q hq => hP _ q (atC k q hq), ⟨fun a b x y hx hy hxy => ?_, fun _ _ _ => trivial⟩, fun k q hq => hD.2 _ q (atC k q hq)⟩
  have := hD.1 _ _ x y (atC a x hx) (atC b y hy) hxy
  omega

section GC
variable {E : GE} {K : MK} {kc ks pc : Nat} {lv : List (Nat × Value)} {st : List Value} {w : va_W}

theorem g_mmax {index : Nat} {x y : Int32} (hd : decode K.1 pc = .ok (.invokestatic index, 3)) (h1 : Cond.methodLink K.2.2.1 index Lib.Math.max.name ∈ K.2.2.2.1) (h2 : Cond.static Lib.Math.max.name ∈ K.2.2.2.1) (h3 : Cond.initialized "java/lang/Math" ∈ K.2.2.2.1) (h4 : Cond.code Lib.Math.max.name Lib.Math.max.code 2 (some .int) ∈ K.2.2.2.1) (hR : 1 ≤ K.2.2.2.2.2.frames ∧ (st.map fun v => v.category).sum + 13 ≤ K.2.2.2.2.2.locals ∧ kc ≤ K.2.2.2.2.2.cells ∧ ks ≤ K.2.2.2.2.2.slots) (kk : G E K kc ks (pc + 3) lv (.int (if x < y then y else x) :: st) w) : G E K kc ks pc lv (.int y :: .int x :: st) w := by
  obtain ⟨p, l, e, s, m, args, below, meth, c, Q, A, D, tys, X⟩ := E
  obtain ⟨cc, nL, own, Ts, ret, R⟩ := K
  intro HC H locs ls hP hD hS hl
  have C' := HC
  obtain ⟨hx, hb, hr, hml, hown, hts, hlocks, hK, hA, hXo, hX⟩ := C'
  exact va_mmax hx hb (hml.trans hl.1.symm) hown (hts _ h1) (hts _ h2) (hts _ h3) (hts _ h4) hR.1 hR.2.1 hR.2.2.1 hR.2.2.2 hd (kk HC H locs ls hP hD hS hl)
theorem g_mmin {index : Nat} {x y : Int32} (hd : decode K.1 pc = .ok (.invokestatic index, 3)) (h1 : Cond.methodLink K.2.2.1 index Lib.Math.min.name ∈ K.2.2.2.1) (h2 : Cond.static Lib.Math.min.name ∈ K.2.2.2.1) (h3 : Cond.initialized "java/lang/Math" ∈ K.2.2.2.1) (h4 : Cond.code Lib.Math.min.name Lib.Math.min.code 2 (some .int) ∈ K.2.2.2.1) (hR : 1 ≤ K.2.2.2.2.2.frames ∧ (st.map fun v => v.category).sum + 13 ≤ K.2.2.2.2.2.locals ∧ kc ≤ K.2.2.2.2.2.cells ∧ ks ≤ K.2.2.2.2.2.slots) (kk : G E K kc ks (pc + 3) lv (.int (if y < x then y else x) :: st) w) : G E K kc ks pc lv (.int y :: .int x :: st) w := by
  obtain ⟨p, l, e, s, m, args, below, meth, c, Q, A, D, tys, X⟩ := E
  obtain ⟨cc, nL, own, Ts, ret, R⟩ := K
  intro HC H locs ls hP hD hS hl
  have C' := HC
  obtain ⟨hx, hb, hr, hml, hown, hts, hlocks, hK, hA, hXo, hX⟩ := C'
  exact va_mmin hx hb (hml.trans hl.1.symm) hown (hts _ h1) (hts _ h2) (hts _ h3) (hts _ h4) hR.1 hR.2.1 hR.2.2.1 hR.2.2.2 hd (kk HC H locs ls hP hD hS hl)

theorem g_callVi {C : String} {b ci : Nat} {q : vw_C} {fs : List Value} {idx n : Nat} {y : MethodName} {ws : List Cond} {rm : Room} {As rest : List Value} {wc wc2 w2 : va_W} {r : Int32} (i : Nat) (hd : decode K.1 pc = .ok (.invokevirtual idx, 3)) (kw : KV K idx C y ws rm n) (hC : Ci (eL E) (eD E) (eT E) (eX E) y ws rm (.ref b :: As) wc r wc2) (hn : As.length = n) (hi : (w.drop i).take wc.length = wc) (hc : vwCl[ci]? = some q) (hq : q.1 = C) (q0 : Nat) (hb0 : wc[q0]? = some (b, .inr (ci, fs))) (hst : st = As.reverse ++ .ref b :: rest) (hroom : (rest.map fun v => v.category).sum ≤ 8) (hcs : kc ≤ K.2.2.2.2.2.cells ∧ ks ≤ K.2.2.2.2.2.slots) (h2 : w.take i ++ (wc2 ++ w.drop (i + wc.length)) = w2) (kk : G E K kc ks (pc + 3) lv (.int r :: rest) w2) : G E K kc ks pc lv st w := by
  obtain ⟨p, l, e, s, m, args, below, meth, c, Q, A, D, tys, X⟩ := E
  obtain ⟨cc, nL, own, Ts, ret, R⟩ := K
  intro HC H locs ls hP hD hS hl
  have C' := HC
  obtain ⟨hx, hb, hr, hml, hown, hts, hlocks, hK, hA, hXo, hX⟩ := C'
  obtain ⟨bytes, maxL, retC, ws2, k1, k2, k3, k4, k5, k6⟩ := kw
  obtain ⟨hPc, hDc, hAc⟩ := va_midP i hi hP hD
  have hFc : ∀ q, va_A wc H.size q → A q := by
    intro q h
    rcases h with ⟨k, e2, h⟩ | h
    · exact hAc k (q, e2) h
    · exact hA q (Nat.le_trans hS.1 h)
  refine va_calli (va_runV (As := As) (rest := rest) ⟨hx, hb, hml, hown, hts⟩ (hC H.size) (cwV n hts k1 k2 k3 k4 k5 k6) ⟨cPre_blind, by rw [← hq]; exact va_recv hK hPc hc hb0, fun U hU hW => ⟨rfl, by rw [hU], by rw [hU]; exact hPc, va_K.moved hW.alike hK, hDc, hXo, hXo.2 A (va_A wc H.size) s U H hX hS.2.1 hFc hW hU⟩⟩ rfl hn hl.1 hst (lv_room hroom) hd ⟨by rw [Nat.add_zero]; exact hcs.1, by rw [Nat.add_zero]; exact hcs.2⟩) hS (fun q _ h => hFc q h) hFc (fun r2 u t H1 locs1 ht hvm hw hB hz1 hk1 hS1 => ?_)
  obtain ⟨hP1, hK1, hD1⟩ := hB
  rw [ht] at hP1
  obtain ⟨hP2, hD2⟩ := va_mid i hi hP hD hk1 hFc hP1 hD1
  rw [h2] at hP2 hD2
  have hw2 : r2 = r := hw
  subst hw2
  exact kk HC H1 locs1 ls hP2 hD2 hS1 hl

theorem g_callVl {C : String} {b ci : Nat} {q : vw_C} {fs : List Value} {idx n : Nat} {y : MethodName} {ws : List Cond} {rm : Room} {As rest : List Value} {wc wc2 w2 : va_W} {r : Int64} (i : Nat) (hd : decode K.1 pc = .ok (.invokevirtual idx, 3)) (kw : KV K idx C y ws rm n) (hC : Cl (eL E) (eD E) (eT E) (eX E) y ws rm (.ref b :: As) wc r wc2) (hn : As.length = n) (hi : (w.drop i).take wc.length = wc) (hc : vwCl[ci]? = some q) (hq : q.1 = C) (q0 : Nat) (hb0 : wc[q0]? = some (b, .inr (ci, fs))) (hst : st = As.reverse ++ .ref b :: rest) (hroom : (rest.map fun v => v.category).sum ≤ 8) (hcs : kc ≤ K.2.2.2.2.2.cells ∧ ks ≤ K.2.2.2.2.2.slots) (h2 : w.take i ++ (wc2 ++ w.drop (i + wc.length)) = w2) (kk : G E K kc ks (pc + 3) lv (.long r :: rest) w2) : G E K kc ks pc lv st w := by
  obtain ⟨p, l, e, s, m, args, below, meth, c, Q, A, D, tys, X⟩ := E
  obtain ⟨cc, nL, own, Ts, ret, R⟩ := K
  intro HC H locs ls hP hD hS hl
  have C' := HC
  obtain ⟨hx, hb, hr, hml, hown, hts, hlocks, hK, hA, hXo, hX⟩ := C'
  obtain ⟨bytes, maxL, retC, ws2, k1, k2, k3, k4, k5, k6⟩ := kw
  obtain ⟨hPc, hDc, hAc⟩ := va_midP i hi hP hD
  have hFc : ∀ q, va_A wc H.size q → A q := by
    intro q h
    rcases h with ⟨k, e2, h⟩ | h
    · exact hAc k (q, e2) h
    · exact hA q (Nat.le_trans hS.1 h)
  refine va_calll (va_runV (As := As) (rest := rest) ⟨hx, hb, hml, hown, hts⟩ (hC H.size) (cwV n hts k1 k2 k3 k4 k5 k6) ⟨cPre_blind, by rw [← hq]; exact va_recv hK hPc hc hb0, fun U hU hW => ⟨rfl, by rw [hU], by rw [hU]; exact hPc, va_K.moved hW.alike hK, hDc, hXo, hXo.2 A (va_A wc H.size) s U H hX hS.2.1 hFc hW hU⟩⟩ rfl hn hl.1 hst (lv_room hroom) hd ⟨by rw [Nat.add_zero]; exact hcs.1, by rw [Nat.add_zero]; exact hcs.2⟩) hS (fun q _ h => hFc q h) hFc (fun r2 u t H1 locs1 ht hvm hw hB hz1 hk1 hS1 => ?_)
  obtain ⟨hP1, hK1, hD1⟩ := hB
  rw [ht] at hP1
  obtain ⟨hP2, hD2⟩ := va_mid i hi hP hD hk1 hFc hP1 hD1
  rw [h2] at hP2 hD2
  have hw2 : r2 = r := hw
  subst hw2
  exact kk HC H1 locs1 ls hP2 hD2 hS1 hl

theorem g_callVv {C : String} {b ci : Nat} {q : vw_C} {fs : List Value} {idx n : Nat} {y : MethodName} {ws : List Cond} {rm : Room} {As rest : List Value} {wc wc2 w2 : va_W} (i : Nat) (hd : decode K.1 pc = .ok (.invokevirtual idx, 3)) (kw : KV K idx C y ws rm n) (hC : Cv (eL E) (eD E) (eT E) (eX E) y ws rm (.ref b :: As) wc wc2) (hn : As.length = n) (hi : (w.drop i).take wc.length = wc) (hc : vwCl[ci]? = some q) (hq : q.1 = C) (q0 : Nat) (hb0 : wc[q0]? = some (b, .inr (ci, fs))) (hst : st = As.reverse ++ .ref b :: rest) (hroom : (rest.map fun v => v.category).sum ≤ 8) (hcs : kc ≤ K.2.2.2.2.2.cells ∧ ks ≤ K.2.2.2.2.2.slots) (h2 : w.take i ++ (wc2 ++ w.drop (i + wc.length)) = w2) (kk : G E K kc ks (pc + 3) lv (rest) w2) : G E K kc ks pc lv st w := by
  obtain ⟨p, l, e, s, m, args, below, meth, c, Q, A, D, tys, X⟩ := E
  obtain ⟨cc, nL, own, Ts, ret, R⟩ := K
  intro HC H locs ls hP hD hS hl
  have C' := HC
  obtain ⟨hx, hb, hr, hml, hown, hts, hlocks, hK, hA, hXo, hX⟩ := C'
  obtain ⟨bytes, maxL, retC, ws2, k1, k2, k3, k4, k5, k6⟩ := kw
  obtain ⟨hPc, hDc, hAc⟩ := va_midP i hi hP hD
  have hFc : ∀ q, va_A wc H.size q → A q := by
    intro q h
    rcases h with ⟨k, e2, h⟩ | h
    · exact hAc k (q, e2) h
    · exact hA q (Nat.le_trans hS.1 h)
  refine va_callv (va_runV (As := As) (rest := rest) ⟨hx, hb, hml, hown, hts⟩ (hC H.size) (cwV n hts k1 k2 k3 k4 k5 k6) ⟨cPre_blind, by rw [← hq]; exact va_recv hK hPc hc hb0, fun U hU hW => ⟨rfl, by rw [hU], by rw [hU]; exact hPc, va_K.moved hW.alike hK, hDc, hXo, hXo.2 A (va_A wc H.size) s U H hX hS.2.1 hFc hW hU⟩⟩ rfl hn hl.1 hst (lv_room hroom) hd ⟨by rw [Nat.add_zero]; exact hcs.1, by rw [Nat.add_zero]; exact hcs.2⟩) hS (fun q _ h => hFc q h) hFc (fun u t H1 locs1 ht hvm hw hB hz1 hk1 hS1 => ?_)
  obtain ⟨hP1, hK1, hD1⟩ := hB
  rw [ht] at hP1
  obtain ⟨hP2, hD2⟩ := va_mid i hi hP hD hk1 hFc hP1 hD1
  rw [h2] at hP2 hD2
  exact kk HC H1 locs1 ls hP2 hD2 hS1 hl

theorem g_callSi {idx n : Nat} {y : MethodName} {ws : List Cond} {rm : Room} {As rest : List Value} {wc wc2 w2 : va_W} {r : Int32} (i : Nat) (hd : decode K.1 pc = .ok (.invokestatic idx, 3)) (kw : KS K idx y ws rm n) (hC : Ci (eL E) (eD E) (eT E) (eX E) y ws rm As wc r wc2) (hn : As.length = n) (hi : (w.drop i).take wc.length = wc) (hst : st = As.reverse ++ rest) (hroom : (rest.map fun v => v.category).sum ≤ 8) (hcs : kc ≤ K.2.2.2.2.2.cells ∧ ks ≤ K.2.2.2.2.2.slots) (h2 : w.take i ++ (wc2 ++ w.drop (i + wc.length)) = w2) (kk : G E K kc ks (pc + 3) lv (.int r :: rest) w2) : G E K kc ks pc lv st w := by
  obtain ⟨p, l, e, s, m, args, below, meth, c, Q, A, D, tys, X⟩ := E
  obtain ⟨cc, nL, own, Ts, ret, R⟩ := K
  intro HC H locs ls hP hD hS hl
  have C' := HC
  obtain ⟨hx, hb, hr, hml, hown, hts, hlocks, hK, hA, hXo, hX⟩ := C'
  obtain ⟨bytes, maxL, retC, ws2, k1, k2, k3, k4, k5, k6⟩ := kw
  obtain ⟨hPc, hDc, hAc⟩ := va_midP i hi hP hD
  have hFc : ∀ q, va_A wc H.size q → A q := by
    intro q h
    rcases h with ⟨k, e2, h⟩ | h
    · exact hAc k (q, e2) h
    · exact hA q (Nat.le_trans hS.1 h)
  refine va_calli (va_runS (As := As) (rest := rest) ⟨hx, hb, hml, hown, hts⟩ (hC H.size) (va_cwS n hts k1 k2 k3 k4 k5 k6) ⟨cPre_blind, fun U hU hW => ⟨rfl, by rw [hU], by rw [hU]; exact hPc, va_K.moved hW.alike hK, hDc, hXo, hXo.2 A (va_A wc H.size) s U H hX hS.2.1 hFc hW hU⟩⟩ rfl hn hl.1 hst (lv_room hroom) hd ⟨by rw [Nat.add_zero]; exact hcs.1, by rw [Nat.add_zero]; exact hcs.2⟩) hS (fun q _ h => hFc q h) hFc (fun r2 u t H1 locs1 ht hvm hw hB hz1 hk1 hS1 => ?_)
  obtain ⟨hP1, hK1, hD1⟩ := hB
  rw [ht] at hP1
  obtain ⟨hP2, hD2⟩ := va_mid i hi hP hD hk1 hFc hP1 hD1
  rw [h2] at hP2 hD2
  have hw2 : r2 = r := hw
  subst hw2
  exact kk HC H1 locs1 ls hP2 hD2 hS1 hl

theorem g_callSl {idx n : Nat} {y : MethodName} {ws : List Cond} {rm : Room} {As rest : List Value} {wc wc2 w2 : va_W} {r : Int64} (i : Nat) (hd : decode K.1 pc = .ok (.invokestatic idx, 3)) (kw : KS K idx y ws rm n) (hC : Cl (eL E) (eD E) (eT E) (eX E) y ws rm As wc r wc2) (hn : As.length = n) (hi : (w.drop i).take wc.length = wc) (hst : st = As.reverse ++ rest) (hroom : (rest.map fun v => v.category).sum ≤ 8) (hcs : kc ≤ K.2.2.2.2.2.cells ∧ ks ≤ K.2.2.2.2.2.slots) (h2 : w.take i ++ (wc2 ++ w.drop (i + wc.length)) = w2) (kk : G E K kc ks (pc + 3) lv (.long r :: rest) w2) : G E K kc ks pc lv st w := by
  obtain ⟨p, l, e, s, m, args, below, meth, c, Q, A, D, tys, X⟩ := E
  obtain ⟨cc, nL, own, Ts, ret, R⟩ := K
  intro HC H locs ls hP hD hS hl
  have C' := HC
  obtain ⟨hx, hb, hr, hml, hown, hts, hlocks, hK, hA, hXo, hX⟩ := C'
  obtain ⟨bytes, maxL, retC, ws2, k1, k2, k3, k4, k5, k6⟩ := kw
  obtain ⟨hPc, hDc, hAc⟩ := va_midP i hi hP hD
  have hFc : ∀ q, va_A wc H.size q → A q := by
    intro q h
    rcases h with ⟨k, e2, h⟩ | h
    · exact hAc k (q, e2) h
    · exact hA q (Nat.le_trans hS.1 h)
  refine va_calll (va_runS (As := As) (rest := rest) ⟨hx, hb, hml, hown, hts⟩ (hC H.size) (va_cwS n hts k1 k2 k3 k4 k5 k6) ⟨cPre_blind, fun U hU hW => ⟨rfl, by rw [hU], by rw [hU]; exact hPc, va_K.moved hW.alike hK, hDc, hXo, hXo.2 A (va_A wc H.size) s U H hX hS.2.1 hFc hW hU⟩⟩ rfl hn hl.1 hst (lv_room hroom) hd ⟨by rw [Nat.add_zero]; exact hcs.1, by rw [Nat.add_zero]; exact hcs.2⟩) hS (fun q _ h => hFc q h) hFc (fun r2 u t H1 locs1 ht hvm hw hB hz1 hk1 hS1 => ?_)
  obtain ⟨hP1, hK1, hD1⟩ := hB
  rw [ht] at hP1
  obtain ⟨hP2, hD2⟩ := va_mid i hi hP hD hk1 hFc hP1 hD1
  rw [h2] at hP2 hD2
  have hw2 : r2 = r := hw
  subst hw2
  exact kk HC H1 locs1 ls hP2 hD2 hS1 hl

theorem g_callSv {idx n : Nat} {y : MethodName} {ws : List Cond} {rm : Room} {As rest : List Value} {wc wc2 w2 : va_W} (i : Nat) (hd : decode K.1 pc = .ok (.invokestatic idx, 3)) (kw : KS K idx y ws rm n) (hC : Cv (eL E) (eD E) (eT E) (eX E) y ws rm As wc wc2) (hn : As.length = n) (hi : (w.drop i).take wc.length = wc) (hst : st = As.reverse ++ rest) (hroom : (rest.map fun v => v.category).sum ≤ 8) (hcs : kc ≤ K.2.2.2.2.2.cells ∧ ks ≤ K.2.2.2.2.2.slots) (h2 : w.take i ++ (wc2 ++ w.drop (i + wc.length)) = w2) (kk : G E K kc ks (pc + 3) lv (rest) w2) : G E K kc ks pc lv st w := by
  obtain ⟨p, l, e, s, m, args, below, meth, c, Q, A, D, tys, X⟩ := E
  obtain ⟨cc, nL, own, Ts, ret, R⟩ := K
  intro HC H locs ls hP hD hS hl
  have C' := HC
  obtain ⟨hx, hb, hr, hml, hown, hts, hlocks, hK, hA, hXo, hX⟩ := C'
  obtain ⟨bytes, maxL, retC, ws2, k1, k2, k3, k4, k5, k6⟩ := kw
  obtain ⟨hPc, hDc, hAc⟩ := va_midP i hi hP hD
  have hFc : ∀ q, va_A wc H.size q → A q := by
    intro q h
    rcases h with ⟨k, e2, h⟩ | h
    · exact hAc k (q, e2) h
    · exact hA q (Nat.le_trans hS.1 h)
  refine va_callv (va_runS (As := As) (rest := rest) ⟨hx, hb, hml, hown, hts⟩ (hC H.size) (va_cwS n hts k1 k2 k3 k4 k5 k6) ⟨cPre_blind, fun U hU hW => ⟨rfl, by rw [hU], by rw [hU]; exact hPc, va_K.moved hW.alike hK, hDc, hXo, hXo.2 A (va_A wc H.size) s U H hX hS.2.1 hFc hW hU⟩⟩ rfl hn hl.1 hst (lv_room hroom) hd ⟨by rw [Nat.add_zero]; exact hcs.1, by rw [Nat.add_zero]; exact hcs.2⟩) hS (fun q _ h => hFc q h) hFc (fun u t H1 locs1 ht hvm hw hB hz1 hk1 hS1 => ?_)
  obtain ⟨hP1, hK1, hD1⟩ := hB
  rw [ht] at hP1
  obtain ⟨hP2, hD2⟩ := va_mid i hi hP hD hk1 hFc hP1 hD1
  rw [h2] at hP2 hD2
  exact kk HC H1 locs1 ls hP2 hD2 hS1 hl

end GC

/-! ===== Option words ===== -/
def obd {α β : Type} (x : Option α) (f : α → Option β) : Option β := x.bind f
def olt {α β : Type} (x : α) (f : α → Option β) : Option β := f x
def ochi {β : Type} (i : Int32) (n : Nat) (x : Option β) : Option β := if i < 0 ∨ n ≤ i.toNatClampNeg then none else x
theorem ochi_some {β : Type} {i : Int32} {n : Nat} {x : Option β} {r : β} (h : ochi i n x = some r) : vp_in i n ∧ x = some r := by
  unfold ochi at h
  split at h
  · cases h
  · exact ⟨‹_›, h⟩
def ochk {β : Type} (c : Prop) [Decidable c] (x : Option β) : Option β := if c then x else none
theorem obd_some {α β : Type} {x : Option α} {f : α → Option β} {r : β} (h : obd x f = some r) : ∃ a, x = some a ∧ f a = some r := by
  cases x with
  | none => cases h
  | some a => exact ⟨a, rfl, h⟩
theorem olt_some {α β : Type} {x : α} {f : α → Option β} {r : β} (h : olt x f = some r) : ∃ a, x = a ∧ f a = some r := ⟨x, rfl, h⟩
theorem ochk_some {β : Type} {c : Prop} [Decidable c] {x : Option β} {r : β} (h : ochk c x = some r) : c ∧ x = some r := by
  unfold ochk at h
  split at h
  · exact ⟨‹c›, h⟩
  · cases h
theorem ift {β : Type} {c : Prop} [Decidable c] {x y : Option β} {r : β} (hc : c) (h : (if c then x else y) = some r) : x = some r := by rwa [if_pos hc] at h
theorem iff_ {β : Type} {c : Prop} [Decidable c] {x y : Option β} {r : β} (hc : ¬ c) (h : (if c then x else y) = some r) : y = some r := by rwa [if_neg hc] at h
theorem ifn {β : Type} {c : Prop} [Decidable c] {x y : Option β} {r : β} (hc : c) (h : (if ¬ c then x else y) = some r) : y = some r := by rwa [if_neg (not_not_intro hc)] at h
