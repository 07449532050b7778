/-! THE CLAIM OUT OF ONE WALK OF THE LAW'S BODY. Your part is whole_start (and what it stands on); all else here is the same for every law, but numbers. -/
def R_law : String := "ThumbScaleLaw"
def lw_P (b : Addr) (xs : List Int32) (args : Array Value) (s : State) : Prop := args = #[.ref b] ∧ s.IntsAt b xs ∧ xs.length ≤ 3584 ∧ (Jvm.Cond.and given_1 narrow_1).before args s = true
def lw_Q (_ : Array Value) (s : State) (o : Outcome) (t : State) : Prop := o = .returned (some (.int 1)) ∧ Framed s o t [] 600000 7302250
def lw_Z (below : List Frame) (a : Array Value) (s : State) : State → Prop := fun t => ∃ o, t.status = .running ∧ Ended t below o ∧ lw_Q a s o t
/-- the law's own end, with 1 on the stack, nothing written that was there before, its room as the claim has it -/
theorem lw_ret {p : Program} {l : Launch} {e : Env} {s : State} {m : MethodId} {below : List Frame} {meth : Method} {c : Code} {b : Nat} (hx : p.tables.exec = Jvm.exec) (hb : c.code = code) (hr : meth.sig.returnType = ret) (hlocks : meth.locks = false) {pc : Nat} {H : Heap} {ls : Array Slot} (hdg : decode code pc = .ok (.ireturn, 1)) : W p l e room_1 s m #[Value.ref b] below meth c H [] 600000 7302250 (lw_Z below #[Value.ref b] s) (F0 m pc ls [.int 1]) := by
  intro T hT X
  obtain ⟨fs, hret, hrun, hended, hW, hframe⟩ := X.leave (v := some (.int 1)) (hlocks := hlocks) (fun h => by rw [hr] at h; cases h)
  have hmeth' : T.vm.method? m = some meth := X.method'
  refine ⟨T.setFrames fs, ?_, .returned (some (.int 1)), hrun, hended, rfl, ⟨_, rfl⟩, hW, hframe⟩
  jvm_step X.here [X.here.top, hx, hb, hdg, hmeth', hr, ret, narrow_b1]
  (try refine ⟨rfl, ?_⟩); (try refine ⟨rfl, ?_⟩)
  first | (intro acts; rw [hret _ acts rfl rfl rfl]) | rw [hret _ _ rfl rfl rfl]
  exact Steps.refl _
/-- what holds at the law's entry: the machine, the code, the tables' words (any of lw_tbl by 'hts w (by decide +kernel)'), the script of L ints xs at the cell b, what the Statement gives of the start (any of its parts by flat_of_before) -/
def lw_At (p : Program) (s : State) (m : MethodId) (meth : Method) (c : Code) (b L : Nat) (xs : Nat → Int32) : Prop :=
  p.tables.exec = Jvm.exec ∧ c.code = code ∧ meth.sig.returnType = ret ∧ c.maxLocals = 4 ∧ s.vm.findClass R_law = some m.cls ∧ (∀ w ∈ lw_tbl, w.before #[Value.ref b] s = true) ∧ va_X b L xs s s.heap ∧ b < s.heap.size ∧ meth.locks = false ∧ (Jvm.Cond.and given_1 narrow_1).before #[Value.ref b] s = true

/-! ===== the start: what the Statement gives ===== -/
abbrev nrw : List Cond := flatC (Jvm.Cond.and given_1 narrow_1)
set_option maxRecDepth 20000 in
theorem st_LEAST {args : Array Value} {s : State} {A : Nat → Prop} (hs : ∀ c ∈ nrw, c.before args s = true) (hts : ∀ w ∈ lw_tbl, w.before args s = true) (hA : ∀ a : Nat, a < s.heap.size → ¬ A a) : ∃ t : Nat, va_Z RX4 "LEAST" "[I" (.ref t) A s s.heap ∧ va_T .int t 8 (fun j => .int (aLEAST j)) A s s.heap := by
  suffices hf : ∀ j : Nat, j < 8 → (Term.elem (.static RX4 "LEAST" "[I") (.int (Int32.ofNat j))).eval args s none [] s = some (.int (aLEAST j)) by
    obtain ⟨t, h1, h2⟩ := va_Tof (tm := .static RX4 "LEAST" "[I") (ty := .int) (N := 8) (f := fun j => .int (aLEAST j)) (A := A) (by decide) (hs _ (by decide +kernel)) (va_eqt (hs (Cond.eq (.length (.static RX4 "LEAST" "[I")) (.int 8)) (by decide +kernel))) hf hA
    exact ⟨t, va_Zref (hts (.laysStatic RX4 "LEAST" "[I") (List.mem_of_getElem? (i := 687) rfl)) (hts (.initialized RX4) (List.mem_of_getElem? (i := 77) rfl)) h1 hA, h2⟩
  intro j hj
  have hj2 : j = 0 ∨ j = 1 ∨ j = 2 ∨ j = 3 ∨ j = 4 ∨ j = 5 ∨ j = 6 ∨ j = 7 := by omega
  rcases hj2 with rfl | rfl | rfl | rfl | rfl | rfl | rfl | rfl
  · exact va_eqt (z := 0) (hs (Cond.eq (.elem (.static RX4 "LEAST" "[I") (.int 0)) (.int 0)) (by decide +kernel))
  · exact va_eqt (z := 0) (hs (Cond.eq (.elem (.static RX4 "LEAST" "[I") (.int 1)) (.int 0)) (by decide +kernel))
  · exact va_eqt (z := 1) (hs (Cond.eq (.elem (.static RX4 "LEAST" "[I") (.int 2)) (.int 1)) (by decide +kernel))
  · exact va_eqt (z := 1) (hs (Cond.eq (.elem (.static RX4 "LEAST" "[I") (.int 3)) (.int 1)) (by decide +kernel))
  · exact va_eqt (z := 0) (hs (Cond.eq (.elem (.static RX4 "LEAST" "[I") (.int 4)) (.int 0)) (by decide +kernel))
  · exact va_eqt (z := 0) (hs (Cond.eq (.elem (.static RX4 "LEAST" "[I") (.int 5)) (.int 0)) (by decide +kernel))
  · exact va_eqt (z := 0) (hs (Cond.eq (.elem (.static RX4 "LEAST" "[I") (.int 6)) (.int 0)) (by decide +kernel))
  · exact va_eqt (z := 1) (hs (Cond.eq (.elem (.static RX4 "LEAST" "[I") (.int 7)) (.int 1)) (by decide +kernel))
set_option maxRecDepth 20000 in
theorem st_MOST {args : Array Value} {s : State} {A : Nat → Prop} (hs : ∀ c ∈ nrw, c.before args s = true) (hts : ∀ w ∈ lw_tbl, w.before args s = true) (hA : ∀ a : Nat, a < s.heap.size → ¬ A a) : ∃ t : Nat, va_Z RX4 "MOST" "[I" (.ref t) A s s.heap ∧ va_T .int t 8 (fun j => .int (aMOST j)) A s s.heap := by
  suffices hf : ∀ j : Nat, j < 8 → (Term.elem (.static RX4 "MOST" "[I") (.int (Int32.ofNat j))).eval args s none [] s = some (.int (aMOST j)) by
    obtain ⟨t, h1, h2⟩ := va_Tof (tm := .static RX4 "MOST" "[I") (ty := .int) (N := 8) (f := fun j => .int (aMOST j)) (A := A) (by decide) (hs _ (by decide +kernel)) (va_eqt (hs (Cond.eq (.length (.static RX4 "MOST" "[I")) (.int 8)) (by decide +kernel))) hf hA
    exact ⟨t, va_Zref (hts (.laysStatic RX4 "MOST" "[I") (List.mem_of_getElem? (i := 689) rfl)) (hts (.initialized RX4) (List.mem_of_getElem? (i := 77) rfl)) h1 hA, h2⟩
  intro j hj
  have hj2 : j = 0 ∨ j = 1 ∨ j = 2 ∨ j = 3 ∨ j = 4 ∨ j = 5 ∨ j = 6 ∨ j = 7 := by omega
  rcases hj2 with rfl | rfl | rfl | rfl | rfl | rfl | rfl | rfl
  · exact va_eqt (z := 10) (hs (Cond.eq (.elem (.static RX4 "MOST" "[I") (.int 0)) (.int 10)) (by decide +kernel))
  · exact va_eqt (z := 10) (hs (Cond.eq (.elem (.static RX4 "MOST" "[I") (.int 1)) (.int 10)) (by decide +kernel))
  · exact va_eqt (z := 9) (hs (Cond.eq (.elem (.static RX4 "MOST" "[I") (.int 2)) (.int 9)) (by decide +kernel))
  · exact va_eqt (z := 9) (hs (Cond.eq (.elem (.static RX4 "MOST" "[I") (.int 3)) (.int 9)) (by decide +kernel))
  · exact va_eqt (z := 999) (hs (Cond.eq (.elem (.static RX4 "MOST" "[I") (.int 4)) (.int 999)) (by decide +kernel))
  · exact va_eqt (z := 999) (hs (Cond.eq (.elem (.static RX4 "MOST" "[I") (.int 5)) (.int 999)) (by decide +kernel))
  · exact va_eqt (z := 99) (hs (Cond.eq (.elem (.static RX4 "MOST" "[I") (.int 6)) (.int 99)) (by decide +kernel))
  · exact va_eqt (z := 8) (hs (Cond.eq (.elem (.static RX4 "MOST" "[I") (.int 7)) (.int 8)) (by decide +kernel))
set_option maxRecDepth 20000 in
theorem st_FIRST {args : Array Value} {s : State} {A : Nat → Prop} (hs : ∀ c ∈ nrw, c.before args s = true) (hts : ∀ w ∈ lw_tbl, w.before args s = true) (hA : ∀ a : Nat, a < s.heap.size → ¬ A a) : ∃ t : Nat, va_Z RX4 "FIRST" "[I" (.ref t) A s s.heap ∧ va_T .int t 8 (fun j => .int (aFIRST j)) A s s.heap := by
  suffices hf : ∀ j : Nat, j < 8 → (Term.elem (.static RX4 "FIRST" "[I") (.int (Int32.ofNat j))).eval args s none [] s = some (.int (aFIRST j)) by
    obtain ⟨t, h1, h2⟩ := va_Tof (tm := .static RX4 "FIRST" "[I") (ty := .int) (N := 8) (f := fun j => .int (aFIRST j)) (A := A) (by decide) (hs _ (by decide +kernel)) (va_eqt (hs (Cond.eq (.length (.static RX4 "FIRST" "[I")) (.int 8)) (by decide +kernel))) hf hA
    exact ⟨t, va_Zref (hts (.laysStatic RX4 "FIRST" "[I") (List.mem_of_getElem? (i := 278) rfl)) (hts (.initialized RX4) (List.mem_of_getElem? (i := 77) rfl)) h1 hA, h2⟩
  intro j hj
  have hj2 : j = 0 ∨ j = 1 ∨ j = 2 ∨ j = 3 ∨ j = 4 ∨ j = 5 ∨ j = 6 ∨ j = 7 := by omega
  rcases hj2 with rfl | rfl | rfl | rfl | rfl | rfl | rfl | rfl
  · exact va_eqt (z := 2) (hs (Cond.eq (.elem (.static RX4 "FIRST" "[I") (.int 0)) (.int 2)) (by decide +kernel))
  · exact va_eqt (z := 6) (hs (Cond.eq (.elem (.static RX4 "FIRST" "[I") (.int 1)) (.int 6)) (by decide +kernel))
  · exact va_eqt (z := 5) (hs (Cond.eq (.elem (.static RX4 "FIRST" "[I") (.int 2)) (.int 5)) (by decide +kernel))
  · exact va_eqt (z := 1) (hs (Cond.eq (.elem (.static RX4 "FIRST" "[I") (.int 3)) (.int 1)) (by decide +kernel))
  · exact va_eqt (z := 100) (hs (Cond.eq (.elem (.static RX4 "FIRST" "[I") (.int 4)) (.int 100)) (by decide +kernel))
  · exact va_eqt (z := 20) (hs (Cond.eq (.elem (.static RX4 "FIRST" "[I") (.int 5)) (.int 20)) (by decide +kernel))
  · exact va_eqt (z := 1) (hs (Cond.eq (.elem (.static RX4 "FIRST" "[I") (.int 6)) (.int 1)) (by decide +kernel))
  · exact va_eqt (z := 6) (hs (Cond.eq (.elem (.static RX4 "FIRST" "[I") (.int 7)) (.int 6)) (by decide +kernel))
set_option maxRecDepth 20000 in
set_option maxHeartbeats 4000000 in
theorem st_strings {args : Array Value} {s : State} {A : Nat → Prop} (hs : ∀ c ∈ nrw, c.before args s = true) (hA : ∀ a : Nat, a < s.heap.size → ¬ A a) : ∃ adK adV : Nat → Nat, vk_S 13 sLen sByt adK adV A s s.heap ∧ ∀ i : Nat, i < 13 → (Term.string RX3 (sIdx.getD i 0)).eval args s none [] s = some (.ref (adK i)) := by
  refine vk_Sof (tm := fun i => Term.string RX3 (sIdx.getD i 0)) (fun i hi => Nat.lt_of_le_of_lt sLen_le (by decide)) (fun i hi => ?_) (fun i hi => ?_) (fun i hi => ?_) (fun i hi => ?_) (fun i hi j hj => ?_) (fun i j hi hj hij => ?_) hA
  · have h2 : i = 0 ∨ i = 1 ∨ i = 2 ∨ i = 3 ∨ i = 4 ∨ i = 5 ∨ i = 6 ∨ i = 7 ∨ i = 8 ∨ i = 9 ∨ i = 10 ∨ i = 11 ∨ i = 12 := by omega
    rcases h2 with rfl | rfl | rfl | rfl | rfl | rfl | rfl | rfl | rfl | rfl | rfl | rfl | rfl
    · exact hs _ (by decide +kernel)
    · exact hs _ (by decide +kernel)
    · exact hs _ (by decide +kernel)
    · exact hs _ (by decide +kernel)
    · exact hs _ (by decide +kernel)
    · exact hs _ (by decide +kernel)
    · exact hs _ (by decide +kernel)
    · exact hs _ (by decide +kernel)
    · exact hs _ (by decide +kernel)
    · exact hs _ (by decide +kernel)
    · exact hs _ (by decide +kernel)
    · exact hs _ (by decide +kernel)
    · exact hs _ (by decide +kernel)
  · have h2 : i = 0 ∨ i = 1 ∨ i = 2 ∨ i = 3 ∨ i = 4 ∨ i = 5 ∨ i = 6 ∨ i = 7 ∨ i = 8 ∨ i = 9 ∨ i = 10 ∨ i = 11 ∨ i = 12 := by omega
    rcases h2 with rfl | rfl | rfl | rfl | rfl | rfl | rfl | rfl | rfl | rfl | rfl | rfl | rfl
    · exact hs _ (by decide +kernel)
    · exact hs _ (by decide +kernel)
    · exact hs _ (by decide +kernel)
    · exact hs _ (by decide +kernel)
    · exact hs _ (by decide +kernel)
    · exact hs _ (by decide +kernel)
    · exact hs _ (by decide +kernel)
    · exact hs _ (by decide +kernel)
    · exact hs _ (by decide +kernel)
    · exact hs _ (by decide +kernel)
    · exact hs _ (by decide +kernel)
    · exact hs _ (by decide +kernel)
    · exact hs _ (by decide +kernel)
  · have h2 : i = 0 ∨ i = 1 ∨ i = 2 ∨ i = 3 ∨ i = 4 ∨ i = 5 ∨ i = 6 ∨ i = 7 ∨ i = 8 ∨ i = 9 ∨ i = 10 ∨ i = 11 ∨ i = 12 := by omega
    rcases h2 with rfl | rfl | rfl | rfl | rfl | rfl | rfl | rfl | rfl | rfl | rfl | rfl | rfl
    · exact hs _ (by decide +kernel)
    · exact hs _ (by decide +kernel)
    · exact hs _ (by decide +kernel)
    · exact hs _ (by decide +kernel)
    · exact hs _ (by decide +kernel)
    · exact hs _ (by decide +kernel)
    · exact hs _ (by decide +kernel)
    · exact hs _ (by decide +kernel)
    · exact hs _ (by decide +kernel)
    · exact hs _ (by decide +kernel)
    · exact hs _ (by decide +kernel)
    · exact hs _ (by decide +kernel)
    · exact hs _ (by decide +kernel)
  · have h2 : i = 0 ∨ i = 1 ∨ i = 2 ∨ i = 3 ∨ i = 4 ∨ i = 5 ∨ i = 6 ∨ i = 7 ∨ i = 8 ∨ i = 9 ∨ i = 10 ∨ i = 11 ∨ i = 12 := by omega
    rcases h2 with rfl | rfl | rfl | rfl | rfl | rfl | rfl | rfl | rfl | rfl | rfl | rfl | rfl
    · exact hs _ (by decide +kernel)
    · exact hs _ (by decide +kernel)
    · exact hs _ (by decide +kernel)
    · exact hs _ (by decide +kernel)
    · exact hs _ (by decide +kernel)
    · exact hs _ (by decide +kernel)
    · exact hs _ (by decide +kernel)
    · exact hs _ (by decide +kernel)
    · exact hs _ (by decide +kernel)
    · exact hs _ (by decide +kernel)
    · exact hs _ (by decide +kernel)
    · exact hs _ (by decide +kernel)
    · exact hs _ (by decide +kernel)
  · have h2 : i = 0 ∨ i = 1 ∨ i = 2 ∨ i = 3 ∨ i = 4 ∨ i = 5 ∨ i = 6 ∨ i = 7 ∨ i = 8 ∨ i = 9 ∨ i = 10 ∨ i = 11 ∨ i = 12 := by omega
    rcases h2 with rfl | rfl | rfl | rfl | rfl | rfl | rfl | rfl | rfl | rfl | rfl | rfl | rfl
    · have hj : j < 4 := hj
      have h3 : j = 0 ∨ j = 1 ∨ j = 2 ∨ j = 3 := by omega
      rcases h3 with rfl | rfl | rfl | rfl
      · exact hs _ (by decide +kernel)
      · exact hs _ (by decide +kernel)
      · exact hs _ (by decide +kernel)
      · exact hs _ (by decide +kernel)
    · have hj : j < 5 := hj
      have h3 : j = 0 ∨ j = 1 ∨ j = 2 ∨ j = 3 ∨ j = 4 := by omega
      rcases h3 with rfl | rfl | rfl | rfl | rfl
      · exact hs _ (by decide +kernel)
      · exact hs _ (by decide +kernel)
      · exact hs _ (by decide +kernel)
      · exact hs _ (by decide +kernel)
      · exact hs _ (by decide +kernel)
    · have hj : j < 3 := hj
      have h3 : j = 0 ∨ j = 1 ∨ j = 2 := by omega
      rcases h3 with rfl | rfl | rfl
      · exact hs _ (by decide +kernel)
      · exact hs _ (by decide +kernel)
      · exact hs _ (by decide +kernel)
    · have hj : j < 5 := hj
      have h3 : j = 0 ∨ j = 1 ∨ j = 2 ∨ j = 3 ∨ j = 4 := by omega
      rcases h3 with rfl | rfl | rfl | rfl | rfl
      · exact hs _ (by decide +kernel)
      · exact hs _ (by decide +kernel)
      · exact hs _ (by decide +kernel)
      · exact hs _ (by decide +kernel)
      · exact hs _ (by decide +kernel)
    · have hj : j < 6 := hj
      have h3 : j = 0 ∨ j = 1 ∨ j = 2 ∨ j = 3 ∨ j = 4 ∨ j = 5 := by omega
      rcases h3 with rfl | rfl | rfl | rfl | rfl | rfl
      · exact hs _ (by decide +kernel)
      · exact hs _ (by decide +kernel)
      · exact hs _ (by decide +kernel)
      · exact hs _ (by decide +kernel)
      · exact hs _ (by decide +kernel)
      · exact hs _ (by decide +kernel)
    · have hj : j < 5 := hj
      have h3 : j = 0 ∨ j = 1 ∨ j = 2 ∨ j = 3 ∨ j = 4 := by omega
      rcases h3 with rfl | rfl | rfl | rfl | rfl
      · exact hs _ (by decide +kernel)
      · exact hs _ (by decide +kernel)
      · exact hs _ (by decide +kernel)
      · exact hs _ (by decide +kernel)
      · exact hs _ (by decide +kernel)
    · have hj : j < 5 := hj
      have h3 : j = 0 ∨ j = 1 ∨ j = 2 ∨ j = 3 ∨ j = 4 := by omega
      rcases h3 with rfl | rfl | rfl | rfl | rfl
      · exact hs _ (by decide +kernel)
      · exact hs _ (by decide +kernel)
      · exact hs _ (by decide +kernel)
      · exact hs _ (by decide +kernel)
      · exact hs _ (by decide +kernel)
    · have hj : j < 2 := hj
      have h3 : j = 0 ∨ j = 1 := by omega
      rcases h3 with rfl | rfl
      · exact hs _ (by decide +kernel)
      · exact hs _ (by decide +kernel)
    · have hj : j < 2 := hj
      have h3 : j = 0 ∨ j = 1 := by omega
      rcases h3 with rfl | rfl
      · exact hs _ (by decide +kernel)
      · exact hs _ (by decide +kernel)
    · have hj : j < 3 := hj
      have h3 : j = 0 ∨ j = 1 ∨ j = 2 := by omega
      rcases h3 with rfl | rfl | rfl
      · exact hs _ (by decide +kernel)
      · exact hs _ (by decide +kernel)
      · exact hs _ (by decide +kernel)
    · have hj : j < 5 := hj
      have h3 : j = 0 ∨ j = 1 ∨ j = 2 ∨ j = 3 ∨ j = 4 := by omega
      rcases h3 with rfl | rfl | rfl | rfl | rfl
      · exact hs _ (by decide +kernel)
      · exact hs _ (by decide +kernel)
      · exact hs _ (by decide +kernel)
      · exact hs _ (by decide +kernel)
      · exact hs _ (by decide +kernel)
    · have hj : j < 6 := hj
      have h3 : j = 0 ∨ j = 1 ∨ j = 2 ∨ j = 3 ∨ j = 4 ∨ j = 5 := by omega
      rcases h3 with rfl | rfl | rfl | rfl | rfl | rfl
      · exact hs _ (by decide +kernel)
      · exact hs _ (by decide +kernel)
      · exact hs _ (by decide +kernel)
      · exact hs _ (by decide +kernel)
      · exact hs _ (by decide +kernel)
      · exact hs _ (by decide +kernel)
    · have hj : j < 8 := hj
      have h3 : j = 0 ∨ j = 1 ∨ j = 2 ∨ j = 3 ∨ j = 4 ∨ j = 5 ∨ j = 6 ∨ j = 7 := by omega
      rcases h3 with rfl | rfl | rfl | rfl | rfl | rfl | rfl | rfl
      · exact hs _ (by decide +kernel)
      · exact hs _ (by decide +kernel)
      · exact hs _ (by decide +kernel)
      · exact hs _ (by decide +kernel)
      · exact hs _ (by decide +kernel)
      · exact hs _ (by decide +kernel)
      · exact hs _ (by decide +kernel)
      · exact hs _ (by decide +kernel)
  · have h2 : i = 0 ∨ i = 1 ∨ i = 2 ∨ i = 3 ∨ i = 4 ∨ i = 5 ∨ i = 6 ∨ i = 7 ∨ i = 8 ∨ i = 9 ∨ i = 10 ∨ i = 11 ∨ i = 12 := by omega
    have h3 : j = 0 ∨ j = 1 ∨ j = 2 ∨ j = 3 ∨ j = 4 ∨ j = 5 ∨ j = 6 ∨ j = 7 ∨ j = 8 ∨ j = 9 ∨ j = 10 ∨ j = 11 ∨ j = 12 := by omega
    rcases h2 with rfl | rfl | rfl | rfl | rfl | rfl | rfl | rfl | rfl | rfl | rfl | rfl | rfl
    · rcases h3 with rfl | rfl | rfl | rfl | rfl | rfl | rfl | rfl | rfl | rfl | rfl | rfl | rfl
      · exact absurd rfl hij
      · exact Or.inl (hs _ (by decide +kernel))
      · exact Or.inl (hs _ (by decide +kernel))
      · exact Or.inl (hs _ (by decide +kernel))
      · exact Or.inl (hs _ (by decide +kernel))
      · exact Or.inl (hs _ (by decide +kernel))
      · exact Or.inl (hs _ (by decide +kernel))
      · exact Or.inl (hs _ (by decide +kernel))
      · exact Or.inl (hs _ (by decide +kernel))
      · exact Or.inl (hs _ (by decide +kernel))
      · exact Or.inl (hs _ (by decide +kernel))
      · exact Or.inl (hs _ (by decide +kernel))
      · exact Or.inl (hs _ (by decide +kernel))
    · rcases h3 with rfl | rfl | rfl | rfl | rfl | rfl | rfl | rfl | rfl | rfl | rfl | rfl | rfl
      · exact Or.inr (hs _ (by decide +kernel))
      · exact absurd rfl hij
      · exact Or.inl (hs _ (by decide +kernel))
      · exact Or.inl (hs _ (by decide +kernel))
      · exact Or.inl (hs _ (by decide +kernel))
      · exact Or.inl (hs _ (by decide +kernel))
      · exact Or.inl (hs _ (by decide +kernel))
      · exact Or.inl (hs _ (by decide +kernel))
      · exact Or.inl (hs _ (by decide +kernel))
      · exact Or.inl (hs _ (by decide +kernel))
      · exact Or.inl (hs _ (by decide +kernel))
      · exact Or.inl (hs _ (by decide +kernel))
      · exact Or.inl (hs _ (by decide +kernel))
    · rcases h3 with rfl | rfl | rfl | rfl | rfl | rfl | rfl | rfl | rfl | rfl | rfl | rfl | rfl
      · exact Or.inr (hs _ (by decide +kernel))
      · exact Or.inr (hs _ (by decide +kernel))
      · exact absurd rfl hij
      · exact Or.inl (hs _ (by decide +kernel))
      · exact Or.inl (hs _ (by decide +kernel))
      · exact Or.inl (hs _ (by decide +kernel))
      · exact Or.inl (hs _ (by decide +kernel))
      · exact Or.inl (hs _ (by decide +kernel))
      · exact Or.inl (hs _ (by decide +kernel))
      · exact Or.inl (hs _ (by decide +kernel))
      · exact Or.inl (hs _ (by decide +kernel))
      · exact Or.inl (hs _ (by decide +kernel))
      · exact Or.inl (hs _ (by decide +kernel))
    · rcases h3 with rfl | rfl | rfl | rfl | rfl | rfl | rfl | rfl | rfl | rfl | rfl | rfl | rfl
      · exact Or.inr (hs _ (by decide +kernel))
      · exact Or.inr (hs _ (by decide +kernel))
      · exact Or.inr (hs _ (by decide +kernel))
      · exact absurd rfl hij
      · exact Or.inl (hs _ (by decide +kernel))
      · exact Or.inl (hs _ (by decide +kernel))
      · exact Or.inl (hs _ (by decide +kernel))
      · exact Or.inl (hs _ (by decide +kernel))
      · exact Or.inl (hs _ (by decide +kernel))
      · exact Or.inl (hs _ (by decide +kernel))
      · exact Or.inl (hs _ (by decide +kernel))
      · exact Or.inl (hs _ (by decide +kernel))
      · exact Or.inl (hs _ (by decide +kernel))
    · rcases h3 with rfl | rfl | rfl | rfl | rfl | rfl | rfl | rfl | rfl | rfl | rfl | rfl | rfl
      · exact Or.inr (hs _ (by decide +kernel))
      · exact Or.inr (hs _ (by decide +kernel))
      · exact Or.inr (hs _ (by decide +kernel))
      · exact Or.inr (hs _ (by decide +kernel))
      · exact absurd rfl hij
      · exact Or.inl (hs _ (by decide +kernel))
      · exact Or.inl (hs _ (by decide +kernel))
      · exact Or.inr (hs _ (by decide +kernel))
      · exact Or.inr (hs _ (by decide +kernel))
      · exact Or.inr (hs _ (by decide +kernel))
      · exact Or.inr (hs _ (by decide +kernel))
      · exact Or.inr (hs _ (by decide +kernel))
      · exact Or.inr (hs _ (by decide +kernel))
    · rcases h3 with rfl | rfl | rfl | rfl | rfl | rfl | rfl | rfl | rfl | rfl | rfl | rfl | rfl
      · exact Or.inr (hs _ (by decide +kernel))
      · exact Or.inr (hs _ (by decide +kernel))
      · exact Or.inr (hs _ (by decide +kernel))
      · exact Or.inr (hs _ (by decide +kernel))
      · exact Or.inr (hs _ (by decide +kernel))
      · exact absurd rfl hij
      · exact Or.inl (hs _ (by decide +kernel))
      · exact Or.inr (hs _ (by decide +kernel))
      · exact Or.inr (hs _ (by decide +kernel))
      · exact Or.inr (hs _ (by decide +kernel))
      · exact Or.inr (hs _ (by decide +kernel))
      · exact Or.inr (hs _ (by decide +kernel))
      · exact Or.inr (hs _ (by decide +kernel))
    · rcases h3 with rfl | rfl | rfl | rfl | rfl | rfl | rfl | rfl | rfl | rfl | rfl | rfl | rfl
      · exact Or.inr (hs _ (by decide +kernel))
      · exact Or.inr (hs _ (by decide +kernel))
      · exact Or.inr (hs _ (by decide +kernel))
      · exact Or.inr (hs _ (by decide +kernel))
      · exact Or.inr (hs _ (by decide +kernel))
      · exact Or.inr (hs _ (by decide +kernel))
      · exact absurd rfl hij
      · exact Or.inr (hs _ (by decide +kernel))
      · exact Or.inr (hs _ (by decide +kernel))
      · exact Or.inr (hs _ (by decide +kernel))
      · exact Or.inr (hs _ (by decide +kernel))
      · exact Or.inr (hs _ (by decide +kernel))
      · exact Or.inr (hs _ (by decide +kernel))
    · rcases h3 with rfl | rfl | rfl | rfl | rfl | rfl | rfl | rfl | rfl | rfl | rfl | rfl | rfl
      · exact Or.inr (hs _ (by decide +kernel))
      · exact Or.inr (hs _ (by decide +kernel))
      · exact Or.inr (hs _ (by decide +kernel))
      · exact Or.inr (hs _ (by decide +kernel))
      · exact Or.inl (hs _ (by decide +kernel))
      · exact Or.inl (hs _ (by decide +kernel))
      · exact Or.inl (hs _ (by decide +kernel))
      · exact absurd rfl hij
      · exact Or.inl (hs _ (by decide +kernel))
      · exact Or.inl (hs _ (by decide +kernel))
      · exact Or.inl (hs _ (by decide +kernel))
      · exact Or.inl (hs _ (by decide +kernel))
      · exact Or.inl (hs _ (by decide +kernel))
    · rcases h3 with rfl | rfl | rfl | rfl | rfl | rfl | rfl | rfl | rfl | rfl | rfl | rfl | rfl
      · exact Or.inr (hs _ (by decide +kernel))
      · exact Or.inr (hs _ (by decide +kernel))
      · exact Or.inr (hs _ (by decide +kernel))
      · exact Or.inr (hs _ (by decide +kernel))
      · exact Or.inl (hs _ (by decide +kernel))
      · exact Or.inl (hs _ (by decide +kernel))
      · exact Or.inl (hs _ (by decide +kernel))
      · exact Or.inr (hs _ (by decide +kernel))
      · exact absurd rfl hij
      · exact Or.inl (hs _ (by decide +kernel))
      · exact Or.inl (hs _ (by decide +kernel))
      · exact Or.inl (hs _ (by decide +kernel))
      · exact Or.inl (hs _ (by decide +kernel))
    · rcases h3 with rfl | rfl | rfl | rfl | rfl | rfl | rfl | rfl | rfl | rfl | rfl | rfl | rfl
      · exact Or.inr (hs _ (by decide +kernel))
      · exact Or.inr (hs _ (by decide +kernel))
      · exact Or.inr (hs _ (by decide +kernel))
      · exact Or.inr (hs _ (by decide +kernel))
      · exact Or.inl (hs _ (by decide +kernel))
      · exact Or.inl (hs _ (by decide +kernel))
      · exact Or.inl (hs _ (by decide +kernel))
      · exact Or.inr (hs _ (by decide +kernel))
      · exact Or.inr (hs _ (by decide +kernel))
      · exact absurd rfl hij
      · exact Or.inl (hs _ (by decide +kernel))
      · exact Or.inl (hs _ (by decide +kernel))
      · exact Or.inl (hs _ (by decide +kernel))
    · rcases h3 with rfl | rfl | rfl | rfl | rfl | rfl | rfl | rfl | rfl | rfl | rfl | rfl | rfl
      · exact Or.inr (hs _ (by decide +kernel))
      · exact Or.inr (hs _ (by decide +kernel))
      · exact Or.inr (hs _ (by decide +kernel))
      · exact Or.inr (hs _ (by decide +kernel))
      · exact Or.inl (hs _ (by decide +kernel))
      · exact Or.inl (hs _ (by decide +kernel))
      · exact Or.inl (hs _ (by decide +kernel))
      · exact Or.inr (hs _ (by decide +kernel))
      · exact Or.inr (hs _ (by decide +kernel))
      · exact Or.inr (hs _ (by decide +kernel))
      · exact absurd rfl hij
      · exact Or.inl (hs _ (by decide +kernel))
      · exact Or.inl (hs _ (by decide +kernel))
    · rcases h3 with rfl | rfl | rfl | rfl | rfl | rfl | rfl | rfl | rfl | rfl | rfl | rfl | rfl
      · exact Or.inr (hs _ (by decide +kernel))
      · exact Or.inr (hs _ (by decide +kernel))
      · exact Or.inr (hs _ (by decide +kernel))
      · exact Or.inr (hs _ (by decide +kernel))
      · exact Or.inl (hs _ (by decide +kernel))
      · exact Or.inl (hs _ (by decide +kernel))
      · exact Or.inl (hs _ (by decide +kernel))
      · exact Or.inr (hs _ (by decide +kernel))
      · exact Or.inr (hs _ (by decide +kernel))
      · exact Or.inr (hs _ (by decide +kernel))
      · exact Or.inr (hs _ (by decide +kernel))
      · exact absurd rfl hij
      · exact Or.inl (hs _ (by decide +kernel))
    · rcases h3 with rfl | rfl | rfl | rfl | rfl | rfl | rfl | rfl | rfl | rfl | rfl | rfl | rfl
      · exact Or.inr (hs _ (by decide +kernel))
      · exact Or.inr (hs _ (by decide +kernel))
      · exact Or.inr (hs _ (by decide +kernel))
      · exact Or.inr (hs _ (by decide +kernel))
      · exact Or.inl (hs _ (by decide +kernel))
      · exact Or.inl (hs _ (by decide +kernel))
      · exact Or.inl (hs _ (by decide +kernel))
      · exact Or.inr (hs _ (by decide +kernel))
      · exact Or.inr (hs _ (by decide +kernel))
      · exact Or.inr (hs _ (by decide +kernel))
      · exact Or.inr (hs _ (by decide +kernel))
      · exact Or.inr (hs _ (by decide +kernel))
      · exact absurd rfl hij
set_option maxRecDepth 20000 in
theorem st_refs {args : Array Value} {s : State} {adK : Nat → Nat} (hts : ∀ w ∈ lw_tbl, w.before args s = true) (h : ∀ i : Nat, i < 13 → (Term.string RX3 (sIdx.getD i 0)).eval args s none [] s = some (.ref (adK i))) : ∀ i : Nat, i < 13 → vk_R RX3 (sIdx.getD i 0) (sTxt.getD i "") (adK i) s := by
  intro i hi
  refine vk_R.of (A := args) (hts _ ?_) ?_
  · have h2 : i = 0 ∨ i = 1 ∨ i = 2 ∨ i = 3 ∨ i = 4 ∨ i = 5 ∨ i = 6 ∨ i = 7 ∨ i = 8 ∨ i = 9 ∨ i = 10 ∨ i = 11 ∨ i = 12 := by omega
    rcases h2 with rfl | rfl | rfl | rfl | rfl | rfl | rfl | rfl | rfl | rfl | rfl | rfl | rfl
    · exact List.mem_of_getElem? (i := 396) rfl
    · exact List.mem_of_getElem? (i := 461) rfl
    · exact List.mem_of_getElem? (i := 470) rfl
    · exact List.mem_of_getElem? (i := 471) rfl
    · exact List.mem_of_getElem? (i := 498) rfl
    · exact List.mem_of_getElem? (i := 499) rfl
    · exact List.mem_of_getElem? (i := 500) rfl
    · exact List.mem_of_getElem? (i := 476) rfl
    · exact List.mem_of_getElem? (i := 477) rfl
    · exact List.mem_of_getElem? (i := 486) rfl
    · exact List.mem_of_getElem? (i := 487) rfl
    · exact List.mem_of_getElem? (i := 488) rfl
    · exact List.mem_of_getElem? (i := 489) rfl
  · exact h i hi
set_option maxRecDepth 20000 in
/-- what nobody writes, at the law's start -/
theorem st_X {args : Array Value} {s : State} {A : Nat → Prop} (hs : ∀ c ∈ nrw, c.before args s = true) (hts : ∀ w ∈ lw_tbl, w.before args s = true) (hA : ∀ a : Nat, a < s.heap.size → ¬ A a) : ∃ P : XP, XS P A s s.heap := by
  obtain ⟨t1, z1, y1⟩ := st_LEAST hs hts hA
  obtain ⟨t2, z2, y2⟩ := st_MOST hs hts hA
  obtain ⟨t3, z3, y3⟩ := st_FIRST hs hts hA
  obtain ⟨adK, adV, k1, k2⟩ := st_strings hs hA
  refine ⟨((t1, t2, t3), adK, adV), ⟨va_Nw.of rfl (hts _ (List.mem_of_getElem? (i := 288) rfl)), va_AO.of (A := args) (hts _ (List.mem_of_getElem? (i := 258) rfl))⟩, ⟨z1, y1⟩, ⟨z2, y2⟩, ⟨z3, y3⟩, ?_, ?_, st_refs hts k2, k1⟩
  · exact va_Zof (hts (.laysStatic RJ0 "COMPACT_STRINGS" "Z") (List.mem_of_getElem? (i := 414) rfl)) (hts (.initialized RJ0) (List.mem_of_getElem? (i := 80) rfl)) (va_eqi (hs _ (by decide +kernel))) hA
  · exact va_Zqof (hts (.laysStatic RJ3 "SIOOBE_FORMATTER" "Ljava/util/function/BiFunction;") (List.mem_of_getElem? (i := 430) rfl)) (hts (.initialized RJ3) (List.mem_of_getElem? (i := 82) rfl)) (hs _ (by decide +kernel)) hA
set_option maxRecDepth 20000 in
theorem st_classes {args : Array Value} {s : State} (hts : ∀ w ∈ lw_tbl, w.before args s = true) : ∃ (dC : Nat → ClassId) (dI : Nat → Nat → Nat), ∀ (k : Nat) (q : vw_C), vwCl[k]? = some q → u_Kn s q.1 q.2.1 q.2.2 (dC k) (dI k) := by
  obtain ⟨c0, i0, h0⟩ := u_known (C := RX0) (T := TX0) (N := 15) (n := 15) hts (fun w h => (gT_fX0 w h).1) (hts (.instantiable RX0 15) (List.mem_of_getElem? (i := 192) rfl))
  obtain ⟨c1, i1, h1⟩ := u_known (C := RX1) (T := TX1) (N := 1) (n := 1) hts (fun w h => (gT_fX1 w h).1) (hts (.instantiable RX1 1) (List.mem_of_getElem? (i := 260) rfl))
  obtain ⟨c2, i2, h2⟩ := u_known (C := RX2) (T := TX2) (N := 12) (n := 12) hts (fun w h => (gT_fX2 w h).1) (hts (.instantiable RX2 12) (List.mem_of_getElem? (i := 93) rfl))
  obtain ⟨c3, i3, h3⟩ := u_known (C := RX3) (T := TX3) (N := 9) (n := 9) hts (fun w h => (gT_fX3 w h).1) (hts (.instantiable RX3 9) (List.mem_of_getElem? (i := 158) rfl))
  obtain ⟨c4, i4, h4⟩ := u_known (C := RX4) (T := TX4) (N := 3) (n := 3) hts (fun w h => (gT_fX4 w h).1) (hts (.instantiable RX4 3) (List.mem_of_getElem? (i := 272) rfl))
  obtain ⟨c5, i5, h5⟩ := u_known (C := RX5) (T := TX5) (N := 16) (n := 16) hts (fun w h => (gT_fX5 w h).1) (hts (.instantiable RX5 16) (List.mem_of_getElem? (i := 85) rfl))
  obtain ⟨c6, i6, h6⟩ := u_known (C := RX6) (T := TX6) (N := 29) (n := 29) hts (fun w h => (gT_fX6 w h).1) (hts (.instantiable RX6 29) (List.mem_of_getElem? (i := 867) rfl))
  refine ⟨fun k => if k = 0 then c0 else if k = 1 then c1 else if k = 2 then c2 else if k = 3 then c3 else if k = 4 then c4 else if k = 5 then c5 else c6, fun k => if k = 0 then i0 else if k = 1 then i1 else if k = 2 then i2 else if k = 3 then i3 else if k = 4 then i4 else if k = 5 then i5 else i6, ?_⟩
  intro k q hq
  match k, hq with
  | 0, hq => cases hq; exact h0
  | 1, hq => cases hq; exact h1
  | 2, hq => cases hq; exact h2
  | 3, hq => cases hq; exact h3
  | 4, hq => cases hq; exact h4
  | 5, hq => cases hq; exact h5
  | 6, hq => cases hq; exact h6
  | k + 7, hq => simp [vwCl] at hq
theorem st_arr {args : Array Value} {s : State} {ty : FieldType} (h : (Cond.arrayClass ty).before args s = true) (hty : ty = .int ∨ ty = .long ∨ ty = .boolean) : ∃ c : ClassId, ArrOfT s c ty ∧ va_RA s c ty := by
  obtain ⟨c, k, comp, h1, h2, h3⟩ := Cond.arrayClass_spec h
  refine ⟨c, fun n z => ⟨fun k h => (by cases h), k, h2, comp, h3⟩, ?_⟩
  rcases hty with rfl | rfl | rfl <;> exact h1
theorem st_over {args : Array Value} {s : State} (h : (Cond.arrayOver (.object RX0)).before args s = true) : ∃ c : ClassId, ArrOfT s c (.object RX0) ∧ va_RA s c (.object RX0) := by
  obtain ⟨comp, c, k, h1, h2, h3, h4, h5⟩ := Cond.arrayOver_spec h
  exact ⟨c, fun n z => ⟨fun k h => (by cases h), k, h3, comp, h4⟩, k, comp, h3, h4, h1, h5⟩
theorem st_K {args : Array Value} {s : State} (hts : ∀ w ∈ lw_tbl, w.before args s = true) : ∃ (D : va_G) (cs : CS), va_K D vwCl (tyA cs) s := by
  obtain ⟨dC, dI, hc⟩ := st_classes hts
  obtain ⟨cI, a1, a2⟩ := st_arr (ty := .int) (hts _ (List.mem_of_getElem? (i := 156) rfl)) (Or.inl rfl)
  obtain ⟨cJ, b1, b2⟩ := st_arr (ty := .long) (hts _ (List.mem_of_getElem? (i := 270) rfl)) (Or.inr (Or.inl rfl))
  obtain ⟨cZ, c1, c2⟩ := st_arr (ty := .boolean) (hts _ (List.mem_of_getElem? (i := 269) rfl)) (Or.inr (Or.inr rfl))
  obtain ⟨cO, d1, d2⟩ := st_over (hts _ (List.mem_of_getElem? (i := 258) rfl))
  refine ⟨(dC, dI), (cI, cJ, cZ, cO), hc, fun k q hk => ?_⟩
  match k, hk with
  | 0, hk => cases hk; exact ⟨a1, a2⟩
  | 1, hk => cases hk; exact ⟨b1, b2⟩
  | 2, hk => cases hk; exact ⟨c1, c2⟩
  | 3, hk => cases hk; exact ⟨d1, d2⟩
  | k + 4, hk => simp [tyA] at hk
set_option maxRecDepth 20000 in
theorem vL_9 : KI kL 9 yX5_init wsX5_init rmX5_init 60 1709 0 := ⟨_, _, _, gT_X5_init, rfl, rfl, rfl, ⟨(List.mem_of_getElem? (i := 72) rfl), (List.mem_of_getElem? (i := 86) rfl), (List.mem_of_getElem? (i := 87) rfl)⟩, rfl, by decide +kernel, ⟨by decide, by decide⟩⟩
set_option maxRecDepth 20000 in
theorem vL_12 : KI kL 12 yX6_init wsX6_init rmX6_init 14 1924 0 := ⟨_, _, _, gT_X6_init, rfl, rfl, rfl, ⟨(List.mem_of_getElem? (i := 78) rfl), (List.mem_of_getElem? (i := 868) rfl), (List.mem_of_getElem? (i := 869) rfl)⟩, rfl, by decide +kernel, ⟨by decide, by decide⟩⟩
set_option maxHeartbeats 4000000 in
set_option maxRecDepth 100000 in
theorem start_open {p : Program} {e : Env} {s : State} {m : MethodId} {below : List Frame} {meth : Method} {c : Code} (l : Launch) {b L : Nat} {xs : Nat → Int32} (hL : L ≤ 3584) (C0 : lw_At p s m meth c b L xs) {Rel : ST → SO → Prop} {F : Nat} {v : SV} {o0 : SO} (S : Sims Rel F) (hv : f_X4_workBack F V01 = some v) (hv6 : f_X6_init_t F O00 = some o0) (hR0 : Rel (T0 v) o0) : W p l e room_1 s m #[Value.ref b] below meth c s.heap [] 0 0 (lw_Z below #[Value.ref b] s) (entryFrame m ([Value.ref b] : List Value).toArray 4) := by
  obtain ⟨hx, hb, hr, hml, hown, hts, hX, hbl, hlocks, hgv⟩ := id C0
  have hs := flat_of_before _ hgv
  have hA0 : ∀ a : Nat, a < s.heap.size → ¬ (fun q : Nat => s.heap.size ≤ q) a := fun a h q => Nat.not_le.mpr h q
  obtain ⟨P, hXS⟩ := st_X hs hts hA0
  obtain ⟨D, cs, hK⟩ := st_K hts
  have hl := lv_entry ([.ref b]) (n := 4) (Nat.le_of_ble_eq_true rfl)
  rw [lg_entry_eq]
  have key : G (p, l, e, s, m, #[Value.ref b], below, meth, c, lw_Z below #[Value.ref b] s, (fun q : Nat => s.heap.size ≤ q), D, tyA cs, XS P) kL 0 0 0 [(0, .ref b)] [] [] := by
    have hty : eT (p, l, e, s, m, #[Value.ref b], below, meth, c, lw_Z below #[Value.ref b] s, (fun q : Nat => s.heap.size ≤ q), D, tyA cs, XS P) = tyA cs := rfl
    have hN : eX (p, l, e, s, m, #[Value.ref b], below, meth, c, lw_Z below #[Value.ref b] s, (fun q : Nat => s.heap.size ≤ q), D, tyA cs, XS P) = XS P := rfl
    have hLX : LX (p, l, e, s, m, #[Value.ref b], below, meth, c, lw_Z below #[Value.ref b] s, (fun q : Nat => s.heap.size ≤ q), D, tyA cs, XS P) b L xs := ⟨hX, hbl, Nat.not_le.mpr hbl⟩
    have hend : ∀ (lv : List (Nat × Value)) (w : va_W), G (p, l, e, s, m, #[Value.ref b], below, meth, c, lw_Z below #[Value.ref b] s, (fun q : Nat => s.heap.size ≤ q), D, tyA cs, XS P) kL 76 3678 1511 lv [.int 1] w := by
      intro lv w HC H locs ls hP hD hS hl
      refine va_forget (fun q hq => hS.2.2 q hq) ?_
      refine W.widen (k := 600000) (n := 7302250) (by decide) (by decide) ?_
      exact lw_ret hx hb hr hlocks dL_law_1511
    generalize (p, l, e, s, m, #[Value.ref b], below, meth, c, lw_Z below #[Value.ref b] s, (fun q : Nat => s.heap.size ≤ q), D, tyA cs, XS P) = E at hty hN hLX hend ⊢
    refine g_new (C := RX5) (T := TX5) (N := 16) (ci := 5) (fs := [.null, .int 0, .null, .null, .null, .null, .null, .null, .null, .null, .null, .null, .null, .null, .int 0, .long 0]) tyX5 dL_law_0 (fun x h => (gT_fX5 x h).1) tyX5_ok (List.mem_of_getElem? (i := 84) rfl) (List.mem_of_getElem? (i := 85) rfl) (List.mem_of_getElem? (i := 72) rfl) rfl (by decide) ⟨by decide, by decide⟩ (fun q1 => ?_)
    refine g_dup dL_law_3 rfl ?_
    refine g_callI (As := []) (rest := [.ref q1]) 0 dL_law_4 vL_9 (c_X5_init hty hN hv) rfl rfl rfl (Nat.le_of_ble_eq_true rfl) ⟨by decide, by decide⟩ (fun ad1 hq => ?_)
    subst hq
    refine g_cast rfl rfl rfl (w2 := wT cs ad1 (T0 v)) (by simp) ?_
    refine g_astore_n (lv2 := [(1, .ref (ad1 0)), (0, .ref b)]) dL_law_7 rfl (by decide) rfl ?_
    refine g_new (C := RX6) (T := TX6) (N := 29) (ci := 6) (fs := [.int 0, .long 0, .null, .null, .null, .null, .null, .int 0, .int 0, .int 0, .int 0, .int 0, .int 0, .null, .null, .null, .int 0, .int 0, .int 0, .int 0, .null, .null, .null, .null, .null, .null, .long 0, .long 0, .int 0]) tyX6 dL_law_8 (fun x h => (gT_fX6 x h).1) tyX6_ok (List.mem_of_getElem? (i := 866) rfl) (List.mem_of_getElem? (i := 867) rfl) (List.mem_of_getElem? (i := 78) rfl) rfl (by decide) ⟨by decide, by decide⟩ (fun q2 => ?_)
    refine g_dup dL_law_11 rfl ?_
    refine g_callI (As := []) (rest := [.ref q2]) 61 dL_law_12 vL_12 (c_X6_init hty hv6) rfl (midR _ _ wT_len) rfl (Nat.le_of_ble_eq_true rfl) ⟨by decide, by decide⟩ (fun ad2 hq => ?_)
    subst hq
    refine g_cast rfl rfl rfl (w2 := wT cs ad1 (T0 v) ++ wO cs ad2 o0) (midR2 _ _ _ wT_len) ?_
    refine g_astore_n (lv2 := [(2, .ref (ad2 0)), (1, .ref (ad1 0)), (0, .ref b)]) dL_law_15 rfl (by decide) rfl ?_
    refine g_iconst (v := 0) dL_law_16 (by decide) ?_
    refine g_istore_n (lv2 := [(3, .int 0), (2, .ref (ad2 0)), (1, .ref (ad1 0)), (0, .ref b)]) dL_law_17 rfl (by decide) rfl ?_
    exact g_sub [3, 2, 1, 0] rfl (law_loop S hty hN hLX hL hend (L + 1) 0 (T0 v) o0 (Nat.zero_le _) (by omega) hR0)
  refine key ⟨hx, hb, hr, hml, hown, hts, hlocks, hK, fun q h => h, XS_ok P, hXS⟩ s.heap [] _ (fun k q h => by simp at h) ⟨fun i j p q h => by simp at h, fun k q h => by simp at h⟩ va_S.rf hl
