/-! ===== constructors: new cells ===== -/
def eI (E : GE) : Prop := E.2.2.2.2.2.2.2.1.name = "<init>"
def Rn (E : GE) (K : MK) (mc ms : Nat) (pw : (Nat → Nat) → Prop) (w2 : (Nat → Nat) → va_W) : Prop := ∀ (pc : Nat) (lv : List (Nat × Value)) (ad : Nat → Nat), pw ad → decode K.1 pc = .ok (.return_, 1) → G E K mc ms pc lv [] (w2 ad)
def Cn (l : Launch) (D : va_G) (tys : List (ClassId × FieldType)) (X : XT) (y : MethodName) (ws : List Cond) (rm : Room) (mc ms : Nat) (av : List Value) (w : va_W) (pw : (Nat → Nat) → Prop) (w2 : (Nat → Nat) → va_W) : Prop :=
  ∀ sz : Nat, Met l y ws rm (va_Pc av (cPre D tys X w sz)) (va_Qv (fun ad : Nat → Nat => pw ad) (fun ad t => cPost D tys w (w2 ad) sz t) (va_A w sz)) mc ms (va_A w sz)
theorem Cn_ofG {l : Launch} {D : va_G} {tys : List (ClassId × FieldType)} {X : XT} {y : MethodName} {ws ws2 : List Cond} {rm : Room} {mc ms : Nat} {av : List Value} {w : va_W} {pw : (Nat → Nat) → Prop} {w2 : (Nat → Nat) → va_W} {cc : ByteArray} {nL : Nat} (hy : plainFor y = true) (hy1 : y.name = "<init>") (hw : ws = Cond.code y cc nL none :: ws2) (hav : (lg_sl av).length ≤ nL)
    (body : ∀ E : GE, eL E = l → eD E = D → eT E = tys → eX E = X → eI E → Rn E (cc, nL, y.cls, ws, none, rm) mc ms pw w2 → G E (cc, nL, y.cls, ws, none, rm) 0 0 0 (lv_args 0 av) [] w) : Cn l D tys X y ws rm mc ms av w pw w2 := by
  intro sz
  refine va_MetF (cc := cc) (maxL := nL) (ret := none) hy hw ?_
  intro p e s m args below meth c s₁ B hml hv
  obtain ⟨rfl, hsz, hP, hK, hD0, hXo, hX⟩ := hv
  subst hsz
  have hD := hD0.self (sz := s.heap.size)
  have hl := lv_entry av (n := nL) hav
  rw [lg_entry_eq]
  refine body (p, l, e, s, m, av.toArray, below, meth, c, _, va_A w s.heap.size, D, tys, X) rfl rfl rfl rfl (by have := (name_of_methodNamed B.named B.method).1; rw [hy1] at this; exact this) ?_ ⟨B.exec, B.bytes, B.returns, hml, findClass_of_methodNamed B.named, atoms_spec (ws := ws) B.pre, B.notSynchronized, hK, fun q h => Or.inr h, hXo, hX⟩ s.heap [] _ hP hD va_S.rf hl
  intro pc lv ad hpw hd HC H locs ls hP1 hD1 hS1 hl1
  exact W.vret B.exec B.bytes B.returns (fun t ht hW => ⟨⟨ad, rfl, hpw, by rw [ht]; exact hP1, va_K.moved hW.alike hK, hD1⟩, hS1.F ht⟩) hS1.2.2 hd B.notSynchronized
section GN
variable {E : GE} {K : MK} {kc ks pc : Nat} {lv : List (Nat × Value)} {st : List Value} {w : va_W} {P : XP}
theorem g_objInit {index a : Nat} (hd : decode K.1 pc = .ok (.invokespecial index, 3)) (h1 : Cond.methodLink K.2.2.1 index objectInit ∈ K.2.2.2.1) (h2 : Cond.instanceMethod objectInit ∈ K.2.2.2.1) (h3 : Cond.code objectInit ⟨#[0xb1]⟩ 1 none ∈ K.2.2.2.1) (hR : 1 ≤ K.2.2.2.2.2.frames ∧ (st.map fun v => v.category).sum + 12 ≤ K.2.2.2.2.2.locals) (kk : G E K kc ks (pc + 3) lv st w) : G E K kc ks pc lv (.ref a :: st) w := by
  obtain ⟨p, l, e, s, m, args, below, meth, c, Q, A, D, tys, X⟩ := E
  obtain ⟨cc, nL, own, Ts, ret, R⟩ := K
  intro HC H locs ls hP hD hS hl
  have C' := HC
  obtain ⟨hx, hb, hr, hml, hown, hts, hlocks, hK, hA, hXo, hX⟩ := C'
  exact W.objInit hx hb hown (hts _ h1) (hts _ h2) (hts _ h3) rfl (by rw [hml]; exact hl.1) rfl hd hR.1 (by show 2 * 0 + _ + 12 ≤ R.locals; have h9 : _ + 12 ≤ R.locals := hR.2; omega) (kk HC H locs ls hP hD hS hl)
theorem g_new {C : String} {T : u_T} {N ci index : Nat} {fs : List Value} (ty : Nat → FieldType) (hd : decode K.1 pc = .ok (.new index, 3)) (hin : ∀ x ∈ u_ws C T N, x ∈ K.2.2.2.1) (hty : ∀ k, k < N → parseFieldDescriptor (T k).2.2.1 = some (ty k)) (h1 : Cond.classLink K.2.2.1 index C ∈ K.2.2.2.1) (h2 : Cond.instantiable C N ∈ K.2.2.2.1) (h3 : Cond.initialized C ∈ K.2.2.2.1) (hc : vwCl[ci]? = some (C, T, N)) (hfs : ∀ j, j < N → defaultValue (ty j) = vp_V fs j) (hR : kc + 1 ≤ K.2.2.2.2.2.cells ∧ ks + N ≤ K.2.2.2.2.2.slots) (kk : ∀ q : Nat, G E K (kc + 1) (ks + N) (pc + 3) lv (.ref q :: st) (w ++ [(q, .inr (ci, fs))])) : G E K kc ks pc lv st w := by
  obtain ⟨p, l, e, s, m, args, below, meth, c, Q, A, D, tys, X⟩ := E
  obtain ⟨cc, nL, own, Ts, ret, R⟩ := K
  intro HC H locs ls hP hD hS hl
  have C' := HC
  obtain ⟨hx, hb, hr, hml, hown, hts, hlocks, hK, hA, hXo, hX⟩ := C'
  exact va_new (C := C) (T := T) (N := N) hx hb hts hin ty hty hown (hts _ h1) (hts _ h2) (hts _ h3) hK hP hD hS hA hc hfs hR.1 hR.2 hd (fun q H1 hP1 hD1 hS1 => kk q HC H1 locs ls hP1 hD1 hS1 hl)
theorem g_putF {C : String} {T : u_T} {N ci index a : Nat} (q0 k : Nat) (v : Value) (ty0 : Nat → FieldType) {ty : FieldType} {fs : List Value} {w2 : va_W} (hI : eI E) (hd : decode K.1 pc = .ok (.putfield index, 3)) (hin : ∀ x ∈ u_ws C T N, x ∈ K.2.2.2.1) (hty : ∀ k, k < N → parseFieldDescriptor (T k).2.2.1 = some (ty0 k)) (hnm : ∀ a, a < N → ∀ b, b < N → a ≠ b → (T a).2.1 ≠ (T b).2.1) (hc : vwCl[ci]? = some (C, T, N)) (hm : Cond.fieldLink K.2.2.1 index (T k).1 (T k).2.1 (T k).2.2.1 ∈ K.2.2.2.1) (hk : k < N) (hfin : (T k).2.2.2 = true) (hdecl : (T k).1 = K.2.2.1) (hty1 : ty0 k = ty) (hn : narrow ty v = v) (hfit : fits ty v = true) (he : w[q0]? = some (a, .inr (ci, fs))) (hl : k < fs.length) (h2 : w.set q0 (a, .inr (ci, fs.set k v)) = w2) (kk : G E K kc ks (pc + 3) lv st w2) : G E K kc ks pc lv (v :: .ref a :: st) w := by
  obtain ⟨p, l, e, s, m, args, below, meth, c, Q, A, D, tys, X⟩ := E
  obtain ⟨cc, nL, own, Ts, ret, R⟩ := K
  intro HC H locs ls hP hD hS hl
  have C' := HC
  obtain ⟨hx, hb, hr, hml, hown, hts, hlocks, hK, hA, hXo, hX⟩ := C'
  exact va_putF (D := D) (C := C) (T := T) (N := N) hx hb hts hin ty0 hty hnm hown hK hP hD hS q0 he hc k hk (hts _ hm) (fun _ h9 => h9) hfin hI hdecl (by rw [hty k hk, hty1]) hn hfit ‹_› hd (fun H1 locs1 hP1 hD1 hS1 => kk HC H1 locs1 ls (by rw [← h2]; exact hP1) (by rw [← h2]; exact hD1) hS1 ‹_›)
theorem cA_eq {D : va_G} {tys tys1 : List (ClassId × FieldType)} {s : State} {ty : FieldType} {c1 c2 : ClassId} {k j : Nat} (h1 : va_K D vwCl tys s) (h2 : va_K D vwCl tys1 s) (hk : tys[k]? = some (c1, ty)) (hj : tys1[j]? = some (c2, ty)) : c2 = c1 := by
  have a := (h1.2 k _ hk).2
  have b := (h2.2 j _ hj).2
  cases ty with
  | object C =>
    obtain ⟨_, _, _, _, _, a4⟩ := a
    obtain ⟨_, _, _, _, _, b4⟩ := b
    exact Option.some.inj (b4.symm.trans a4)
  | _ => exact Option.some.inj (Eq.trans (Eq.symm b) a)

theorem g_newI {cs : CS} {n : Int32} {N : Nat} (hty : eT E = tyA cs) (hd : decode K.1 pc = .ok (.newarray .int, 2)) (hm : Cond.arrayClass .int ∈ K.2.2.2.1) (hn : ¬ n < 0) (hN : n.toNatClampNeg = N) (hby : N * componentBytes .int ≤ 536870912) (hR : kc + 1 ≤ K.2.2.2.2.2.cells ∧ ks + N ≤ K.2.2.2.2.2.slots) (kk : ∀ q : Nat, G E K (kc + 1) (ks + N) (pc + 2) lv (.ref q :: st) (w ++ [(q, .inl (cs.1, N, .inl (fun _ => 0)))])) : G E K kc ks pc lv (.int n :: st) w := by
  obtain ⟨p, l, e, s, m, args, below, meth, c, Q, A, D, tys, X⟩ := E
  obtain ⟨cc, nL, own, Ts, ret, R⟩ := K
  intro HC H locs ls hP hD hS hl
  have C' := HC
  obtain ⟨hx, hb, hr, hml, hown, hts, hlocks, hK, hA, hXo, hX⟩ := C'
  have hty : tys = tyA cs := hty
  refine va_newa (atype := .int) (ty := .int) (a0 := (N, .inl (fun _ => 0))) hx hb (hts _ hm) rfl hK hP hD hS hA (fun cA => rfl) hn hN hby hR.1 hR.2 hd (fun q cA H1 hK1 hP1 hD1 hS1 => ?_)
  have e : cA = cs.1 := cA_eq (k := 0) (j := 4) hK hK1 (by rw [hty]; rfl) (by rw [hty]; rfl)
  subst e
  exact kk q HC H1 locs ls hP1 hD1 hS1 hl

theorem g_newJ {cs : CS} {n : Int32} {N : Nat} (hty : eT E = tyA cs) (hd : decode K.1 pc = .ok (.newarray .long, 2)) (hm : Cond.arrayClass .long ∈ K.2.2.2.1) (hn : ¬ n < 0) (hN : n.toNatClampNeg = N) (hby : N * componentBytes .long ≤ 536870912) (hR : kc + 1 ≤ K.2.2.2.2.2.cells ∧ ks + N ≤ K.2.2.2.2.2.slots) (kk : ∀ q : Nat, G E K (kc + 1) (ks + N) (pc + 2) lv (.ref q :: st) (w ++ [(q, .inl (cs.2.1, N, .inr (.inl (fun _ => 0))))])) : G E K kc ks pc lv (.int n :: st) w := by
  obtain ⟨p, l, e, s, m, args, below, meth, c, Q, A, D, tys, X⟩ := E
  obtain ⟨cc, nL, own, Ts, ret, R⟩ := K
  intro HC H locs ls hP hD hS hl
  have C' := HC
  obtain ⟨hx, hb, hr, hml, hown, hts, hlocks, hK, hA, hXo, hX⟩ := C'
  have hty : tys = tyA cs := hty
  refine va_newa (atype := .long) (ty := .long) (a0 := (N, .inr (.inl (fun _ => 0)))) hx hb (hts _ hm) rfl hK hP hD hS hA (fun cA => rfl) hn hN hby hR.1 hR.2 hd (fun q cA H1 hK1 hP1 hD1 hS1 => ?_)
  have e : cA = cs.2.1 := cA_eq (k := 1) (j := 4) hK hK1 (by rw [hty]; rfl) (by rw [hty]; rfl)
  subst e
  exact kk q HC H1 locs ls hP1 hD1 hS1 hl

theorem g_newZ {cs : CS} {n : Int32} {N : Nat} (hty : eT E = tyA cs) (hd : decode K.1 pc = .ok (.newarray .boolean, 2)) (hm : Cond.arrayClass .boolean ∈ K.2.2.2.1) (hn : ¬ n < 0) (hN : n.toNatClampNeg = N) (hby : N * componentBytes .boolean ≤ 536870912) (hR : kc + 1 ≤ K.2.2.2.2.2.cells ∧ ks + N ≤ K.2.2.2.2.2.slots) (kk : ∀ q : Nat, G E K (kc + 1) (ks + N) (pc + 2) lv (.ref q :: st) (w ++ [(q, .inl (cs.2.2.1, N, .inl (fun _ => 0)))])) : G E K kc ks pc lv (.int n :: st) w := by
  obtain ⟨p, l, e, s, m, args, below, meth, c, Q, A, D, tys, X⟩ := E
  obtain ⟨cc, nL, own, Ts, ret, R⟩ := K
  intro HC H locs ls hP hD hS hl
  have C' := HC
  obtain ⟨hx, hb, hr, hml, hown, hts, hlocks, hK, hA, hXo, hX⟩ := C'
  have hty : tys = tyA cs := hty
  refine va_newa (atype := .boolean) (ty := .boolean) (a0 := (N, .inl (fun _ => 0))) hx hb (hts _ hm) rfl hK hP hD hS hA (fun cA => rfl) hn hN hby hR.1 hR.2 hd (fun q cA H1 hK1 hP1 hD1 hS1 => ?_)
  have e : cA = cs.2.2.1 := cA_eq (k := 2) (j := 4) hK hK1 (by rw [hty]; rfl) (by rw [hty]; rfl)
  subst e
  exact kk q HC H1 locs ls hP1 hD1 hS1 hl

theorem g_newO {cs : CS} {n : Int32} {N index : Nat} (hN0 : eX E = XS P) (hty : eT E = tyA cs) (hd : decode K.1 pc = .ok (.anewarray index, 3)) (hm : Cond.classLink K.2.2.1 index RX0 ∈ K.2.2.2.1) (hn : ¬ n < 0) (hN : n.toNatClampNeg = N) (hby : N * 4 ≤ 536870912) (hR : kc + 1 ≤ K.2.2.2.2.2.cells ∧ ks + N ≤ K.2.2.2.2.2.slots) (kk : ∀ q : Nat, G E K (kc + 1) (ks + N) (pc + 3) lv (.ref q :: st) (w ++ [(q, .inl (cs.2.2.2, N, .inr (.inr (.inr (.inr (fun _ => none))))))])) : G E K kc ks pc lv (.int n :: st) w := by
  obtain ⟨p, l, e, s, m, args, below, meth, c, Q, A, D, tys, X⟩ := E
  obtain ⟨cc, nL, own, Ts, ret, R⟩ := K
  intro HC H locs ls hP hD hS hl
  have C' := HC
  obtain ⟨hx, hb, hr, hml, hown, hts, hlocks, hK, hA, hXo, hX⟩ := C'
  have hty : tys = tyA cs := hty
  have hN0 : X = XS P := hN0
  have hAO : va_AO RX0 s := by subst hN0; exact hX.1.2
  refine va_newq hx hb hown (hts _ hm) hAO hK hP hD hS hA hn hN hby hR.1 hR.2 hd (fun q cA H1 hK1 hP1 hD1 hS1 => ?_)
  have e : cA = cs.2.2.2 := cA_eq (k := 3) (j := 4) hK hK1 (by rw [hty]; rfl) (by rw [hty]; rfl)
  subst e
  exact kk q HC H1 locs ls hP1 hD1 hS1 hl
theorem g_astO {cs : CS} {a n v : Nat} {f : Nat → Option Nat} {vs : List Value} {i : Int32} (q0 qk : Nat) {w2 : va_W} (hty : eT E = tyA cs) (hd : decode K.1 pc = .ok (.aastore, 1)) (ha : w[q0]? = some (a, .inl (cs.2.2.2, n, .inr (.inr (.inr (.inr f)))))) (hv : w[qk]? = some (v, .inr (0, vs))) (hin : vp_in i n) (h2 : w.set q0 (a, .inl (cs.2.2.2, n, .inr (.inr (.inr (.inr (va_up f i.toNatClampNeg (some v))))))) = w2) (kk : G E K kc ks (pc + 1) lv st w2) : G E K kc ks pc lv (.ref v :: .int i :: .ref a :: st) w := by
  obtain ⟨p, l, e, s, m, args, below, meth, c, Q, A, D, tys, X⟩ := E
  obtain ⟨cc, nL, own, Ts, ret, R⟩ := K
  intro HC H locs ls hP hD hS hl
  have C' := HC
  obtain ⟨hx, hb, hr, hml, hown, hts, hlocks, hK, hA, hXo, hX⟩ := C'
  have hty : tys = tyA cs := hty
  exact va_astq (r := (RX0, TX0, 15)) hx hb hK hP hD hS q0 3 qk 0 ha (by rw [hty]; rfl) hv rfl hin hd (fun H1 locs1 hP1 hD1 hS1 => kk HC H1 locs1 ls (by rw [← h2]; exact hP1) (by rw [← h2]; exact hD1) hS1 hl)
theorem g_perm {w2 : va_W} (is : List Nat) (hn : va_nd is = true) (hs : is.map (fun i => w[i]?) = w2.map some) (kk : G E K kc ks pc lv st w2) : G E K kc ks pc lv st w := by
  obtain ⟨p, l, e, s, m, args, below, meth, c, Q, A, D, tys, X⟩ := E
  obtain ⟨cc, nL, own, Ts, ret, R⟩ := K
  intro HC H locs ls hP hD hS hl
  have C' := HC
  obtain ⟨hx, hb, hr, hml, hown, hts, hlocks, hK, hA, hXo, hX⟩ := C'
  refine kk HC H locs ls (fun k q hk => ?_) (hD.sub is hn hs) hS hl
  have h1 : (is.map (fun i => w[i]?))[k]? = some (some q) := by rw [hs, List.getElem?_map, hk]; rfl
  rw [List.getElem?_map] at h1
  cases hi : is[k]? with
  | none => rw [hi] at h1; cases h1
  | some i => rw [hi] at h1; exact hP i q (Option.some.inj h1)
def KI (K : MK) (idx : Nat) (y : MethodName) (ws : List Cond) (rm : Room) (mc ms n : Nat) : Prop := ∃ (bytes : ByteArray) (maxL : Nat) (ws2 : List Cond), GoodIn K.2.2.2.1 ws ∧ ws = Cond.code y bytes maxL none :: ws2 ∧ rm.cells = mc ∧ rm.slots = ms ∧ (Cond.initialized y.cls ∈ K.2.2.2.1 ∧ Cond.methodLink K.2.2.1 idx y ∈ K.2.2.2.1 ∧ Cond.instanceMethod y ∈ K.2.2.2.1) ∧ y.name = "<init>" ∧ (y.cls ≠ "java/lang/invoke/MethodHandle" ∧ y.cls ≠ "java/lang/invoke/VarHandle" ∧ (parseMethodDescriptor y.desc).map (fun d => d.parameters.length) = some n) ∧ (rm.frames + 1 ≤ K.2.2.2.2.2.frames ∧ 8 + (maxL + 11) + rm.locals ≤ K.2.2.2.2.2.locals)
theorem g_callI {b idx n mc ms : Nat} {y : MethodName} {ws : List Cond} {rm : Room} {As rest : List Value} {wc : va_W} {pw : (Nat → Nat) → Prop} {wc2 : (Nat → Nat) → va_W} (i : Nat) (hd : decode K.1 pc = .ok (.invokespecial idx, 3)) (kw : KI K idx y ws rm mc ms n) (hC : Cn (eL E) (eD E) (eT E) (eX E) y ws rm mc ms (.ref b :: As) wc pw wc2) (hn : As.length = n) (hi : (w.drop i).take wc.length = wc) (hst : st = As.reverse ++ .ref b :: rest) (hroom : (rest.map fun v => v.category).sum ≤ 8) (hcs : kc + mc ≤ K.2.2.2.2.2.cells ∧ ks + ms ≤ K.2.2.2.2.2.slots) (kk : ∀ ad : Nat → Nat, pw ad → G E K (kc + mc) (ks + ms) (pc + 3) lv rest (w.take i ++ (wc2 ad ++ w.drop (i + wc.length)))) : G E K kc ks pc lv st w := by
  obtain ⟨p, l, e, s, m, args, below, meth, c, Q, A, D, tys, X⟩ := E
  obtain ⟨cc, nL, own, Ts, ret, R⟩ := K
  intro HC H locs ls hP hD hS hl
  have C' := HC
  obtain ⟨hx, hb, hr, hml, hown, hts, hlocks, hK, hA, hXo, hX⟩ := C'
  obtain ⟨bytes, maxL, ws2, k1, k2, k3, k4, k7, k8, k5, k6⟩ := kw
  obtain ⟨hPc, hDc, hAc⟩ := va_midP i hi hP hD
  have hFc : ∀ q, va_A wc H.size q → A q := by
    intro q h
    rcases h with ⟨k, e2, h⟩ | h
    · exact hAc k (q, e2) h
    · exact hA q (Nat.le_trans hS.1 h)
  refine va_callv (va_runI (As := As) (rest := rest) ⟨hx, hb, hml, hown, hts⟩ (hC H.size) (cwI n hts k1 k2 k3 k4 (hts _ k7.1) (hts _ k7.2.1) (hts _ k7.2.2) k8 k5 k6) ⟨cPre_blind, fun U hU hW => ⟨rfl, by rw [hU], by rw [hU]; exact hPc, va_K.moved hW.alike hK, hDc, hXo, hXo.2 A (va_A wc H.size) s U H hX hS.2.1 hFc hW hU⟩⟩ rfl hn hl.1 hst (lv_room hroom) hd hcs) hS (fun q _ h => hFc q h) hFc (fun u t H1 locs1 ht hvm hw hB hz1 hk1 hS1 => ?_)
  obtain ⟨hP1, hK1, hD1⟩ := hB
  rw [ht] at hP1
  obtain ⟨hP2, hD2⟩ := va_mid i hi hP hD hk1 hFc hP1 hD1
  exact kk u hw HC H1 locs1 ls hP2 hD2 hS1 hl
end GN
