/-! ===== what nobody writes: static rows, String constants, the nest ===== -/
abbrev XP : Type := (Nat × Nat × Nat) × (Nat → Nat) × (Nat → Nat)
def aLEAST : Nat → Int32 := fun j => ([0, 0, 1, 1, 0, 0, 0, 1] : List Int32).getD j 0
def aMOST : Nat → Int32 := fun j => ([10, 10, 9, 9, 999, 999, 99, 8] : List Int32).getD j 0
def aFIRST : Nat → Int32 := fun j => ([2, 6, 5, 1, 100, 20, 1, 6] : List Int32).getD j 0
def sIdx : List Nat := [54, 66, 74, 76, 104, 110, 112, 114, 116, 125, 130, 132, 134]
def sTxt : List String := ["luck", "stall", "way", "thumb", "honest", "round", "scale", "in", "to", "old", "young", "friend", "stranger"]
def sLen : List Nat := [4, 5, 3, 5, 6, 5, 5, 2, 2, 3, 5, 6, 8]
def sByt : List (List Int32) := [[108, 117, 99, 107], [115, 116, 97, 108, 108], [119, 97, 121], [116, 104, 117, 109, 98], [104, 111, 110, 101, 115, 116], [114, 111, 117, 110, 100], [115, 99, 97, 108, 101], [105, 110], [116, 111], [111, 108, 100], [121, 111, 117, 110, 103], [102, 114, 105, 101, 110, 100], [115, 116, 114, 97, 110, 103, 101, 114]]
abbrev q_luck : Nat := 0
abbrev q_stall : Nat := 1
abbrev q_way : Nat := 2
abbrev q_thumb : Nat := 3
abbrev q_honest : Nat := 4
abbrev q_round : Nat := 5
abbrev q_scale : Nat := 6
abbrev q_in : Nat := 7
abbrev q_to : Nat := 8
abbrev q_old : Nat := 9
abbrev q_young : Nat := 10
abbrev q_friend : Nat := 11
abbrev q_stranger : Nat := 12
def XS (P : XP) : XT := fun A U H =>
  (va_Nw (.methodLinkNest RX4 44 yX5_power RX5) U ∧ va_AO RX0 U) ∧ (va_Z RX4 "LEAST" "[I" (.ref P.1.1) A U H ∧ va_T .int P.1.1 8 (fun j => .int (aLEAST j)) A U H) ∧ (va_Z RX4 "MOST" "[I" (.ref P.1.2.1) A U H ∧ va_T .int P.1.2.1 8 (fun j => .int (aMOST j)) A U H) ∧ (va_Z RX4 "FIRST" "[I" (.ref P.1.2.2) A U H ∧ va_T .int P.1.2.2 8 (fun j => .int (aFIRST j)) A U H) ∧
  va_Z RJ0 "COMPACT_STRINGS" "Z" (.int 1) A U H ∧ va_Zq RJ3 "SIOOBE_FORMATTER" "Ljava/util/function/BiFunction;" A U H ∧ (∀ i : Nat, i < 13 → vk_R RX3 (sIdx.getD i 0) (sTxt.getD i "") (P.2.1 i) U) ∧ vk_S 13 sLen sByt P.2.1 P.2.2 A U H
theorem XS_ok (P : XP) : Xok (XS P) := by
  refine ⟨fun A U g mk a h => ?_, fun A B s U H h hk hAB hW hU => ?_⟩
  · obtain ⟨⟨h1, h0⟩, ⟨h2, h3⟩, ⟨h4, h5⟩, ⟨h6, h7⟩, h8, h9, h10, h11⟩ := h
    have hv : U.vm.Alike (U.calling g mk a).vm := Vm.Alike.refl U.vm
    exact ⟨⟨va_Nw.same rfl rfl h1, va_AO.moved hv h0⟩, ⟨va_Z.moved hv h2, va_T.moved hv h3⟩, ⟨va_Z.moved hv h4, va_T.moved hv h5⟩, ⟨va_Z.moved hv h6, va_T.moved hv h7⟩, va_Z.moved hv h8, va_Zq.moved hv h9, fun i hi => (h10 i hi).same rfl, vk_S.moved hv h11⟩
  · obtain ⟨⟨h1, h0⟩, ⟨h2, h3⟩, ⟨h4, h5⟩, ⟨h6, h7⟩, h8, h9, h10, h11⟩ := h
    have hv : s.vm.Alike U.vm := hW.alike
    rw [hU]
    exact ⟨⟨va_Nw.warmM hW h1, va_AO.moved hv h0⟩, ⟨(va_Z.moved hv (h2.kept hk)).narrow hAB, (va_T.moved hv (h3.kept hk)).narrow hAB⟩, ⟨(va_Z.moved hv (h4.kept hk)).narrow hAB, (va_T.moved hv (h5.kept hk)).narrow hAB⟩, ⟨(va_Z.moved hv (h6.kept hk)).narrow hAB, (va_T.moved hv (h7.kept hk)).narrow hAB⟩, (va_Z.moved hv (h8.kept hk)).narrow hAB, (va_Zq.moved hv (h9.kept hk)).narrow hAB, fun i hi => (h10 i hi).warm hW, (vk_S.moved hv (h11.kept hk)).narrow hAB⟩
section GB2
variable {E : GE} {K : MK} {kc ks pc : Nat} {lv : List (Nat × Value)} {st : List Value} {w : va_W} {P : XP}
theorem g_ldcw {index : Nat} {v : Int32} (hd : decode K.1 pc = .ok (.ldc_w index, 3)) (hm : Cond.constant K.2.2.1 index v ∈ K.2.2.2.1) (kk : G E K kc ks (pc + 3) lv (.int v :: st) w) : G E K kc ks pc lv st w := by
  obtain ⟨p, l, e, s, m, args, below, meth, c, Q, A, D, tys, X⟩ := E
  obtain ⟨cc, nL, own, Ts, ret, R⟩ := K
  intro HC H locs ls hP hD hS hl
  have C' := HC
  obtain ⟨hx, hb, hr, hml, hown, hts, hlocks, hK, hA, hXo, hX⟩ := C'
  exact lv_ldcw hx hb hown (hts _ hm) hd (kk HC H locs ls hP hD hS hl)
theorem g_mabs {index : Nat} {x : Int32} (hd : decode K.1 pc = .ok (.invokestatic index, 3)) (h1 : Cond.methodLink K.2.2.1 index Lib.Math.abs.name ∈ K.2.2.2.1) (h2 : Cond.static Lib.Math.abs.name ∈ K.2.2.2.1) (h3 : Cond.initialized "java/lang/Math" ∈ K.2.2.2.1) (h4 : Cond.code Lib.Math.abs.name Lib.Math.abs.code 1 (some .int) ∈ K.2.2.2.1) (hR : 1 ≤ K.2.2.2.2.2.frames ∧ (st.map fun v => v.category).sum + 13 ≤ K.2.2.2.2.2.locals ∧ kc ≤ K.2.2.2.2.2.cells ∧ ks ≤ K.2.2.2.2.2.slots) (kk : G E K kc ks (pc + 3) lv (.int (if 0 ≤ x then x else 0 - x) :: st) w) : G E K kc ks pc lv (.int x :: st) w := by
  obtain ⟨p, l, e, s, m, args, below, meth, c, Q, A, D, tys, X⟩ := E
  obtain ⟨cc, nL, own, Ts, ret, R⟩ := K
  intro HC H locs ls hP hD hS hl
  have C' := HC
  obtain ⟨hx, hb, hr, hml, hown, hts, hlocks, hK, hA, hXo, hX⟩ := C'
  exact va_mabs hx hb (hml.trans hl.1.symm) hown (hts _ h1) (hts _ h2) (hts _ h3) (hts _ h4) hR.1 hR.2.1 hR.2.2.1 hR.2.2.2 hd (kk HC H locs ls hP hD hS hl)
theorem g_mabsl {index : Nat} {x : Int64} (hd : decode K.1 pc = .ok (.invokestatic index, 3)) (h1 : Cond.methodLink K.2.2.1 index Lib.MathLoose.abs_long.x ∈ K.2.2.2.1) (h2 : Cond.static Lib.MathLoose.abs_long.x ∈ K.2.2.2.1) (h3 : Cond.initialized "java/lang/Math" ∈ K.2.2.2.1) (h4 : Cond.code Lib.MathLoose.abs_long.x Lib.MathLoose.abs_long.code 2 (some .long) ∈ K.2.2.2.1) (hR : 1 ≤ K.2.2.2.2.2.frames ∧ (st.map fun v => v.category).sum + 13 ≤ K.2.2.2.2.2.locals ∧ kc ≤ K.2.2.2.2.2.cells ∧ ks ≤ K.2.2.2.2.2.slots) (kk : G E K kc ks (pc + 3) lv (.long (if 0 < x then x else -x) :: st) w) : G E K kc ks pc lv (.long x :: st) w := by
  obtain ⟨p, l, e, s, m, args, below, meth, c, Q, A, D, tys, X⟩ := E
  obtain ⟨cc, nL, own, Ts, ret, R⟩ := K
  intro HC H locs ls hP hD hS hl
  have C' := HC
  obtain ⟨hx, hb, hr, hml, hown, hts, hlocks, hK, hA, hXo, hX⟩ := C'
  exact va_mabs_long hx hb (hml.trans hl.1.symm) hown (hts _ h1) (hts _ h2) (hts _ h3) (hts _ h4) hR.1 hR.2.1 hR.2.2.1 hR.2.2.2 hd (kk HC H locs ls hP hD hS hl)
theorem g_gets {C n d : String} {v : Value} {index : Nat} (hN : eX E = XS P) (hz : ∀ (A : Nat → Prop) (U : State) (H : Heap), XS P A U H → va_Z C n d v A U H) (hd : decode K.1 pc = .ok (.getstatic index, 3)) (hm : Cond.fieldLink K.2.2.1 index C n d ∈ K.2.2.2.1) (kk : G E K kc ks (pc + 3) lv (v :: st) w) : G E K kc ks pc lv st w := by
  obtain ⟨p, l, e, s, m, args, below, meth, c, Q, A, D, tys, X⟩ := E
  obtain ⟨cc, nL, own, Ts, ret, R⟩ := K
  intro HC H locs ls hP hD hS hl
  have C' := HC
  obtain ⟨hx, hb, hr, hml, hown, hts, hlocks, hK, hA, hXo, hX⟩ := C'
  have hN : X = XS P := hN
  subst hN
  exact va_gets hx hb (hz _ _ _ hX) hS hown (hts _ hm) (fun _ h9 => h9) hd (kk HC H locs ls hP hD hS hl)
theorem g_ti {t N : Nat} {f : Nat → Int32} {i : Int32} (hN : eX E = XS P) (hz : ∀ (A : Nat → Prop) (U : State) (H : Heap), XS P A U H → va_T .int t N (fun j => .int (f j)) A U H) (hd : decode K.1 pc = .ok (.iaload, 1)) (hin : vp_in i N) (kk : G E K kc ks (pc + 1) lv (.int (f i.toNatClampNeg) :: st) w) : G E K kc ks pc lv (.int i :: .ref t :: st) w := by
  obtain ⟨p, l, e, s, m, args, below, meth, c, Q, A, D, tys, X⟩ := E
  obtain ⟨cc, nL, own, Ts, ret, R⟩ := K
  intro HC H locs ls hP hD hS hl
  have C' := HC
  obtain ⟨hx, hb, hr, hml, hown, hts, hlocks, hK, hA, hXo, hX⟩ := C'
  have hN : X = XS P := hN
  subst hN
  exact va_ti hx hb (hz _ _ _ hX) hS hin rfl hd (kk HC H locs ls hP hD hS hl)
theorem g_tb {t N : Nat} {f : Nat → Int32} {i : Int32} (hN : eX E = XS P) (hz : ∀ (A : Nat → Prop) (U : State) (H : Heap), XS P A U H → va_T .byte t N (fun j => .int (f j)) A U H) (hd : decode K.1 pc = .ok (.baload, 1)) (hin : vp_in i N) (kk : G E K kc ks (pc + 1) lv (.int (f i.toNatClampNeg) :: st) w) : G E K kc ks pc lv (.int i :: .ref t :: st) w := by
  obtain ⟨p, l, e, s, m, args, below, meth, c, Q, A, D, tys, X⟩ := E
  obtain ⟨cc, nL, own, Ts, ret, R⟩ := K
  intro HC H locs ls hP hD hS hl
  have C' := HC
  obtain ⟨hx, hb, hr, hml, hown, hts, hlocks, hK, hA, hXo, hX⟩ := C'
  have hN : X = XS P := hN
  subst hN
  exact va_tb hx hb (hz _ _ _ hX) hS hin rfl hd (kk HC H locs ls hP hD hS hl)
theorem g_tlen {t N : Nat} {f : Nat → Value} {ty : FieldType} (hN : eX E = XS P) (hz : ∀ (A : Nat → Prop) (U : State) (H : Heap), XS P A U H → va_T ty t N f A U H) (hd : decode K.1 pc = .ok (.arraylength, 1)) (kk : G E K kc ks (pc + 1) lv (.int (Int32.ofNat N) :: st) w) : G E K kc ks pc lv (.ref t :: st) w := by
  obtain ⟨p, l, e, s, m, args, below, meth, c, Q, A, D, tys, X⟩ := E
  obtain ⟨cc, nL, own, Ts, ret, R⟩ := K
  intro HC H locs ls hP hD hS hl
  have C' := HC
  obtain ⟨hx, hb, hr, hml, hown, hts, hlocks, hK, hA, hXo, hX⟩ := C'
  have hN : X = XS P := hN
  subst hN
  exact va_tlen hx hb (hz _ _ _ hX) hS rfl hd (kk HC H locs ls hP hD hS hl)
theorem g_ldcS {index i : Nat} (hN : eX E = XS P) (hi : i < 13) (hid : sIdx.getD i 0 = index) (hown0 : K.2.2.1 = RX3) (hd : decode K.1 pc = .ok (.ldc index, 2)) (kk : G E K kc ks (pc + 2) lv (.ref (P.2.1 i) :: st) w) : G E K kc ks pc lv st w := by
  obtain ⟨p, l, e, s, m, args, below, meth, c, Q, A, D, tys, X⟩ := E
  obtain ⟨cc, nL, own, Ts, ret, R⟩ := K
  intro HC H locs ls hP hD hS hl
  have C' := HC
  obtain ⟨hx, hb, hr, hml, hown, hts, hlocks, hK, hA, hXo, hX⟩ := C'
  have hN : X = XS P := hN
  subst hN
  have h1 := hX.2.2.2.2.2.2.1 i hi
  rw [hid] at h1
  have h0 : own = RX3 := hown0
  subst h0
  exact va_ldcS hx hb hown h1 hd (kk HC H locs ls hP hD hS hl)
theorem g_getq {n d : String} {v : Value} {q index : Nat} (hN : eX E = XS P) (hz : ∀ (A : Nat → Prop) (U : State) (H : Heap), XS P A U H → va_OF "java/lang/String" n d v q A U H) (hd : decode K.1 pc = .ok (.getfield index, 3)) (hm : Cond.fieldLink K.2.2.1 index "java/lang/String" n d ∈ K.2.2.2.1) (kk : G E K kc ks (pc + 3) lv (v :: st) w) : G E K kc ks pc lv (.ref q :: st) w := by
  obtain ⟨p, l, e, s, m, args, below, meth, c, Q, A, D, tys, X⟩ := E
  obtain ⟨cc, nL, own, Ts, ret, R⟩ := K
  intro HC H locs ls hP hD hS hl
  have C' := HC
  obtain ⟨hx, hb, hr, hml, hown, hts, hlocks, hK, hA, hXo, hX⟩ := C'
  have hN : X = XS P := hN
  subst hN
  exact vk_getf hx hb (hz _ _ _ hX) hS hown (hts _ hm) (fun _ h9 => h9) hd (kk HC H locs ls hP hD hS hl)
theorem g_img {a n : Nat} {cA : ClassId} {f : Nat → Option Nat} {C : String} {i : Int32} {b : Nat} (q0 t0 : Nat) (hd : decode K.1 pc = .ok (.aaload, 1)) (ha : w[q0]? = some (a, .inl (cA, n, .inr (.inr (.inr (.inr f)))))) (ht : (eT E)[t0]? = some (cA, .object C)) (hin : vp_in i n) (hb2 : f i.toNatClampNeg = some b) (kk : G E K kc ks (pc + 1) lv (.ref b :: st) w) : G E K kc ks pc lv (.int i :: .ref a :: st) w := by
  obtain ⟨p, l, e, s, m, args, below, meth, c, Q, A, D, tys, X⟩ := E
  obtain ⟨cc, nL, own, Ts, ret, R⟩ := K
  intro HC H locs ls hP hD hS hl
  have C' := HC
  obtain ⟨hx, hb, hr, hml, hown, hts, hlocks, hK, hA, hXo, hX⟩ := C'
  have k2 := kk HC H locs ls hP hD hS hl
  have e : va_rf (f i.toNatClampNeg) = .ref b := by rw [hb2]; rfl
  exact va_aldq hx hb hK hP q0 t0 ha ht hin hd (by rw [e]; exact k2)
/-- a call of a static method of the nest's host -/
def KSN (K : MK) (idx : Nat) (y : MethodName) (ws : List Cond) (rm : Room) (n : Nat) : Prop := ∃ (bytes : ByteArray) (maxL : Nat) (ret : Option FieldType) (ws2 : List Cond), GoodIn K.2.2.2.1 ws ∧ ws = Cond.code y bytes maxL ret :: ws2 ∧ rm.cells = 0 ∧ rm.slots = 0 ∧ (Cond.initialized y.cls ∈ K.2.2.2.1 ∧ Cond.static y ∈ K.2.2.2.1) ∧ (y.cls ≠ "java/lang/invoke/MethodHandle" ∧ y.cls ≠ "java/lang/invoke/VarHandle" ∧ (parseMethodDescriptor y.desc).map (fun d => d.parameters.length) = some n) ∧ (rm.frames + 1 ≤ K.2.2.2.2.2.frames ∧ 8 + (maxL + 11) + rm.locals ≤ K.2.2.2.2.2.locals)
theorem g_callSNl {idx n : Nat} {y : MethodName} {ws : List Cond} {rm : Room} {As rest : List Value} {wc wc2 w2 : va_W} {r : Int64} (hN : eX E = XS P) (i : Nat) (hd : decode K.1 pc = .ok (.invokestatic idx, 3)) (kw : KSN K idx y ws rm n) (hl0 : K.2.2.1 = RX4 ∧ idx = 44 ∧ y = yX5_power) (hC : Cl (eL E) (eD E) (eT E) (eX E) y ws rm As wc r wc2) (hn : As.length = n) (hi : (w.drop i).take wc.length = wc) (hst : st = As.reverse ++ rest) (hroom : (rest.map fun v => v.category).sum ≤ 8) (hcs : kc ≤ K.2.2.2.2.2.cells ∧ ks ≤ K.2.2.2.2.2.slots) (h2 : w.take i ++ (wc2 ++ w.drop (i + wc.length)) = w2) (kk : G E K kc ks (pc + 3) lv (.long r :: rest) w2) : G E K kc ks pc lv st w := by
  obtain ⟨p, l, e, s, m, args, below, meth, c, Q, A, D, tys, X⟩ := E
  obtain ⟨cc, nL, own, Ts, ret, R⟩ := K
  intro HC H locs ls hP hD hS hl
  have C' := HC
  obtain ⟨hx, hb, hr, hml, hown, hts, hlocks, hK, hA, hXo, hX⟩ := C'
  obtain ⟨bytes, maxL, retC, ws2, k1, k2, k3, k4, k7, k5, k6⟩ := kw
  have hN : X = XS P := hN
  obtain ⟨o1, o2, o3⟩ := hl0
  have o1 : own = RX4 := o1
  have hNw : va_Nw (.methodLinkNest own idx y RX5) s := by
    subst hN
    rw [o1, o2, o3]
    exact hX.1.1
  obtain ⟨hPc, hDc, hAc⟩ := va_midP i hi hP hD
  have hFc : ∀ q, va_A wc H.size q → A q := by
    intro q h
    rcases h with ⟨k, e2, h⟩ | h
    · exact hAc k (q, e2) h
    · exact hA q (Nat.le_trans hS.1 h)
  refine va_calll (va_runSN (As := As) (rest := rest) ⟨hx, hb, hml, hown, hts⟩ (hC H.size) ⟨va_cnB (host := RX5) n hts k1 k2 k3 k4 hNw (hts _ k7.1) k5 k6, hts _ k7.2, trivial⟩ ⟨cPre_blind, fun U hU hW => ⟨rfl, by rw [hU], by rw [hU]; exact hPc, va_K.moved hW.alike hK, hDc, hXo, hXo.2 A (va_A wc H.size) s U H hX hS.2.1 hFc hW hU⟩⟩ rfl hn hl.1 hst (lv_room hroom) hd ⟨by rw [Nat.add_zero]; exact hcs.1, by rw [Nat.add_zero]; exact hcs.2⟩) hS (fun q _ h => hFc q h) hFc (fun r2 u t H1 locs1 ht hvm hw hB hz1 hk1 hS1 => ?_)
  obtain ⟨hP1, hK1, hD1⟩ := hB
  rw [ht] at hP1
  obtain ⟨hP2, hD2⟩ := va_mid i hi hP hD hk1 hFc hP1 hD1
  rw [h2] at hP2 hD2
  have hw2 : r2 = r := hw
  subst hw2
  exact kk HC H1 locs1 ls hP2 hD2 hS1 hl
/-- a call on a String constant -/
theorem g_callQi {idx n i : Nat} {y : MethodName} {ws : List Cond} {rm : Room} {As rest : List Value} {r : Int32} (hN : eX E = XS P) (hi : i < 13) (hd : decode K.1 pc = .ok (.invokevirtual idx, 3)) (kw : KV K idx RJ0 y ws rm n) (hC : Ci (eL E) (eD E) (eT E) (eX E) y ws rm (.ref (P.2.1 i) :: As) [] r []) (hn : As.length = n) (hst : st = As.reverse ++ .ref (P.2.1 i) :: rest) (hroom : (rest.map fun v => v.category).sum ≤ 8) (hcs : kc ≤ K.2.2.2.2.2.cells ∧ ks ≤ K.2.2.2.2.2.slots) (kk : G E K kc ks (pc + 3) lv (.int r :: rest) w) : G E K kc ks pc lv st w := by
  obtain ⟨p, l, e, s, m, args, below, meth, c, Q, A, D, tys, X⟩ := E
  obtain ⟨cc, nL, own, Ts, ret, R⟩ := K
  intro HC H locs ls hP hD hS hl
  have C' := HC
  obtain ⟨hx, hb, hr, hml, hown, hts, hlocks, hK, hA, hXo, hX⟩ := C'
  obtain ⟨bytes, maxL, retC, ws2, k1, k2, k3, k4, k5, k6⟩ := kw
  have hN : X = XS P := hN
  have hPc : va_P D vwCl [] H := fun k q h => by simp at h
  have hDc : va_D (fun _ => True) [] := ⟨fun i j p q h => by simp at h, fun k q h => by simp at h⟩
  have hFc : ∀ q, va_A [] H.size q → A q := by
    intro q h
    rcases h with ⟨k, e2, h⟩ | h
    · simp at h
    · exact hA q (Nat.le_trans hS.1 h)
  have hrec : ∃ cell : Cell, H[P.2.1 i]? = some cell ∧ cell.vm.isStatics = false ∧ s.vm.findClass RJ0 = some cell.cls := by
    subst hN
    exact vk_recv hX.2.2.2.2.2.2.2 hi hS
  refine va_calli (va_runV (As := As) (rest := rest) ⟨hx, hb, hml, hown, hts⟩ (hC H.size) (cwV n hts k1 k2 k3 k4 k5 k6) ⟨cPre_blind, hrec, fun U hU hW => ⟨rfl, by rw [hU], by rw [hU]; exact hPc, va_K.moved hW.alike hK, hDc, hXo, hXo.2 A (va_A [] H.size) s U H hX hS.2.1 hFc hW hU⟩⟩ rfl hn hl.1 hst (lv_room hroom) hd ⟨by rw [Nat.add_zero]; exact hcs.1, by rw [Nat.add_zero]; exact hcs.2⟩) hS (fun q _ h => hFc q h) hFc (fun r2 u t H1 locs1 ht hvm hw hB hz1 hk1 hS1 => ?_)
  have hw2 : r2 = r := hw
  subst hw2
  refine kk HC H1 locs1 ls ?_ hD hS1 hl
  intro k q hq
  refine (hP k q hq).kept (hk1 q.1 (hP k q hq).lt ?_)
  rintro (⟨k, e2, h⟩ | h)
  · simp at h
  · have := (hP k q hq).lt
    omega
end GB2
