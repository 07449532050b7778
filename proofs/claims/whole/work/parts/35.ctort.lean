theorem getR (a b : va_W) (k : Nat) : (a ++ b)[a.length + k]? = b[k]? := by rw [List.getElem?_append_right (by omega)]; congr 1; omega
theorem setR (a b : va_W) (k : Nat) (v : Nat × va_E) : (a ++ b).set (a.length + k) v = a ++ b.set k v := by
  rw [List.set_append_right _ _ (by omega)]; congr 2; omega
theorem va_D_iff {A : Nat → Prop} {ws : va_W} : va_D A ws ↔ (ws.map Prod.fst).Nodup ∧ ∀ q ∈ ws, A q.1 := by
  constructor
  · intro h
    refine ⟨?_, fun q hq => ?_⟩
    · rw [List.nodup_iff_pairwise_ne, List.pairwise_iff_getElem]
      intro i j hi hj hij hne
      simp only [List.getElem_map, List.length_map] at hne hi hj
      have := h.1 i j _ _ (List.getElem?_eq_getElem hi) (List.getElem?_eq_getElem hj) hne
      omega
    · obtain ⟨k, hk⟩ := List.getElem?_of_mem hq
      exact h.2 k q hk
  · rintro ⟨h1, h2⟩
    refine ⟨fun i j p q hi hj hpq => ?_, fun k q hk => h2 q (List.mem_of_getElem? hk)⟩
    obtain ⟨li, ei⟩ := List.getElem?_eq_some_iff.mp hi
    obtain ⟨lj, ej⟩ := List.getElem?_eq_some_iff.mp hj
    rw [List.nodup_iff_pairwise_ne, List.pairwise_iff_getElem] at h1
    rcases Nat.lt_trichotomy i j with h | h | h
    · have e := h1 i j (by simpa using li) (by simpa using lj) h
      simp only [List.getElem_map, ei, ej] at e
      exact absurd hpq e
    · exact h
    · have e := h1 j i (by simpa using lj) (by simpa using li) h
      simp only [List.getElem_map, ei, ej] at e
      exact absurd hpq.symm e
theorem g_permP {E : GE} {K : MK} {kc ks pc : Nat} {lv : List (Nat × Value)} {st : List Value} {w w2 : va_W} (hp : w.Perm w2) (kk : G E K kc ks pc lv st w2) : G E K kc ks pc lv st w := by
  obtain ⟨p, l, e, s, m, args, below, meth, c, Q, A, D, tys, X⟩ := E
  obtain ⟨cc, nL, own, Ts, ret, R⟩ := K
  intro HC H locs ls hP hD hS hl
  refine kk HC H locs ls (fun k q hk => ?_) ?_ hS hl
  · obtain ⟨i, hi⟩ := List.getElem?_of_mem (hp.mem_iff.mpr (List.mem_of_getElem? hk))
    exact hP i q hi
  · obtain ⟨h1, h2⟩ := va_D_iff.mp hD
    exact va_D_iff.mpr ⟨(hp.map Prod.fst).nodup_iff.mp h1, fun q hq => h2 q (hp.mem_iff.mpr hq)⟩
theorem perm5 (a b c d x : va_W) : (a ++ (b ++ (c ++ (d ++ x)))).Perm (d ++ (a ++ (c ++ (b ++ x)))) := by
  have s1 : (a ++ (b ++ (c ++ (d ++ x)))).Perm (a ++ (b ++ (d ++ (c ++ x)))) := ((List.perm_append_comm_assoc c d x).append_left b).append_left a
  have s2 : (a ++ (b ++ (d ++ (c ++ x)))).Perm (a ++ (d ++ (b ++ (c ++ x)))) := (List.perm_append_comm_assoc b d (c ++ x)).append_left a
  have s3 : (a ++ (d ++ (b ++ (c ++ x)))).Perm (d ++ (a ++ (b ++ (c ++ x)))) := List.perm_append_comm_assoc a d (b ++ (c ++ x))
  have s4 : (d ++ (a ++ (b ++ (c ++ x)))).Perm (d ++ (a ++ (c ++ (b ++ x)))) := ((List.perm_append_comm_assoc b c x).append_left a).append_left d
  exact s1.trans (s2.trans (s3.trans s4))
theorem perm3 (a b c x : va_W) : (a ++ (b ++ (c ++ x))).Perm (c ++ (a ++ (b ++ x))) := ((List.perm_append_comm_assoc b c x).append_left a).trans (List.perm_append_comm_assoc a c (b ++ x))
def rmX5_init : Room := { frames := 5, cells := 60, slots := 1709, locals := 126 }
def kX5_init : MK := (cX5_init, 2, RX5, wsX5_init, none, rmX5_init)
set_option maxRecDepth 20000 in
theorem oiX5_init : (Cond.methodLink RX5 1 objectInit ∈ wsX5_init ∧ Cond.instanceMethod objectInit ∈ wsX5_init) ∧ Cond.code objectInit ⟨#[0xb1]⟩ 1 none ∈ wsX5_init := ⟨⟨by decide +kernel, by decide +kernel⟩, by decide +kernel⟩
set_option maxRecDepth 20000 in
theorem acX5_init_I : Cond.arrayClass .int ∈ wsX5_init := by decide +kernel
set_option maxRecDepth 20000 in
theorem jX5_init_9 : Cond.fieldLink RX5 9 (TX5 0).1 (TX5 0).2.1 (TX5 0).2.2.1 ∈ wsX5_init := by decide +kernel
set_option maxRecDepth 20000 in
theorem iX5_init_X5 : ∀ x ∈ u_ws RX5 TX5 16, x ∈ wsX5_init := by decide +kernel
set_option maxRecDepth 20000 in
theorem clX5_init_13 : Cond.classLink RX5 13 RX2 ∈ wsX5_init := by decide +kernel
set_option maxRecDepth 20000 in
theorem ctX5_init_X2 : Cond.instantiable RX2 12 ∈ wsX5_init ∧ Cond.initialized RX2 ∈ wsX5_init := ⟨by decide +kernel, by decide +kernel⟩
set_option maxRecDepth 20000 in
theorem iX5_init_X2 : ∀ x ∈ u_ws RX2 TX2 12, x ∈ wsX5_init := by decide +kernel
set_option maxRecDepth 20000 in
theorem vX5_init_15 : KI kX5_init 15 yX2_init wsX2_init rmX2_init 7 42 0 := ⟨_, _, _, gX5_init_X2_init, rfl, rfl, rfl, ⟨by decide +kernel, by decide +kernel, by decide +kernel⟩, rfl, by decide +kernel, ⟨by decide, by decide⟩⟩
set_option maxRecDepth 20000 in
theorem jX5_init_16 : Cond.fieldLink RX5 16 (TX5 3).1 (TX5 3).2.1 (TX5 3).2.2.1 ∈ wsX5_init := by decide +kernel
set_option maxRecDepth 20000 in
theorem jX5_init_20 : Cond.fieldLink RX5 20 (TX5 4).1 (TX5 4).2.1 (TX5 4).2.2.1 ∈ wsX5_init := by decide +kernel
set_option maxRecDepth 20000 in
theorem clX5_init_23 : Cond.classLink RX5 23 RX3 ∈ wsX5_init := by decide +kernel
set_option maxRecDepth 20000 in
theorem ctX5_init_X3 : Cond.instantiable RX3 9 ∈ wsX5_init ∧ Cond.initialized RX3 ∈ wsX5_init := ⟨by decide +kernel, by decide +kernel⟩
set_option maxRecDepth 20000 in
theorem iX5_init_X3 : ∀ x ∈ u_ws RX3 TX3 9, x ∈ wsX5_init := by decide +kernel
set_option maxRecDepth 20000 in
theorem vX5_init_25 : KI kX5_init 25 yX3_init wsX3_init rmX3_init 0 0 2 := ⟨_, _, _, gX5_init_X3_init, rfl, rfl, rfl, ⟨by decide +kernel, by decide +kernel, by decide +kernel⟩, rfl, by decide +kernel, ⟨by decide, by decide⟩⟩
set_option maxRecDepth 20000 in
theorem jX5_init_28 : Cond.fieldLink RX5 28 (TX5 2).1 (TX5 2).2.1 (TX5 2).2.2.1 ∈ wsX5_init := by decide +kernel
set_option maxRecDepth 20000 in
theorem jX5_init_32 : Cond.fieldLink RX5 32 (TX5 5).1 (TX5 5).2.1 (TX5 5).2.2.1 ∈ wsX5_init := by decide +kernel
set_option maxRecDepth 20000 in
theorem clX5_init_35 : Cond.classLink RX5 35 RX0 ∈ wsX5_init := by decide +kernel
set_option maxRecDepth 20000 in
theorem ctX5_init_X0 : Cond.instantiable RX0 15 ∈ wsX5_init ∧ Cond.initialized RX0 ∈ wsX5_init := ⟨by decide +kernel, by decide +kernel⟩
set_option maxRecDepth 20000 in
theorem iX5_init_X0 : ∀ x ∈ u_ws RX0 TX0 15, x ∈ wsX5_init := by decide +kernel
set_option maxRecDepth 20000 in
theorem vX5_init_37 : KI kX5_init 37 yX0_init wsX0_init rmX0_init 9 240 0 := ⟨_, _, _, gX5_init_X0_init, rfl, rfl, rfl, ⟨by decide +kernel, by decide +kernel, by decide +kernel⟩, rfl, by decide +kernel, ⟨by decide, by decide⟩⟩
set_option maxRecDepth 20000 in
theorem jX5_init_38 : Cond.fieldLink RX5 38 (TX5 6).1 (TX5 6).2.1 (TX5 6).2.2.1 ∈ wsX5_init := by decide +kernel
set_option maxRecDepth 20000 in
theorem jX5_init_42 : Cond.fieldLink RX5 42 (TX0 14).1 (TX0 14).2.1 (TX0 14).2.2.1 ∈ wsX5_init := by decide +kernel
set_option maxRecDepth 20000 in
theorem jX5_init_46 : Cond.fieldLink RX5 46 (TX5 7).1 (TX5 7).2.1 (TX5 7).2.2.1 ∈ wsX5_init := by decide +kernel
set_option maxRecDepth 20000 in
theorem acX5_init_Z : Cond.arrayClass .boolean ∈ wsX5_init := by decide +kernel
set_option maxRecDepth 20000 in
theorem jX5_init_50 : Cond.fieldLink RX5 50 (TX5 8).1 (TX5 8).2.1 (TX5 8).2.2.1 ∈ wsX5_init := by decide +kernel
set_option maxRecDepth 20000 in
theorem clX5_init_54 : Cond.classLink RX5 54 RX1 ∈ wsX5_init := by decide +kernel
set_option maxRecDepth 20000 in
theorem ctX5_init_X1 : Cond.instantiable RX1 1 ∈ wsX5_init ∧ Cond.initialized RX1 ∈ wsX5_init := ⟨by decide +kernel, by decide +kernel⟩
set_option maxRecDepth 20000 in
theorem iX5_init_X1 : ∀ x ∈ u_ws RX1 TX1 1, x ∈ wsX5_init := by decide +kernel
set_option maxRecDepth 20000 in
theorem vX5_init_56 : KI kX5_init 56 yX1_init wsX1_init rmX1_init 1 19 0 := ⟨_, _, _, gX5_init_X1_init, rfl, rfl, rfl, ⟨by decide +kernel, by decide +kernel, by decide +kernel⟩, rfl, by decide +kernel, ⟨by decide, by decide⟩⟩
set_option maxRecDepth 20000 in
theorem jX5_init_57 : Cond.fieldLink RX5 57 (TX5 9).1 (TX5 9).2.1 (TX5 9).2.2.1 ∈ wsX5_init := by decide +kernel
set_option maxRecDepth 20000 in
theorem clX5_init_61 : Cond.classLink RX5 61 RX4 ∈ wsX5_init := by decide +kernel
set_option maxRecDepth 20000 in
theorem ctX5_init_X4 : Cond.instantiable RX4 3 ∈ wsX5_init ∧ Cond.initialized RX4 ∈ wsX5_init := ⟨by decide +kernel, by decide +kernel⟩
set_option maxRecDepth 20000 in
theorem iX5_init_X4 : ∀ x ∈ u_ws RX4 TX4 3, x ∈ wsX5_init := by decide +kernel
set_option maxRecDepth 20000 in
theorem vX5_init_63 : KI kX5_init 63 yX4_init wsX4_init rmX4_init 3 170 0 := ⟨_, _, _, gX5_init_X4_init, rfl, rfl, rfl, ⟨by decide +kernel, by decide +kernel, by decide +kernel⟩, rfl, by decide +kernel, ⟨by decide, by decide⟩⟩
set_option maxRecDepth 20000 in
theorem jX5_init_64 : Cond.fieldLink RX5 64 (TX5 10).1 (TX5 10).2.1 (TX5 10).2.2.1 ∈ wsX5_init := by decide +kernel
set_option maxRecDepth 20000 in
theorem jX5_init_68 : Cond.fieldLink RX5 68 (TX5 11).1 (TX5 11).2.1 (TX5 11).2.2.1 ∈ wsX5_init := by decide +kernel
set_option maxRecDepth 20000 in
theorem jX5_init_71 : Cond.fieldLink RX5 71 (TX5 12).1 (TX5 12).2.1 (TX5 12).2.2.1 ∈ wsX5_init := by decide +kernel
set_option maxRecDepth 20000 in
theorem jX5_init_74 : Cond.fieldLink RX5 74 (TX5 13).1 (TX5 13).2.1 (TX5 13).2.2.1 ∈ wsX5_init := by decide +kernel
set_option maxHeartbeats 4000000 in
set_option maxRecDepth 100000 in
theorem c_X5_init {l : Launch} {D : va_G} {tys : List (ClassId × FieldType)} {X : XT} {cs : CS} {h0 : Nat} {P : XP} {F : Nat} {v : SV} (htyM : tys = tyA cs) (hNX : X = XS P) (hv : f_X4_workBack F V01 = some v) : Cn l D tys X yX5_init wsX5_init rmX5_init 60 1709 [.ref h0] [(h0, .inr (5, [.null, .int 0, .null, .null, .null, .null, .null, .null, .null, .null, .null, .null, .null, .null, .int 0, .long 0]))] (fun ad => ad 0 = h0) (fun ad => wT cs ad (T0 v)) := by
  refine Cn_ofG (by decide +kernel) rfl rfl (Nat.le_of_ble_eq_true rfl) (fun E _ _ hty0 hX0 hI hr => ?_)
  have hty := hty0.trans htyM
  have hN := hX0.trans hNX
  have hr : Rn E kX5_init 60 1709 (fun ad => ad 0 = h0) (fun ad => wT cs ad (T0 v)) := hr
  show G E kX5_init 0 0 0 [(0, .ref h0)] [] [(h0, .inr (5, [.null, .int 0, .null, .null, .null, .null, .null, .null, .null, .null, .null, .null, .null, .null, .int 0, .long 0]))]
  refine g_aload_n 0 dX5_init_0 rfl rfl ?_
  refine g_objInit dX5_init_1 oiX5_init.1.1 oiX5_init.1.2 oiX5_init.2 ⟨by decide, Nat.le_of_ble_eq_true rfl⟩ ?_
  refine g_aload_n 0 dX5_init_4 rfl rfl ?_
  refine g_sipush (v := 400) dX5_init_5 (by decide) ?_
  refine g_newI (N := 400) hty dX5_init_8 acX5_init_I (by decide) (by decide) (by decide) ⟨by decide, by decide⟩ (fun q1 => ?_)
  obtain ⟨r2, e_r2⟩ : ∃ r : va_W, r = [(q1, .inl (cs.1, 400, .inl (fun _ => 0)))] := ⟨_, rfl⟩
  refine g_cast rfl rfl rfl (w2 := ([(h0, .inr (5, [.null, .int 0, .null, .null, .null, .null, .null, .null, .null, .null, .null, .null, .null, .null, .int 0, .long 0]))] ++ r2)) (by rw [e_r2]) ?_
  refine g_putF (ci := 5) (T := TX5) (N := 16) (w2 := ([(h0, .inr (5, [.ref q1, .int 0, .null, .null, .null, .null, .null, .null, .null, .null, .null, .null, .null, .null, .int 0, .long 0]))] ++ r2)) 0 0 (.ref q1) tyX5 hI dX5_init_10 iX5_init_X5 tyX5_ok nmX5 rfl jX5_init_9 (by decide) rfl rfl rfl rfl rfl rfl (Nat.le_of_ble_eq_true rfl) rfl ?_
  refine g_aload_n 0 dX5_init_13 rfl rfl ?_
  refine g_new (C := RX2) (T := TX2) (N := 12) (ci := 2) (fs := [.int 0, .int 0, .int 0, .int 0, .null, .null, .null, .int 0, .null, .null, .null, .null]) tyX2 dX5_init_14 iX5_init_X2 tyX2_ok clX5_init_13 ctX5_init_X2.1 ctX5_init_X2.2 rfl (by decide) ⟨by decide, by decide⟩ (fun q3 => ?_)
  refine g_dup dX5_init_17 rfl ?_
  refine g_callI (As := []) (rest := [.ref q3, .ref h0]) ((([(h0, .inr (5, [.ref q1, .int 0, .null, .null, .null, .null, .null, .null, .null, .null, .null, .null, .null, .null, .int 0, .long 0]))] ++ r2) : va_W).length) dX5_init_18 vX5_init_15 (c_X2_init hty) rfl (midR (n := (([(h0, .inr (5, [.ref q1, .int 0, .null, .null, .null, .null, .null, .null, .null, .null, .null, .null, .null, .null, .int 0, .long 0]))] ++ r2) : va_W).length) _ _ rfl) rfl (Nat.le_of_ble_eq_true rfl) ⟨by decide, by decide⟩ (fun ad4 hq => ?_)
  subst hq
  refine g_cast rfl rfl rfl (w2 := (([(h0, .inr (5, [.ref q1, .int 0, .null, .null, .null, .null, .null, .null, .null, .null, .null, .null, .null, .null, .int 0, .long 0]))] ++ r2) ++ wM cs ad4 M0)) (midR2 (n := (([(h0, .inr (5, [.ref q1, .int 0, .null, .null, .null, .null, .null, .null, .null, .null, .null, .null, .null, .null, .int 0, .long 0]))] ++ r2) : va_W).length) _ _ _ rfl) ?_
  obtain ⟨r5, e_r5⟩ : ∃ r : va_W, r = r2 ++ wM cs ad4 M0 := ⟨_, rfl⟩
  refine g_cast rfl rfl rfl (w2 := ([(h0, .inr (5, [.ref q1, .int 0, .null, .null, .null, .null, .null, .null, .null, .null, .null, .null, .null, .null, .int 0, .long 0]))] ++ r5)) (by rw [e_r5]; simp only [List.append_assoc]) ?_
  refine g_putF (ci := 5) (T := TX5) (N := 16) (w2 := ([(h0, .inr (5, [.ref q1, .int 0, .null, .ref (ad4 0), .null, .null, .null, .null, .null, .null, .null, .null, .null, .null, .int 0, .long 0]))] ++ r5)) 0 3 (.ref (ad4 0)) tyX5 hI dX5_init_21 iX5_init_X5 tyX5_ok nmX5 rfl jX5_init_16 (by decide) rfl rfl rfl rfl rfl rfl (Nat.le_of_ble_eq_true rfl) rfl ?_
  refine g_aload_n 0 dX5_init_24 rfl rfl ?_
  refine g_new (C := RX2) (T := TX2) (N := 12) (ci := 2) (fs := [.int 0, .int 0, .int 0, .int 0, .null, .null, .null, .int 0, .null, .null, .null, .null]) tyX2 dX5_init_25 iX5_init_X2 tyX2_ok clX5_init_13 ctX5_init_X2.1 ctX5_init_X2.2 rfl (by decide) ⟨by decide, by decide⟩ (fun q6 => ?_)
  refine g_dup dX5_init_28 rfl ?_
  refine g_callI (As := []) (rest := [.ref q6, .ref h0]) ((([(h0, .inr (5, [.ref q1, .int 0, .null, .ref (ad4 0), .null, .null, .null, .null, .null, .null, .null, .null, .null, .null, .int 0, .long 0]))] ++ r5) : va_W).length) dX5_init_29 vX5_init_15 (c_X2_init hty) rfl (midR (n := (([(h0, .inr (5, [.ref q1, .int 0, .null, .ref (ad4 0), .null, .null, .null, .null, .null, .null, .null, .null, .null, .null, .int 0, .long 0]))] ++ r5) : va_W).length) _ _ rfl) rfl (Nat.le_of_ble_eq_true rfl) ⟨by decide, by decide⟩ (fun ad7 hq => ?_)
  subst hq
  refine g_cast rfl rfl rfl (w2 := (([(h0, .inr (5, [.ref q1, .int 0, .null, .ref (ad4 0), .null, .null, .null, .null, .null, .null, .null, .null, .null, .null, .int 0, .long 0]))] ++ r5) ++ wM cs ad7 M0)) (midR2 (n := (([(h0, .inr (5, [.ref q1, .int 0, .null, .ref (ad4 0), .null, .null, .null, .null, .null, .null, .null, .null, .null, .null, .int 0, .long 0]))] ++ r5) : va_W).length) _ _ _ rfl) ?_
  obtain ⟨r8, e_r8⟩ : ∃ r : va_W, r = r5 ++ wM cs ad7 M0 := ⟨_, rfl⟩
  refine g_cast rfl rfl rfl (w2 := ([(h0, .inr (5, [.ref q1, .int 0, .null, .ref (ad4 0), .null, .null, .null, .null, .null, .null, .null, .null, .null, .null, .int 0, .long 0]))] ++ r8)) (by rw [e_r8]; simp only [List.append_assoc]) ?_
  refine g_putF (ci := 5) (T := TX5) (N := 16) (w2 := ([(h0, .inr (5, [.ref q1, .int 0, .null, .ref (ad4 0), .ref (ad7 0), .null, .null, .null, .null, .null, .null, .null, .null, .null, .int 0, .long 0]))] ++ r8)) 0 4 (.ref (ad7 0)) tyX5 hI dX5_init_32 iX5_init_X5 tyX5_ok nmX5 rfl jX5_init_20 (by decide) rfl rfl rfl rfl rfl rfl (Nat.le_of_ble_eq_true rfl) rfl ?_
  refine g_aload_n 0 dX5_init_35 rfl rfl ?_
  refine g_new (C := RX3) (T := TX3) (N := 9) (ci := 3) (fs := [.null, .null, .int 0, .int 0, .int 0, .int 0, .int 0, .int 0, .int 0]) tyX3 dX5_init_36 iX5_init_X3 tyX3_ok clX5_init_23 ctX5_init_X3.1 ctX5_init_X3.2 rfl (by decide) ⟨by decide, by decide⟩ (fun q9 => ?_)
  refine g_dup dX5_init_39 rfl ?_
  refine g_aload_n 0 dX5_init_40 rfl rfl ?_
  refine g_get (ci := 5) (T := TX5) (N := 16) 0 0 (.ref q1) dX5_init_41 iX5_init_X5 rfl jX5_init_9 (by decide) rfl rfl ?_
  refine g_aload_n 0 dX5_init_44 rfl rfl ?_
  refine g_get (ci := 5) (T := TX5) (N := 16) 0 4 (.ref (ad7 0)) dX5_init_45 iX5_init_X5 rfl jX5_init_20 (by decide) rfl rfl ?_
  refine g_callI (As := [.ref q1, .ref (ad7 0)]) (rest := [.ref q9, .ref h0]) ((([(h0, .inr (5, [.ref q1, .int 0, .null, .ref (ad4 0), .ref (ad7 0), .null, .null, .null, .null, .null, .null, .null, .null, .null, .int 0, .long 0]))] ++ r8) : va_W).length) dX5_init_48 vX5_init_25 (c_X3_init hty) rfl (midR (n := (([(h0, .inr (5, [.ref q1, .int 0, .null, .ref (ad4 0), .ref (ad7 0), .null, .null, .null, .null, .null, .null, .null, .null, .null, .int 0, .long 0]))] ++ r8) : va_W).length) _ _ rfl) rfl (Nat.le_of_ble_eq_true rfl) ⟨by decide, by decide⟩ (fun ad10 hq => ?_)
  refine g_cast rfl rfl rfl (w2 := (([(h0, .inr (5, [.ref q1, .int 0, .null, .ref (ad4 0), .ref (ad7 0), .null, .null, .null, .null, .null, .null, .null, .null, .null, .int 0, .long 0]))] ++ r8) ++ [(q9, .inr (3, [.ref q1, .ref (ad7 0), .int 0, .int 0, .int 0, .int 0, .int 0, .int 0, .int 0]))])) (midR2 (n := (([(h0, .inr (5, [.ref q1, .int 0, .null, .ref (ad4 0), .ref (ad7 0), .null, .null, .null, .null, .null, .null, .null, .null, .null, .int 0, .long 0]))] ++ r8) : va_W).length) _ _ _ rfl) ?_
  obtain ⟨r11, e_r11⟩ : ∃ r : va_W, r = r8 ++ [(q9, .inr (3, [.ref q1, .ref (ad7 0), .int 0, .int 0, .int 0, .int 0, .int 0, .int 0, .int 0]))] := ⟨_, rfl⟩
  refine g_cast rfl rfl rfl (w2 := ([(h0, .inr (5, [.ref q1, .int 0, .null, .ref (ad4 0), .ref (ad7 0), .null, .null, .null, .null, .null, .null, .null, .null, .null, .int 0, .long 0]))] ++ r11)) (by rw [e_r11]; simp only [List.append_assoc]) ?_
  refine g_putF (ci := 5) (T := TX5) (N := 16) (w2 := ([(h0, .inr (5, [.ref q1, .int 0, .ref q9, .ref (ad4 0), .ref (ad7 0), .null, .null, .null, .null, .null, .null, .null, .null, .null, .int 0, .long 0]))] ++ r11)) 0 2 (.ref q9) tyX5 hI dX5_init_51 iX5_init_X5 tyX5_ok nmX5 rfl jX5_init_28 (by decide) rfl rfl rfl rfl rfl rfl (Nat.le_of_ble_eq_true rfl) rfl ?_
  refine g_aload_n 0 dX5_init_54 rfl rfl ?_
  refine g_bipush (v := 6) dX5_init_55 (by decide) ?_
  refine g_newI (N := 6) hty dX5_init_57 acX5_init_I (by decide) (by decide) (by decide) ⟨by decide, by decide⟩ (fun q12 => ?_)
  obtain ⟨r13, e_r13⟩ : ∃ r : va_W, r = r11 ++ [(q12, .inl (cs.1, 6, .inl (fun _ => 0)))] := ⟨_, rfl⟩
  refine g_cast rfl rfl rfl (w2 := ([(h0, .inr (5, [.ref q1, .int 0, .ref q9, .ref (ad4 0), .ref (ad7 0), .null, .null, .null, .null, .null, .null, .null, .null, .null, .int 0, .long 0]))] ++ r13)) (by rw [e_r13]; simp only [List.append_assoc]) ?_
  refine g_putF (ci := 5) (T := TX5) (N := 16) (w2 := ([(h0, .inr (5, [.ref q1, .int 0, .ref q9, .ref (ad4 0), .ref (ad7 0), .ref q12, .null, .null, .null, .null, .null, .null, .null, .null, .int 0, .long 0]))] ++ r13)) 0 5 (.ref q12) tyX5 hI dX5_init_59 iX5_init_X5 tyX5_ok nmX5 rfl jX5_init_32 (by decide) rfl rfl rfl rfl rfl rfl (Nat.le_of_ble_eq_true rfl) rfl ?_
  refine g_aload_n 0 dX5_init_62 rfl rfl ?_
  refine g_new (C := RX0) (T := TX0) (N := 15) (ci := 0) (fs := [.int 0, .null, .null, .null, .null, .null, .null, .int 0, .null, .null, .null, .int 0, .long 0, .long 0, .int 0]) tyX0 dX5_init_63 iX5_init_X0 tyX0_ok clX5_init_35 ctX5_init_X0.1 ctX5_init_X0.2 rfl (by decide) ⟨by decide, by decide⟩ (fun q14 => ?_)
  refine g_dup dX5_init_66 rfl ?_
  refine g_callI (As := []) (rest := [.ref q14, .ref h0]) ((([(h0, .inr (5, [.ref q1, .int 0, .ref q9, .ref (ad4 0), .ref (ad7 0), .ref q12, .null, .null, .null, .null, .null, .null, .null, .null, .int 0, .long 0]))] ++ r13) : va_W).length) dX5_init_67 vX5_init_37 (c_X0_init hty) rfl (midR (n := (([(h0, .inr (5, [.ref q1, .int 0, .ref q9, .ref (ad4 0), .ref (ad7 0), .ref q12, .null, .null, .null, .null, .null, .null, .null, .null, .int 0, .long 0]))] ++ r13) : va_W).length) _ _ rfl) rfl (Nat.le_of_ble_eq_true rfl) ⟨by decide, by decide⟩ (fun ad15 hq => ?_)
  subst hq
  refine g_cast rfl rfl rfl (w2 := (([(h0, .inr (5, [.ref q1, .int 0, .ref q9, .ref (ad4 0), .ref (ad7 0), .ref q12, .null, .null, .null, .null, .null, .null, .null, .null, .int 0, .long 0]))] ++ r13) ++ wB cs ad15 B0)) (midR2 (n := (([(h0, .inr (5, [.ref q1, .int 0, .ref q9, .ref (ad4 0), .ref (ad7 0), .ref q12, .null, .null, .null, .null, .null, .null, .null, .null, .int 0, .long 0]))] ++ r13) : va_W).length) _ _ _ rfl) ?_
  refine g_putF (ci := 5) (T := TX5) (N := 16) (w2 := (([(h0, .inr (5, [.ref q1, .int 0, .ref q9, .ref (ad4 0), .ref (ad7 0), .ref q12, .ref (ad15 0), .null, .null, .null, .null, .null, .null, .null, .int 0, .long 0]))] ++ r13) ++ wB cs ad15 B0)) 0 6 (.ref (ad15 0)) tyX5 hI dX5_init_70 iX5_init_X5 tyX5_ok nmX5 rfl jX5_init_38 (by decide) rfl rfl rfl rfl rfl rfl (Nat.le_of_ble_eq_true rfl) rfl ?_
  refine g_aload_n 0 dX5_init_73 rfl rfl ?_
  refine g_get (ci := 5) (T := TX5) (N := 16) 0 6 (.ref (ad15 0)) dX5_init_74 iX5_init_X5 rfl jX5_init_38 (by decide) rfl rfl ?_
  refine g_iconst (v := 1) dX5_init_77 (by decide) ?_
  refine g_put (ci := 0) (T := TX0) (N := 15) (w2 := (([(h0, .inr (5, [.ref q1, .int 0, .ref q9, .ref (ad4 0), .ref (ad7 0), .ref q12, .ref (ad15 0), .null, .null, .null, .null, .null, .null, .null, .int 0, .long 0]))] ++ r13) ++ wB cs ad15 (uB_lot B0 1))) ((([(h0, .inr (5, [.ref q1, .int 0, .ref q9, .ref (ad4 0), .ref (ad7 0), .ref q12, .ref (ad15 0), .null, .null, .null, .null, .null, .null, .null, .int 0, .long 0]))] ++ r13) : va_W).length + 0) 14 (.int 1) tyX0 dX5_init_78 iX5_init_X0 tyX0_ok nmX0 rfl jX5_init_42 (by decide) rfl rfl rfl rfl ((getR _ _ 0).trans wlaB_0) (Nat.le_of_ble_eq_true rfl) ((setR _ _ 0 _).trans (congrArg _ wlpB_0_14)) ?_
  obtain ⟨r16, e_r16⟩ : ∃ r : va_W, r = r13 ++ wB cs ad15 (uB_lot B0 1) := ⟨_, rfl⟩
  refine g_cast rfl rfl rfl (w2 := ([(h0, .inr (5, [.ref q1, .int 0, .ref q9, .ref (ad4 0), .ref (ad7 0), .ref q12, .ref (ad15 0), .null, .null, .null, .null, .null, .null, .null, .int 0, .long 0]))] ++ r16)) (by rw [e_r16]; simp only [List.append_assoc]) ?_
  refine g_aload_n 0 dX5_init_81 rfl rfl ?_
  refine g_iconst (v := 2) dX5_init_82 (by decide) ?_
  refine g_newO (N := 2) hN hty dX5_init_83 clX5_init_35 (by decide) (by decide) (by decide) ⟨by decide, by decide⟩ (fun q17 => ?_)
  refine g_putF (ci := 5) (T := TX5) (N := 16) (w2 := (([(h0, .inr (5, [.ref q1, .int 0, .ref q9, .ref (ad4 0), .ref (ad7 0), .ref q12, .ref (ad15 0), .ref q17, .null, .null, .null, .null, .null, .null, .int 0, .long 0]))] ++ r16) ++ [(q17, .inl (cs.2.2.2, 2, .inr (.inr (.inr (.inr (fun _ => none))))))])) 0 7 (.ref q17) tyX5 hI dX5_init_86 iX5_init_X5 tyX5_ok nmX5 rfl jX5_init_46 (by decide) rfl rfl rfl rfl rfl rfl (Nat.le_of_ble_eq_true rfl) rfl ?_
  refine g_iconst (v := 0) dX5_init_89 (by decide) ?_
  refine g_istore_n (lv2 := [(1, .int 0), (0, .ref h0)]) dX5_init_90 rfl (by decide) rfl ?_
  refine g_iload_n 0 dX5_init_91 rfl rfl ?_
  refine g_iconst (v := 2) dX5_init_92 (by decide) ?_
  refine g_icmp_ge (tgt := 115) dX5_init_93 (by decide) (fun h => absurd h (by decide)) (fun _ => ?_)
  refine g_aload_n 1 dX5_init_96 rfl rfl ?_
  refine g_get (ci := 5) (T := TX5) (N := 16) 0 7 (.ref q17) dX5_init_97 iX5_init_X5 rfl jX5_init_46 (by decide) rfl rfl ?_
  refine g_iload_n 0 dX5_init_100 rfl rfl ?_
  refine g_new (C := RX0) (T := TX0) (N := 15) (ci := 0) (fs := [.int 0, .null, .null, .null, .null, .null, .null, .int 0, .null, .null, .null, .int 0, .long 0, .long 0, .int 0]) tyX0 dX5_init_101 iX5_init_X0 tyX0_ok clX5_init_35 ctX5_init_X0.1 ctX5_init_X0.2 rfl (by decide) ⟨by decide, by decide⟩ (fun q18 => ?_)
  refine g_dup dX5_init_104 rfl ?_
  refine g_callI (As := []) (rest := [.ref q18, .int 0, .ref q17]) (((([(h0, .inr (5, [.ref q1, .int 0, .ref q9, .ref (ad4 0), .ref (ad7 0), .ref q12, .ref (ad15 0), .ref q17, .null, .null, .null, .null, .null, .null, .int 0, .long 0]))] ++ r16) ++ [(q17, .inl (cs.2.2.2, 2, .inr (.inr (.inr (.inr (fun _ => none))))))]) : va_W).length) dX5_init_105 vX5_init_37 (c_X0_init hty) rfl (midR (n := ((([(h0, .inr (5, [.ref q1, .int 0, .ref q9, .ref (ad4 0), .ref (ad7 0), .ref q12, .ref (ad15 0), .ref q17, .null, .null, .null, .null, .null, .null, .int 0, .long 0]))] ++ r16) ++ [(q17, .inl (cs.2.2.2, 2, .inr (.inr (.inr (.inr (fun _ => none))))))]) : va_W).length) _ _ rfl) rfl (Nat.le_of_ble_eq_true rfl) ⟨by decide, by decide⟩ (fun ad19 hq => ?_)
  subst hq
  refine g_cast rfl rfl rfl (w2 := ((([(h0, .inr (5, [.ref q1, .int 0, .ref q9, .ref (ad4 0), .ref (ad7 0), .ref q12, .ref (ad15 0), .ref q17, .null, .null, .null, .null, .null, .null, .int 0, .long 0]))] ++ r16) ++ [(q17, .inl (cs.2.2.2, 2, .inr (.inr (.inr (.inr (fun _ => none))))))]) ++ wB cs ad19 B0)) (midR2 (n := ((([(h0, .inr (5, [.ref q1, .int 0, .ref q9, .ref (ad4 0), .ref (ad7 0), .ref q12, .ref (ad15 0), .ref q17, .null, .null, .null, .null, .null, .null, .int 0, .long 0]))] ++ r16) ++ [(q17, .inl (cs.2.2.2, 2, .inr (.inr (.inr (.inr (fun _ => none))))))]) : va_W).length) _ _ _ rfl) ?_
  refine g_cast rfl rfl rfl (w2 := (([(h0, .inr (5, [.ref q1, .int 0, .ref q9, .ref (ad4 0), .ref (ad7 0), .ref q12, .ref (ad15 0), .ref q17, .null, .null, .null, .null, .null, .null, .int 0, .long 0]))] ++ r16) ++ ([(q17, .inl (cs.2.2.2, 2, .inr (.inr (.inr (.inr (fun _ => none))))))] ++ wB cs ad19 B0))) (by simp only [List.append_assoc]) ?_
  refine g_astO (w2 := (([(h0, .inr (5, [.ref q1, .int 0, .ref q9, .ref (ad4 0), .ref (ad7 0), .ref q12, .ref (ad15 0), .ref q17, .null, .null, .null, .null, .null, .null, .int 0, .long 0]))] ++ r16) ++ ([(q17, .inl (cs.2.2.2, 2, .inr (.inr (.inr (.inr (va_up (fun _ => none) (Int32.toNatClampNeg 0) (some (ad19 0))))))))] ++ wB cs ad19 B0))) ((([(h0, .inr (5, [.ref q1, .int 0, .ref q9, .ref (ad4 0), .ref (ad7 0), .ref q12, .ref (ad15 0), .ref q17, .null, .null, .null, .null, .null, .null, .int 0, .long 0]))] ++ r16) : va_W).length + 0) ((([(h0, .inr (5, [.ref q1, .int 0, .ref q9, .ref (ad4 0), .ref (ad7 0), .ref q12, .ref (ad15 0), .ref q17, .null, .null, .null, .null, .null, .null, .int 0, .long 0]))] ++ r16) : va_W).length + 1) hty dX5_init_108 (by rw [getR]; rfl) (by rw [getR]; rfl) (vp_in_iff.mpr (by decide)) (by rw [setR]; rfl) ?_
  refine g_iinc (v := 1) (lv2 := [(1, .int 1), (0, .ref h0)]) 0 dX5_init_109 rfl (by decide) (by decide) rfl ?_
  refine g_goto (tgt := 91) dX5_init_112 (by decide) ?_
  refine g_iload_n 0 dX5_init_91 rfl rfl ?_
  refine g_iconst (v := 2) dX5_init_92 (by decide) ?_
  refine g_icmp_ge (tgt := 115) dX5_init_93 (by decide) (fun h => absurd h (by decide)) (fun _ => ?_)
  refine g_aload_n 1 dX5_init_96 rfl rfl ?_
  refine g_get (ci := 5) (T := TX5) (N := 16) 0 7 (.ref q17) dX5_init_97 iX5_init_X5 rfl jX5_init_46 (by decide) rfl rfl ?_
  refine g_iload_n 0 dX5_init_100 rfl rfl ?_
  refine g_new (C := RX0) (T := TX0) (N := 15) (ci := 0) (fs := [.int 0, .null, .null, .null, .null, .null, .null, .int 0, .null, .null, .null, .int 0, .long 0, .long 0, .int 0]) tyX0 dX5_init_101 iX5_init_X0 tyX0_ok clX5_init_35 ctX5_init_X0.1 ctX5_init_X0.2 rfl (by decide) ⟨by decide, by decide⟩ (fun q20 => ?_)
  refine g_dup dX5_init_104 rfl ?_
  refine g_callI (As := []) (rest := [.ref q20, .int 1, .ref q17]) (((([(h0, .inr (5, [.ref q1, .int 0, .ref q9, .ref (ad4 0), .ref (ad7 0), .ref q12, .ref (ad15 0), .ref q17, .null, .null, .null, .null, .null, .null, .int 0, .long 0]))] ++ r16) ++ ([(q17, .inl (cs.2.2.2, 2, .inr (.inr (.inr (.inr (va_up (fun _ => none) (Int32.toNatClampNeg 0) (some (ad19 0))))))))] ++ wB cs ad19 B0)) : va_W).length) dX5_init_105 vX5_init_37 (c_X0_init hty) rfl (midR (n := ((([(h0, .inr (5, [.ref q1, .int 0, .ref q9, .ref (ad4 0), .ref (ad7 0), .ref q12, .ref (ad15 0), .ref q17, .null, .null, .null, .null, .null, .null, .int 0, .long 0]))] ++ r16) ++ ([(q17, .inl (cs.2.2.2, 2, .inr (.inr (.inr (.inr (va_up (fun _ => none) (Int32.toNatClampNeg 0) (some (ad19 0))))))))] ++ wB cs ad19 B0)) : va_W).length) _ _ rfl) rfl (Nat.le_of_ble_eq_true rfl) ⟨by decide, by decide⟩ (fun ad21 hq => ?_)
  subst hq
  refine g_cast rfl rfl rfl (w2 := ((([(h0, .inr (5, [.ref q1, .int 0, .ref q9, .ref (ad4 0), .ref (ad7 0), .ref q12, .ref (ad15 0), .ref q17, .null, .null, .null, .null, .null, .null, .int 0, .long 0]))] ++ r16) ++ ([(q17, .inl (cs.2.2.2, 2, .inr (.inr (.inr (.inr (va_up (fun _ => none) (Int32.toNatClampNeg 0) (some (ad19 0))))))))] ++ wB cs ad19 B0)) ++ wB cs ad21 B0)) (midR2 (n := ((([(h0, .inr (5, [.ref q1, .int 0, .ref q9, .ref (ad4 0), .ref (ad7 0), .ref q12, .ref (ad15 0), .ref q17, .null, .null, .null, .null, .null, .null, .int 0, .long 0]))] ++ r16) ++ ([(q17, .inl (cs.2.2.2, 2, .inr (.inr (.inr (.inr (va_up (fun _ => none) (Int32.toNatClampNeg 0) (some (ad19 0))))))))] ++ wB cs ad19 B0)) : va_W).length) _ _ _ rfl) ?_
  refine g_cast rfl rfl rfl (w2 := (([(h0, .inr (5, [.ref q1, .int 0, .ref q9, .ref (ad4 0), .ref (ad7 0), .ref q12, .ref (ad15 0), .ref q17, .null, .null, .null, .null, .null, .null, .int 0, .long 0]))] ++ r16) ++ ([(q17, .inl (cs.2.2.2, 2, .inr (.inr (.inr (.inr (va_up (fun _ => none) (Int32.toNatClampNeg 0) (some (ad19 0))))))))] ++ (wB cs ad19 B0 ++ wB cs ad21 B0)))) (by simp only [List.append_assoc]) ?_
  refine g_astO (w2 := (([(h0, .inr (5, [.ref q1, .int 0, .ref q9, .ref (ad4 0), .ref (ad7 0), .ref q12, .ref (ad15 0), .ref q17, .null, .null, .null, .null, .null, .null, .int 0, .long 0]))] ++ r16) ++ ([(q17, .inl (cs.2.2.2, 2, .inr (.inr (.inr (.inr (va_up (va_up (fun _ => none) (Int32.toNatClampNeg 0) (some (ad19 0))) (Int32.toNatClampNeg 1) (some (ad21 0))))))))] ++ (wB cs ad19 B0 ++ wB cs ad21 B0)))) ((([(h0, .inr (5, [.ref q1, .int 0, .ref q9, .ref (ad4 0), .ref (ad7 0), .ref q12, .ref (ad15 0), .ref q17, .null, .null, .null, .null, .null, .null, .int 0, .long 0]))] ++ r16) : va_W).length + 0) ((([(h0, .inr (5, [.ref q1, .int 0, .ref q9, .ref (ad4 0), .ref (ad7 0), .ref q12, .ref (ad15 0), .ref q17, .null, .null, .null, .null, .null, .null, .int 0, .long 0]))] ++ r16) : va_W).length + 11) hty dX5_init_108 (by rw [getR]; rfl) (by rw [getR]; rfl) (vp_in_iff.mpr (by decide)) (by rw [setR]; rfl) ?_
  obtain ⟨r22, e_r22⟩ : ∃ r : va_W, r = r16 ++ ([(q17, .inl (cs.2.2.2, 2, .inr (.inr (.inr (.inr (va_up (va_up (fun _ => none) (Int32.toNatClampNeg 0) (some (ad19 0))) (Int32.toNatClampNeg 1) (some (ad21 0))))))))] ++ (wB cs ad19 B0 ++ wB cs ad21 B0)) := ⟨_, rfl⟩
  refine g_cast rfl rfl rfl (w2 := ([(h0, .inr (5, [.ref q1, .int 0, .ref q9, .ref (ad4 0), .ref (ad7 0), .ref q12, .ref (ad15 0), .ref q17, .null, .null, .null, .null, .null, .null, .int 0, .long 0]))] ++ r22)) (by rw [e_r22]; simp only [List.append_assoc]) ?_
  refine g_iinc (v := 2) (lv2 := [(1, .int 2), (0, .ref h0)]) 0 dX5_init_109 rfl (by decide) (by decide) rfl ?_
  refine g_goto (tgt := 91) dX5_init_112 (by decide) ?_
  refine g_iload_n 0 dX5_init_91 rfl rfl ?_
  refine g_iconst (v := 2) dX5_init_92 (by decide) ?_
  refine g_icmp_ge (tgt := 115) dX5_init_93 (by decide) (fun _ => ?_) (fun h => absurd (by decide) h)
  refine g_aload_n 1 dX5_init_115 rfl rfl ?_
  refine g_iconst (v := 2) dX5_init_116 (by decide) ?_
  refine g_newZ (N := 2) hty dX5_init_117 acX5_init_Z (by decide) (by decide) (by decide) ⟨by decide, by decide⟩ (fun q23 => ?_)
  obtain ⟨r24, e_r24⟩ : ∃ r : va_W, r = r22 ++ [(q23, .inl (cs.2.2.1, 2, .inl (fun _ => 0)))] := ⟨_, rfl⟩
  refine g_cast rfl rfl rfl (w2 := ([(h0, .inr (5, [.ref q1, .int 0, .ref q9, .ref (ad4 0), .ref (ad7 0), .ref q12, .ref (ad15 0), .ref q17, .null, .null, .null, .null, .null, .null, .int 0, .long 0]))] ++ r24)) (by rw [e_r24]; simp only [List.append_assoc]) ?_
  refine g_putF (ci := 5) (T := TX5) (N := 16) (w2 := ([(h0, .inr (5, [.ref q1, .int 0, .ref q9, .ref (ad4 0), .ref (ad7 0), .ref q12, .ref (ad15 0), .ref q17, .ref q23, .null, .null, .null, .null, .null, .int 0, .long 0]))] ++ r24)) 0 8 (.ref q23) tyX5 hI dX5_init_119 iX5_init_X5 tyX5_ok nmX5 rfl jX5_init_50 (by decide) rfl rfl rfl rfl rfl rfl (Nat.le_of_ble_eq_true rfl) rfl ?_
  refine g_aload_n 1 dX5_init_122 rfl rfl ?_
  refine g_new (C := RX1) (T := TX1) (N := 1) (ci := 1) (fs := [.null]) tyX1 dX5_init_123 iX5_init_X1 tyX1_ok clX5_init_54 ctX5_init_X1.1 ctX5_init_X1.2 rfl (by decide) ⟨by decide, by decide⟩ (fun q25 => ?_)
  refine g_dup dX5_init_126 rfl ?_
  refine g_callI (As := []) (rest := [.ref q25, .ref h0]) ((([(h0, .inr (5, [.ref q1, .int 0, .ref q9, .ref (ad4 0), .ref (ad7 0), .ref q12, .ref (ad15 0), .ref q17, .ref q23, .null, .null, .null, .null, .null, .int 0, .long 0]))] ++ r24) : va_W).length) dX5_init_127 vX5_init_56 (c_X1_init hty) rfl (midR (n := (([(h0, .inr (5, [.ref q1, .int 0, .ref q9, .ref (ad4 0), .ref (ad7 0), .ref q12, .ref (ad15 0), .ref q17, .ref q23, .null, .null, .null, .null, .null, .int 0, .long 0]))] ++ r24) : va_W).length) _ _ rfl) rfl (Nat.le_of_ble_eq_true rfl) ⟨by decide, by decide⟩ (fun ad26 hq => ?_)
  subst hq
  refine g_cast rfl rfl rfl (w2 := (([(h0, .inr (5, [.ref q1, .int 0, .ref q9, .ref (ad4 0), .ref (ad7 0), .ref q12, .ref (ad15 0), .ref q17, .ref q23, .null, .null, .null, .null, .null, .int 0, .long 0]))] ++ r24) ++ wH cs ad26 H0)) (midR2 (n := (([(h0, .inr (5, [.ref q1, .int 0, .ref q9, .ref (ad4 0), .ref (ad7 0), .ref q12, .ref (ad15 0), .ref q17, .ref q23, .null, .null, .null, .null, .null, .int 0, .long 0]))] ++ r24) : va_W).length) _ _ _ rfl) ?_
  obtain ⟨r27, e_r27⟩ : ∃ r : va_W, r = r24 ++ wH cs ad26 H0 := ⟨_, rfl⟩
  refine g_cast rfl rfl rfl (w2 := ([(h0, .inr (5, [.ref q1, .int 0, .ref q9, .ref (ad4 0), .ref (ad7 0), .ref q12, .ref (ad15 0), .ref q17, .ref q23, .null, .null, .null, .null, .null, .int 0, .long 0]))] ++ r27)) (by rw [e_r27]; simp only [List.append_assoc]) ?_
  refine g_putF (ci := 5) (T := TX5) (N := 16) (w2 := ([(h0, .inr (5, [.ref q1, .int 0, .ref q9, .ref (ad4 0), .ref (ad7 0), .ref q12, .ref (ad15 0), .ref q17, .ref q23, .ref (ad26 0), .null, .null, .null, .null, .int 0, .long 0]))] ++ r27)) 0 9 (.ref (ad26 0)) tyX5 hI dX5_init_130 iX5_init_X5 tyX5_ok nmX5 rfl jX5_init_57 (by decide) rfl rfl rfl rfl rfl rfl (Nat.le_of_ble_eq_true rfl) rfl ?_
  refine g_aload_n 1 dX5_init_133 rfl rfl ?_
  refine g_new (C := RX4) (T := TX4) (N := 3) (ci := 4) (fs := [.null, .null, .null]) tyX4 dX5_init_134 iX5_init_X4 tyX4_ok clX5_init_61 ctX5_init_X4.1 ctX5_init_X4.2 rfl (by decide) ⟨by decide, by decide⟩ (fun q28 => ?_)
  refine g_dup dX5_init_137 rfl ?_
  refine g_callI (As := []) (rest := [.ref q28, .ref h0]) ((([(h0, .inr (5, [.ref q1, .int 0, .ref q9, .ref (ad4 0), .ref (ad7 0), .ref q12, .ref (ad15 0), .ref q17, .ref q23, .ref (ad26 0), .null, .null, .null, .null, .int 0, .long 0]))] ++ r27) : va_W).length) dX5_init_138 vX5_init_63 (c_X4_init hty hN hv) rfl (midR (n := (([(h0, .inr (5, [.ref q1, .int 0, .ref q9, .ref (ad4 0), .ref (ad7 0), .ref q12, .ref (ad15 0), .ref q17, .ref q23, .ref (ad26 0), .null, .null, .null, .null, .int 0, .long 0]))] ++ r27) : va_W).length) _ _ rfl) rfl (Nat.le_of_ble_eq_true rfl) ⟨by decide, by decide⟩ (fun ad29 hq => ?_)
  subst hq
  refine g_cast rfl rfl rfl (w2 := (([(h0, .inr (5, [.ref q1, .int 0, .ref q9, .ref (ad4 0), .ref (ad7 0), .ref q12, .ref (ad15 0), .ref q17, .ref q23, .ref (ad26 0), .null, .null, .null, .null, .int 0, .long 0]))] ++ r27) ++ wV cs ad29 v)) (midR2 (n := (([(h0, .inr (5, [.ref q1, .int 0, .ref q9, .ref (ad4 0), .ref (ad7 0), .ref q12, .ref (ad15 0), .ref q17, .ref q23, .ref (ad26 0), .null, .null, .null, .null, .int 0, .long 0]))] ++ r27) : va_W).length) _ _ _ rfl) ?_
  obtain ⟨r30, e_r30⟩ : ∃ r : va_W, r = r27 ++ wV cs ad29 v := ⟨_, rfl⟩
  refine g_cast rfl rfl rfl (w2 := ([(h0, .inr (5, [.ref q1, .int 0, .ref q9, .ref (ad4 0), .ref (ad7 0), .ref q12, .ref (ad15 0), .ref q17, .ref q23, .ref (ad26 0), .null, .null, .null, .null, .int 0, .long 0]))] ++ r30)) (by rw [e_r30]; simp only [List.append_assoc]) ?_
  refine g_putF (ci := 5) (T := TX5) (N := 16) (w2 := ([(h0, .inr (5, [.ref q1, .int 0, .ref q9, .ref (ad4 0), .ref (ad7 0), .ref q12, .ref (ad15 0), .ref q17, .ref q23, .ref (ad26 0), .ref (ad29 0), .null, .null, .null, .int 0, .long 0]))] ++ r30)) 0 10 (.ref (ad29 0)) tyX5 hI dX5_init_141 iX5_init_X5 tyX5_ok nmX5 rfl jX5_init_64 (by decide) rfl rfl rfl rfl rfl rfl (Nat.le_of_ble_eq_true rfl) rfl ?_
  refine g_aload_n 1 dX5_init_144 rfl rfl ?_
  refine g_bipush (v := 20) dX5_init_145 (by decide) ?_
  refine g_newI (N := 20) hty dX5_init_147 acX5_init_I (by decide) (by decide) (by decide) ⟨by decide, by decide⟩ (fun q31 => ?_)
  obtain ⟨r32, e_r32⟩ : ∃ r : va_W, r = r30 ++ [(q31, .inl (cs.1, 20, .inl (fun _ => 0)))] := ⟨_, rfl⟩
  refine g_cast rfl rfl rfl (w2 := ([(h0, .inr (5, [.ref q1, .int 0, .ref q9, .ref (ad4 0), .ref (ad7 0), .ref q12, .ref (ad15 0), .ref q17, .ref q23, .ref (ad26 0), .ref (ad29 0), .null, .null, .null, .int 0, .long 0]))] ++ r32)) (by rw [e_r32]; simp only [List.append_assoc]) ?_
  refine g_putF (ci := 5) (T := TX5) (N := 16) (w2 := ([(h0, .inr (5, [.ref q1, .int 0, .ref q9, .ref (ad4 0), .ref (ad7 0), .ref q12, .ref (ad15 0), .ref q17, .ref q23, .ref (ad26 0), .ref (ad29 0), .ref q31, .null, .null, .int 0, .long 0]))] ++ r32)) 0 11 (.ref q31) tyX5 hI dX5_init_149 iX5_init_X5 tyX5_ok nmX5 rfl jX5_init_68 (by decide) rfl rfl rfl rfl rfl rfl (Nat.le_of_ble_eq_true rfl) rfl ?_
  refine g_aload_n 1 dX5_init_152 rfl rfl ?_
  refine g_bipush (v := 102) dX5_init_153 (by decide) ?_
  refine g_newI (N := 102) hty dX5_init_155 acX5_init_I (by decide) (by decide) (by decide) ⟨by decide, by decide⟩ (fun q33 => ?_)
  obtain ⟨r34, e_r34⟩ : ∃ r : va_W, r = r32 ++ [(q33, .inl (cs.1, 102, .inl (fun _ => 0)))] := ⟨_, rfl⟩
  refine g_cast rfl rfl rfl (w2 := ([(h0, .inr (5, [.ref q1, .int 0, .ref q9, .ref (ad4 0), .ref (ad7 0), .ref q12, .ref (ad15 0), .ref q17, .ref q23, .ref (ad26 0), .ref (ad29 0), .ref q31, .null, .null, .int 0, .long 0]))] ++ r34)) (by rw [e_r34]; simp only [List.append_assoc]) ?_
  refine g_putF (ci := 5) (T := TX5) (N := 16) (w2 := ([(h0, .inr (5, [.ref q1, .int 0, .ref q9, .ref (ad4 0), .ref (ad7 0), .ref q12, .ref (ad15 0), .ref q17, .ref q23, .ref (ad26 0), .ref (ad29 0), .ref q31, .ref q33, .null, .int 0, .long 0]))] ++ r34)) 0 12 (.ref q33) tyX5 hI dX5_init_157 iX5_init_X5 tyX5_ok nmX5 rfl jX5_init_71 (by decide) rfl rfl rfl rfl rfl rfl (Nat.le_of_ble_eq_true rfl) rfl ?_
  refine g_aload_n 1 dX5_init_160 rfl rfl ?_
  refine g_bipush (v := 102) dX5_init_161 (by decide) ?_
  refine g_newI (N := 102) hty dX5_init_163 acX5_init_I (by decide) (by decide) (by decide) ⟨by decide, by decide⟩ (fun q35 => ?_)
  obtain ⟨r36, e_r36⟩ : ∃ r : va_W, r = r34 ++ [(q35, .inl (cs.1, 102, .inl (fun _ => 0)))] := ⟨_, rfl⟩
  refine g_cast rfl rfl rfl (w2 := ([(h0, .inr (5, [.ref q1, .int 0, .ref q9, .ref (ad4 0), .ref (ad7 0), .ref q12, .ref (ad15 0), .ref q17, .ref q23, .ref (ad26 0), .ref (ad29 0), .ref q31, .ref q33, .null, .int 0, .long 0]))] ++ r36)) (by rw [e_r36]; simp only [List.append_assoc]) ?_
  refine g_putF (ci := 5) (T := TX5) (N := 16) (w2 := ([(h0, .inr (5, [.ref q1, .int 0, .ref q9, .ref (ad4 0), .ref (ad7 0), .ref q12, .ref (ad15 0), .ref q17, .ref q23, .ref (ad26 0), .ref (ad29 0), .ref q31, .ref q33, .ref q35, .int 0, .long 0]))] ++ r36)) 0 13 (.ref q35) tyX5 hI dX5_init_165 iX5_init_X5 tyX5_ok nmX5 rfl jX5_init_74 (by decide) rfl rfl rfl rfl rfl rfl (Nat.le_of_ble_eq_true rfl) rfl ?_
  refine g_cast rfl rfl rfl (w2 := ([(h0, .inr (5, [.ref q1, .int 0, .ref q9, .ref (ad4 0), .ref (ad7 0), .ref q12, .ref (ad15 0), .ref q17, .ref q23, .ref (ad26 0), .ref (ad29 0), .ref q31, .ref q33, .ref q35, .int 0, .long 0]))] ++ ([(q1, .inl (cs.1, 400, .inl (fun _ => 0)))] ++ (wM cs ad4 M0 ++ (wM cs ad7 M0 ++ ([(q9, .inr (3, [.ref q1, .ref (ad7 0), .int 0, .int 0, .int 0, .int 0, .int 0, .int 0, .int 0]))] ++ ([(q12, .inl (cs.1, 6, .inl (fun _ => 0)))] ++ (wB cs ad15 (uB_lot B0 1) ++ ([(q17, .inl (cs.2.2.2, 2, .inr (.inr (.inr (.inr (va_up (va_up (fun _ => none) (Int32.toNatClampNeg 0) (some (ad19 0))) (Int32.toNatClampNeg 1) (some (ad21 0))))))))] ++ (wB cs ad19 B0 ++ (wB cs ad21 B0 ++ ([(q23, .inl (cs.2.2.1, 2, .inl (fun _ => 0)))] ++ (wH cs ad26 H0 ++ (wV cs ad29 v ++ ([(q31, .inl (cs.1, 20, .inl (fun _ => 0)))] ++ ([(q33, .inl (cs.1, 102, .inl (fun _ => 0)))] ++ [(q35, .inl (cs.1, 102, .inl (fun _ => 0)))])))))))))))))))) (by rw [e_r36, e_r34, e_r32, e_r30, e_r27, e_r24, e_r22, e_r16, e_r13, e_r11, e_r8, e_r5, e_r2]; simp only [List.append_assoc]) ?_
  refine g_permP (w2 := ([(h0, .inr (5, [.ref q1, .int 0, .ref q9, .ref (ad4 0), .ref (ad7 0), .ref q12, .ref (ad15 0), .ref q17, .ref q23, .ref (ad26 0), .ref (ad29 0), .ref q31, .ref q33, .ref q35, .int 0, .long 0]))] ++ ([(q9, .inr (3, [.ref q1, .ref (ad7 0), .int 0, .int 0, .int 0, .int 0, .int 0, .int 0, .int 0]))] ++ ([(q1, .inl (cs.1, 400, .inl (fun _ => 0)))] ++ (wM cs ad7 M0 ++ (wM cs ad4 M0 ++ ([(q12, .inl (cs.1, 6, .inl (fun _ => 0)))] ++ (wB cs ad15 (uB_lot B0 1) ++ ([(q17, .inl (cs.2.2.2, 2, .inr (.inr (.inr (.inr (va_up (va_up (fun _ => none) (Int32.toNatClampNeg 0) (some (ad19 0))) (Int32.toNatClampNeg 1) (some (ad21 0))))))))] ++ ([(q23, .inl (cs.2.2.1, 2, .inl (fun _ => 0)))] ++ (wB cs ad19 B0 ++ (wB cs ad21 B0 ++ (wH cs ad26 H0 ++ (wV cs ad29 v ++ ([(q31, .inl (cs.1, 20, .inl (fun _ => 0)))] ++ ([(q33, .inl (cs.1, 102, .inl (fun _ => 0)))] ++ [(q35, .inl (cs.1, 102, .inl (fun _ => 0)))])))))))))))))))) ?_ ?_
  · refine List.Perm.append_left _ ((perm5 _ _ _ _ _).trans ?_)
    exact List.Perm.append_left _ (List.Perm.append_left _ (List.Perm.append_left _ (List.Perm.append_left _ (List.Perm.append_left _ (List.Perm.append_left _ (List.Perm.append_left _ (perm3 _ _ _ _)))))))
  refine g_cast rfl rfl rfl (w2 := wT cs (fun k => ([h0, q9, q1, (ad7 0), (ad7 1), (ad7 2), (ad7 3), (ad7 4), (ad7 5), (ad7 6), (ad7 7), (ad4 0), (ad4 1), (ad4 2), (ad4 3), (ad4 4), (ad4 5), (ad4 6), (ad4 7), q12, (ad15 0), (ad15 1), (ad15 2), (ad15 3), (ad15 4), (ad15 5), (ad15 6), (ad15 7), (ad15 8), (ad15 9), q17, q23, (ad19 0), (ad19 1), (ad19 2), (ad19 3), (ad19 4), (ad19 5), (ad19 6), (ad19 7), (ad19 8), (ad19 9), (ad21 0), (ad21 1), (ad21 2), (ad21 3), (ad21 4), (ad21 5), (ad21 6), (ad21 7), (ad21 8), (ad21 9), (ad26 0), (ad26 1), (ad29 0), (ad29 1), (ad29 2), (ad29 3), q31, q33, q35] : List Nat).getD k 0) (T0 v)) rfl ?_
  exact hr _ _ (fun k => ([h0, q9, q1, (ad7 0), (ad7 1), (ad7 2), (ad7 3), (ad7 4), (ad7 5), (ad7 6), (ad7 7), (ad4 0), (ad4 1), (ad4 2), (ad4 3), (ad4 4), (ad4 5), (ad4 6), (ad4 7), q12, (ad15 0), (ad15 1), (ad15 2), (ad15 3), (ad15 4), (ad15 5), (ad15 6), (ad15 7), (ad15 8), (ad15 9), q17, q23, (ad19 0), (ad19 1), (ad19 2), (ad19 3), (ad19 4), (ad19 5), (ad19 6), (ad19 7), (ad19 8), (ad19 9), (ad21 0), (ad21 1), (ad21 2), (ad21 3), (ad21 4), (ad21 5), (ad21 6), (ad21 7), (ad21 8), (ad21 9), (ad26 0), (ad26 1), (ad29 0), (ad29 1), (ad29 2), (ad29 3), q31, q33, q35] : List Nat).getD k 0) rfl dX5_init_168
