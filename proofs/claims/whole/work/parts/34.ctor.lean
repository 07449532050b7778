theorem midR {n : Nat} (a b : va_W) (h : a.length = n) : ((a ++ b).drop n).take b.length = b := by subst h; simp
theorem midR2 {n : Nat} (a b b2 : va_W) (h : a.length = n) : (a ++ b).take n ++ (b2 ++ (a ++ b).drop (n + b.length)) = a ++ b2 := by
  subst h
  rw [List.take_left, List.drop_eq_nil_of_le (by simp), List.append_nil]
def B0 : SB := ((0 : Int32), (fun _ => 0 : Nat → Int32), (fun _ => 0 : Nat → Int32), (fun _ => 0 : Nat → Int32), (fun _ => 0 : Nat → Int32), (fun _ => 0 : Nat → Int32), (fun _ => 0 : Nat → Int32), (0 : Int32), (fun _ => 0 : Nat → Int32), (fun _ => 0 : Nat → Int32), (fun _ => 0 : Nat → Int32), (0 : Int32), (0 : Int64), (0 : Int64), (0 : Int32))
def H0 : SH := (fun _ => 0 : Nat → Int64)
def M00 : SM := ((0 : Int32), (0 : Int32), (0 : Int32), (0 : Int32), (fun _ => 0 : Nat → Int32), (fun _ => 0 : Nat → Int32), (fun _ => 0 : Nat → Int32), (0 : Int32), (fun _ => 0 : Nat → Int32), (fun _ => 0 : Nat → Int32), (fun _ => 0 : Nat → Int32), (fun _ => 0 : Nat → Int32))
def M0 : SM := uM_ways (uM_stalls (uM_more (uM_just (uM_less M00 2) 6) 2) 0) 0
theorem M0_eq (F : Nat) : f_X2_empty F M00 = some M0 := rfl
def V00 : SV := ((fun _ => 0 : Nat → Int32), (fun _ => 0 : Nat → Int64), (fun _ => 0 : Nat → Int32))
def V01 : SV := ((upd (upd (upd (upd (upd (upd (upd (upd (fun _ => 0 : Nat → Int32) (Int32.toNatClampNeg (0 : Int32)) (aFIRST (Int32.toNatClampNeg (0 : Int32)))) (Int32.toNatClampNeg (1 : Int32)) (aFIRST (Int32.toNatClampNeg (1 : Int32)))) (Int32.toNatClampNeg (2 : Int32)) (aFIRST (Int32.toNatClampNeg (2 : Int32)))) (Int32.toNatClampNeg (3 : Int32)) (aFIRST (Int32.toNatClampNeg (3 : Int32)))) (Int32.toNatClampNeg (4 : Int32)) (aFIRST (Int32.toNatClampNeg (4 : Int32)))) (Int32.toNatClampNeg (5 : Int32)) (aFIRST (Int32.toNatClampNeg (5 : Int32)))) (Int32.toNatClampNeg (6 : Int32)) (aFIRST (Int32.toNatClampNeg (6 : Int32)))) (Int32.toNatClampNeg (7 : Int32)) (aFIRST (Int32.toNatClampNeg (7 : Int32)))), (fun _ => 0 : Nat → Int64), (fun _ => 0 : Nat → Int32))
def R0 (m : SM) : SR := ((fun _ => 0 : Nat → Int32), m, (0 : Int32), (0 : Int32), (0 : Int32), (0 : Int32), (0 : Int32), (0 : Int32), (0 : Int32))
def T0 (v : SV) : ST := ((0 : Int32), (R0 M0), M0, (fun _ => 0 : Nat → Int32), (uB_lot B0 1), B0, B0, (fun _ => 0 : Nat → Int32), H0, v, (fun _ => 0 : Nat → Int32), (fun _ => 0 : Nat → Int32), (fun _ => 0 : Nat → Int32), (0 : Int32), (0 : Int64))
def O00 : SO := ((0 : Int32), (0 : Int64), (fun _ => 0 : Nat → Int32), (fun _ => 0 : Nat → Int32), (fun _ => 0 : Nat → Int32), (fun _ => 0 : Nat → Int64), (fun _ => 0 : Nat → Int32), (0 : Int32), (0 : Int32), (0 : Int32), (0 : Int32), (0 : Int32), (0 : Int32), (fun _ => 0 : Nat → Int32), (fun _ => 0 : Nat → Int32), (fun _ => 0 : Nat → Int32), (0 : Int32), (0 : Int32), (0 : Int32), (0 : Int32), (fun _ => 0 : Nat → Int32), (fun _ => 0 : Nat → Int32), (fun _ => 0 : Nat → Int64), (fun _ => 0 : Nat → Int64), (fun _ => 0 : Nat → Int32), (fun _ => 0 : Nat → Int32), (0 : Int64), (0 : Int64), (0 : Int32))
def rmX0_init : Room := { frames := 1, cells := 9, slots := 240, locals := 12 }
def kX0_init : MK := (cX0_init, 1, RX0, wsX0_init, none, rmX0_init)
set_option maxRecDepth 20000 in
theorem oiX0_init : (Cond.methodLink RX0 3 objectInit ∈ wsX0_init ∧ Cond.instanceMethod objectInit ∈ wsX0_init) ∧ Cond.code objectInit ⟨#[0xb1]⟩ 1 none ∈ wsX0_init := ⟨⟨by decide +kernel, by decide +kernel⟩, by decide +kernel⟩
set_option maxRecDepth 20000 in
theorem acX0_init_I : Cond.arrayClass .int ∈ wsX0_init := by decide +kernel
set_option maxRecDepth 20000 in
theorem jX0_init_9 : Cond.fieldLink RX0 9 (TX0 1).1 (TX0 1).2.1 (TX0 1).2.2.1 ∈ wsX0_init := by decide +kernel
set_option maxRecDepth 20000 in
theorem iX0_init_X0 : ∀ x ∈ u_ws RX0 TX0 15, x ∈ wsX0_init := by decide +kernel
set_option maxRecDepth 20000 in
theorem jX0_init_15 : Cond.fieldLink RX0 15 (TX0 2).1 (TX0 2).2.1 (TX0 2).2.2.1 ∈ wsX0_init := by decide +kernel
set_option maxRecDepth 20000 in
theorem jX0_init_18 : Cond.fieldLink RX0 18 (TX0 3).1 (TX0 3).2.1 (TX0 3).2.2.1 ∈ wsX0_init := by decide +kernel
set_option maxRecDepth 20000 in
theorem jX0_init_21 : Cond.fieldLink RX0 21 (TX0 4).1 (TX0 4).2.1 (TX0 4).2.2.1 ∈ wsX0_init := by decide +kernel
set_option maxRecDepth 20000 in
theorem jX0_init_24 : Cond.fieldLink RX0 24 (TX0 5).1 (TX0 5).2.1 (TX0 5).2.2.1 ∈ wsX0_init := by decide +kernel
set_option maxRecDepth 20000 in
theorem jX0_init_27 : Cond.fieldLink RX0 27 (TX0 6).1 (TX0 6).2.1 (TX0 6).2.2.1 ∈ wsX0_init := by decide +kernel
set_option maxRecDepth 20000 in
theorem jX0_init_30 : Cond.fieldLink RX0 30 (TX0 8).1 (TX0 8).2.1 (TX0 8).2.2.1 ∈ wsX0_init := by decide +kernel
set_option maxRecDepth 20000 in
theorem jX0_init_33 : Cond.fieldLink RX0 33 (TX0 9).1 (TX0 9).2.1 (TX0 9).2.2.1 ∈ wsX0_init := by decide +kernel
set_option maxRecDepth 20000 in
theorem jX0_init_36 : Cond.fieldLink RX0 36 (TX0 10).1 (TX0 10).2.1 (TX0 10).2.2.1 ∈ wsX0_init := by decide +kernel
set_option maxHeartbeats 4000000 in
set_option maxRecDepth 100000 in
theorem c_X0_init {l : Launch} {D : va_G} {tys : List (ClassId × FieldType)} {X : XT} {cs : CS} {h0 : Nat} (htyM : tys = tyA cs) : Cn l D tys X yX0_init wsX0_init rmX0_init 9 240 [.ref h0] [(h0, .inr (0, [.int 0, .null, .null, .null, .null, .null, .null, .int 0, .null, .null, .null, .int 0, .long 0, .long 0, .int 0]))] (fun ad => ad 0 = h0) (fun ad => wB cs ad B0) := by
  refine Cn_ofG (by decide +kernel) rfl rfl (Nat.le_of_ble_eq_true rfl) (fun E _ _ hty0 hX0 hI hr => ?_)
  have hty := hty0.trans htyM
  have hr : Rn E kX0_init 9 240 (fun ad => ad 0 = h0) (fun ad => wB cs ad B0) := hr
  show G E kX0_init 0 0 0 [(0, .ref h0)] [] [(h0, .inr (0, [.int 0, .null, .null, .null, .null, .null, .null, .int 0, .null, .null, .null, .int 0, .long 0, .long 0, .int 0]))]
  refine g_aload_n 0 dX0_init_0 rfl rfl ?_
  refine g_objInit dX0_init_1 oiX0_init.1.1 oiX0_init.1.2 oiX0_init.2 ⟨by decide, Nat.le_of_ble_eq_true rfl⟩ ?_
  refine g_aload_n 0 dX0_init_4 rfl rfl ?_
  refine g_bipush (v := 30) dX0_init_5 (by decide) ?_
  refine g_newI (N := 30) hty dX0_init_7 acX0_init_I (by decide) (by decide) (by decide) ⟨by decide, by decide⟩ (fun q1 => ?_)
  refine g_cast rfl rfl rfl (w2 := [(h0, .inr (0, [.int 0, .null, .null, .null, .null, .null, .null, .int 0, .null, .null, .null, .int 0, .long 0, .long 0, .int 0])), (q1, .inl (cs.1, 30, .inl (fun _ => 0)))]) rfl ?_
  refine g_putF (ci := 0) (T := TX0) (N := 15) (w2 := [(h0, .inr (0, [.int 0, .ref q1, .null, .null, .null, .null, .null, .int 0, .null, .null, .null, .int 0, .long 0, .long 0, .int 0])), (q1, .inl (cs.1, 30, .inl (fun _ => 0)))]) 0 1 (.ref q1) tyX0 hI dX0_init_9 iX0_init_X0 tyX0_ok nmX0 rfl jX0_init_9 (by decide) rfl rfl rfl rfl rfl rfl (Nat.le_of_ble_eq_true rfl) rfl ?_
  refine g_aload_n 0 dX0_init_12 rfl rfl ?_
  refine g_bipush (v := 30) dX0_init_13 (by decide) ?_
  refine g_newI (N := 30) hty dX0_init_15 acX0_init_I (by decide) (by decide) (by decide) ⟨by decide, by decide⟩ (fun q2 => ?_)
  refine g_cast rfl rfl rfl (w2 := [(h0, .inr (0, [.int 0, .ref q1, .null, .null, .null, .null, .null, .int 0, .null, .null, .null, .int 0, .long 0, .long 0, .int 0])), (q1, .inl (cs.1, 30, .inl (fun _ => 0))), (q2, .inl (cs.1, 30, .inl (fun _ => 0)))]) rfl ?_
  refine g_putF (ci := 0) (T := TX0) (N := 15) (w2 := [(h0, .inr (0, [.int 0, .ref q1, .ref q2, .null, .null, .null, .null, .int 0, .null, .null, .null, .int 0, .long 0, .long 0, .int 0])), (q1, .inl (cs.1, 30, .inl (fun _ => 0))), (q2, .inl (cs.1, 30, .inl (fun _ => 0)))]) 0 2 (.ref q2) tyX0 hI dX0_init_17 iX0_init_X0 tyX0_ok nmX0 rfl jX0_init_15 (by decide) rfl rfl rfl rfl rfl rfl (Nat.le_of_ble_eq_true rfl) rfl ?_
  refine g_aload_n 0 dX0_init_20 rfl rfl ?_
  refine g_bipush (v := 30) dX0_init_21 (by decide) ?_
  refine g_newI (N := 30) hty dX0_init_23 acX0_init_I (by decide) (by decide) (by decide) ⟨by decide, by decide⟩ (fun q3 => ?_)
  refine g_cast rfl rfl rfl (w2 := [(h0, .inr (0, [.int 0, .ref q1, .ref q2, .null, .null, .null, .null, .int 0, .null, .null, .null, .int 0, .long 0, .long 0, .int 0])), (q1, .inl (cs.1, 30, .inl (fun _ => 0))), (q2, .inl (cs.1, 30, .inl (fun _ => 0))), (q3, .inl (cs.1, 30, .inl (fun _ => 0)))]) rfl ?_
  refine g_putF (ci := 0) (T := TX0) (N := 15) (w2 := [(h0, .inr (0, [.int 0, .ref q1, .ref q2, .ref q3, .null, .null, .null, .int 0, .null, .null, .null, .int 0, .long 0, .long 0, .int 0])), (q1, .inl (cs.1, 30, .inl (fun _ => 0))), (q2, .inl (cs.1, 30, .inl (fun _ => 0))), (q3, .inl (cs.1, 30, .inl (fun _ => 0)))]) 0 3 (.ref q3) tyX0 hI dX0_init_25 iX0_init_X0 tyX0_ok nmX0 rfl jX0_init_18 (by decide) rfl rfl rfl rfl rfl rfl (Nat.le_of_ble_eq_true rfl) rfl ?_
  refine g_aload_n 0 dX0_init_28 rfl rfl ?_
  refine g_bipush (v := 30) dX0_init_29 (by decide) ?_
  refine g_newI (N := 30) hty dX0_init_31 acX0_init_I (by decide) (by decide) (by decide) ⟨by decide, by decide⟩ (fun q4 => ?_)
  refine g_cast rfl rfl rfl (w2 := [(h0, .inr (0, [.int 0, .ref q1, .ref q2, .ref q3, .null, .null, .null, .int 0, .null, .null, .null, .int 0, .long 0, .long 0, .int 0])), (q1, .inl (cs.1, 30, .inl (fun _ => 0))), (q2, .inl (cs.1, 30, .inl (fun _ => 0))), (q3, .inl (cs.1, 30, .inl (fun _ => 0))), (q4, .inl (cs.1, 30, .inl (fun _ => 0)))]) rfl ?_
  refine g_putF (ci := 0) (T := TX0) (N := 15) (w2 := [(h0, .inr (0, [.int 0, .ref q1, .ref q2, .ref q3, .ref q4, .null, .null, .int 0, .null, .null, .null, .int 0, .long 0, .long 0, .int 0])), (q1, .inl (cs.1, 30, .inl (fun _ => 0))), (q2, .inl (cs.1, 30, .inl (fun _ => 0))), (q3, .inl (cs.1, 30, .inl (fun _ => 0))), (q4, .inl (cs.1, 30, .inl (fun _ => 0)))]) 0 4 (.ref q4) tyX0 hI dX0_init_33 iX0_init_X0 tyX0_ok nmX0 rfl jX0_init_21 (by decide) rfl rfl rfl rfl rfl rfl (Nat.le_of_ble_eq_true rfl) rfl ?_
  refine g_aload_n 0 dX0_init_36 rfl rfl ?_
  refine g_bipush (v := 30) dX0_init_37 (by decide) ?_
  refine g_newI (N := 30) hty dX0_init_39 acX0_init_I (by decide) (by decide) (by decide) ⟨by decide, by decide⟩ (fun q5 => ?_)
  refine g_cast rfl rfl rfl (w2 := [(h0, .inr (0, [.int 0, .ref q1, .ref q2, .ref q3, .ref q4, .null, .null, .int 0, .null, .null, .null, .int 0, .long 0, .long 0, .int 0])), (q1, .inl (cs.1, 30, .inl (fun _ => 0))), (q2, .inl (cs.1, 30, .inl (fun _ => 0))), (q3, .inl (cs.1, 30, .inl (fun _ => 0))), (q4, .inl (cs.1, 30, .inl (fun _ => 0))), (q5, .inl (cs.1, 30, .inl (fun _ => 0)))]) rfl ?_
  refine g_putF (ci := 0) (T := TX0) (N := 15) (w2 := [(h0, .inr (0, [.int 0, .ref q1, .ref q2, .ref q3, .ref q4, .ref q5, .null, .int 0, .null, .null, .null, .int 0, .long 0, .long 0, .int 0])), (q1, .inl (cs.1, 30, .inl (fun _ => 0))), (q2, .inl (cs.1, 30, .inl (fun _ => 0))), (q3, .inl (cs.1, 30, .inl (fun _ => 0))), (q4, .inl (cs.1, 30, .inl (fun _ => 0))), (q5, .inl (cs.1, 30, .inl (fun _ => 0)))]) 0 5 (.ref q5) tyX0 hI dX0_init_41 iX0_init_X0 tyX0_ok nmX0 rfl jX0_init_24 (by decide) rfl rfl rfl rfl rfl rfl (Nat.le_of_ble_eq_true rfl) rfl ?_
  refine g_aload_n 0 dX0_init_44 rfl rfl ?_
  refine g_bipush (v := 30) dX0_init_45 (by decide) ?_
  refine g_newI (N := 30) hty dX0_init_47 acX0_init_I (by decide) (by decide) (by decide) ⟨by decide, by decide⟩ (fun q6 => ?_)
  refine g_cast rfl rfl rfl (w2 := [(h0, .inr (0, [.int 0, .ref q1, .ref q2, .ref q3, .ref q4, .ref q5, .null, .int 0, .null, .null, .null, .int 0, .long 0, .long 0, .int 0])), (q1, .inl (cs.1, 30, .inl (fun _ => 0))), (q2, .inl (cs.1, 30, .inl (fun _ => 0))), (q3, .inl (cs.1, 30, .inl (fun _ => 0))), (q4, .inl (cs.1, 30, .inl (fun _ => 0))), (q5, .inl (cs.1, 30, .inl (fun _ => 0))), (q6, .inl (cs.1, 30, .inl (fun _ => 0)))]) rfl ?_
  refine g_putF (ci := 0) (T := TX0) (N := 15) (w2 := [(h0, .inr (0, [.int 0, .ref q1, .ref q2, .ref q3, .ref q4, .ref q5, .ref q6, .int 0, .null, .null, .null, .int 0, .long 0, .long 0, .int 0])), (q1, .inl (cs.1, 30, .inl (fun _ => 0))), (q2, .inl (cs.1, 30, .inl (fun _ => 0))), (q3, .inl (cs.1, 30, .inl (fun _ => 0))), (q4, .inl (cs.1, 30, .inl (fun _ => 0))), (q5, .inl (cs.1, 30, .inl (fun _ => 0))), (q6, .inl (cs.1, 30, .inl (fun _ => 0)))]) 0 6 (.ref q6) tyX0 hI dX0_init_49 iX0_init_X0 tyX0_ok nmX0 rfl jX0_init_27 (by decide) rfl rfl rfl rfl rfl rfl (Nat.le_of_ble_eq_true rfl) rfl ?_
  refine g_aload_n 0 dX0_init_52 rfl rfl ?_
  refine g_bipush (v := 20) dX0_init_53 (by decide) ?_
  refine g_newI (N := 20) hty dX0_init_55 acX0_init_I (by decide) (by decide) (by decide) ⟨by decide, by decide⟩ (fun q7 => ?_)
  refine g_cast rfl rfl rfl (w2 := [(h0, .inr (0, [.int 0, .ref q1, .ref q2, .ref q3, .ref q4, .ref q5, .ref q6, .int 0, .null, .null, .null, .int 0, .long 0, .long 0, .int 0])), (q1, .inl (cs.1, 30, .inl (fun _ => 0))), (q2, .inl (cs.1, 30, .inl (fun _ => 0))), (q3, .inl (cs.1, 30, .inl (fun _ => 0))), (q4, .inl (cs.1, 30, .inl (fun _ => 0))), (q5, .inl (cs.1, 30, .inl (fun _ => 0))), (q6, .inl (cs.1, 30, .inl (fun _ => 0))), (q7, .inl (cs.1, 20, .inl (fun _ => 0)))]) rfl ?_
  refine g_putF (ci := 0) (T := TX0) (N := 15) (w2 := [(h0, .inr (0, [.int 0, .ref q1, .ref q2, .ref q3, .ref q4, .ref q5, .ref q6, .int 0, .ref q7, .null, .null, .int 0, .long 0, .long 0, .int 0])), (q1, .inl (cs.1, 30, .inl (fun _ => 0))), (q2, .inl (cs.1, 30, .inl (fun _ => 0))), (q3, .inl (cs.1, 30, .inl (fun _ => 0))), (q4, .inl (cs.1, 30, .inl (fun _ => 0))), (q5, .inl (cs.1, 30, .inl (fun _ => 0))), (q6, .inl (cs.1, 30, .inl (fun _ => 0))), (q7, .inl (cs.1, 20, .inl (fun _ => 0)))]) 0 8 (.ref q7) tyX0 hI dX0_init_57 iX0_init_X0 tyX0_ok nmX0 rfl jX0_init_30 (by decide) rfl rfl rfl rfl rfl rfl (Nat.le_of_ble_eq_true rfl) rfl ?_
  refine g_aload_n 0 dX0_init_60 rfl rfl ?_
  refine g_bipush (v := 20) dX0_init_61 (by decide) ?_
  refine g_newI (N := 20) hty dX0_init_63 acX0_init_I (by decide) (by decide) (by decide) ⟨by decide, by decide⟩ (fun q8 => ?_)
  refine g_cast rfl rfl rfl (w2 := [(h0, .inr (0, [.int 0, .ref q1, .ref q2, .ref q3, .ref q4, .ref q5, .ref q6, .int 0, .ref q7, .null, .null, .int 0, .long 0, .long 0, .int 0])), (q1, .inl (cs.1, 30, .inl (fun _ => 0))), (q2, .inl (cs.1, 30, .inl (fun _ => 0))), (q3, .inl (cs.1, 30, .inl (fun _ => 0))), (q4, .inl (cs.1, 30, .inl (fun _ => 0))), (q5, .inl (cs.1, 30, .inl (fun _ => 0))), (q6, .inl (cs.1, 30, .inl (fun _ => 0))), (q7, .inl (cs.1, 20, .inl (fun _ => 0))), (q8, .inl (cs.1, 20, .inl (fun _ => 0)))]) rfl ?_
  refine g_putF (ci := 0) (T := TX0) (N := 15) (w2 := [(h0, .inr (0, [.int 0, .ref q1, .ref q2, .ref q3, .ref q4, .ref q5, .ref q6, .int 0, .ref q7, .ref q8, .null, .int 0, .long 0, .long 0, .int 0])), (q1, .inl (cs.1, 30, .inl (fun _ => 0))), (q2, .inl (cs.1, 30, .inl (fun _ => 0))), (q3, .inl (cs.1, 30, .inl (fun _ => 0))), (q4, .inl (cs.1, 30, .inl (fun _ => 0))), (q5, .inl (cs.1, 30, .inl (fun _ => 0))), (q6, .inl (cs.1, 30, .inl (fun _ => 0))), (q7, .inl (cs.1, 20, .inl (fun _ => 0))), (q8, .inl (cs.1, 20, .inl (fun _ => 0)))]) 0 9 (.ref q8) tyX0 hI dX0_init_65 iX0_init_X0 tyX0_ok nmX0 rfl jX0_init_33 (by decide) rfl rfl rfl rfl rfl rfl (Nat.le_of_ble_eq_true rfl) rfl ?_
  refine g_aload_n 0 dX0_init_68 rfl rfl ?_
  refine g_bipush (v := 20) dX0_init_69 (by decide) ?_
  refine g_newI (N := 20) hty dX0_init_71 acX0_init_I (by decide) (by decide) (by decide) ⟨by decide, by decide⟩ (fun q9 => ?_)
  refine g_cast rfl rfl rfl (w2 := [(h0, .inr (0, [.int 0, .ref q1, .ref q2, .ref q3, .ref q4, .ref q5, .ref q6, .int 0, .ref q7, .ref q8, .null, .int 0, .long 0, .long 0, .int 0])), (q1, .inl (cs.1, 30, .inl (fun _ => 0))), (q2, .inl (cs.1, 30, .inl (fun _ => 0))), (q3, .inl (cs.1, 30, .inl (fun _ => 0))), (q4, .inl (cs.1, 30, .inl (fun _ => 0))), (q5, .inl (cs.1, 30, .inl (fun _ => 0))), (q6, .inl (cs.1, 30, .inl (fun _ => 0))), (q7, .inl (cs.1, 20, .inl (fun _ => 0))), (q8, .inl (cs.1, 20, .inl (fun _ => 0))), (q9, .inl (cs.1, 20, .inl (fun _ => 0)))]) rfl ?_
  refine g_putF (ci := 0) (T := TX0) (N := 15) (w2 := [(h0, .inr (0, [.int 0, .ref q1, .ref q2, .ref q3, .ref q4, .ref q5, .ref q6, .int 0, .ref q7, .ref q8, .ref q9, .int 0, .long 0, .long 0, .int 0])), (q1, .inl (cs.1, 30, .inl (fun _ => 0))), (q2, .inl (cs.1, 30, .inl (fun _ => 0))), (q3, .inl (cs.1, 30, .inl (fun _ => 0))), (q4, .inl (cs.1, 30, .inl (fun _ => 0))), (q5, .inl (cs.1, 30, .inl (fun _ => 0))), (q6, .inl (cs.1, 30, .inl (fun _ => 0))), (q7, .inl (cs.1, 20, .inl (fun _ => 0))), (q8, .inl (cs.1, 20, .inl (fun _ => 0))), (q9, .inl (cs.1, 20, .inl (fun _ => 0)))]) 0 10 (.ref q9) tyX0 hI dX0_init_73 iX0_init_X0 tyX0_ok nmX0 rfl jX0_init_36 (by decide) rfl rfl rfl rfl rfl rfl (Nat.le_of_ble_eq_true rfl) rfl ?_
  exact hr _ _ (fun k => ([h0, q1, q2, q3, q4, q5, q6, q7, q8, q9] : List Nat).getD k 0) rfl dX0_init_76
def rmX1_init : Room := { frames := 1, cells := 1, slots := 19, locals := 12 }
def kX1_init : MK := (cX1_init, 1, RX1, wsX1_init, none, rmX1_init)
set_option maxRecDepth 20000 in
theorem oiX1_init : (Cond.methodLink RX1 3 objectInit ∈ wsX1_init ∧ Cond.instanceMethod objectInit ∈ wsX1_init) ∧ Cond.code objectInit ⟨#[0xb1]⟩ 1 none ∈ wsX1_init := ⟨⟨by decide +kernel, by decide +kernel⟩, by decide +kernel⟩
set_option maxRecDepth 20000 in
theorem acX1_init_J : Cond.arrayClass .long ∈ wsX1_init := by decide +kernel
set_option maxRecDepth 20000 in
theorem jX1_init_9 : Cond.fieldLink RX1 9 (TX1 0).1 (TX1 0).2.1 (TX1 0).2.2.1 ∈ wsX1_init := by decide +kernel
set_option maxRecDepth 20000 in
theorem iX1_init_X1 : ∀ x ∈ u_ws RX1 TX1 1, x ∈ wsX1_init := by decide +kernel
set_option maxHeartbeats 4000000 in
set_option maxRecDepth 100000 in
theorem c_X1_init {l : Launch} {D : va_G} {tys : List (ClassId × FieldType)} {X : XT} {cs : CS} {h0 : Nat} (htyM : tys = tyA cs) : Cn l D tys X yX1_init wsX1_init rmX1_init 1 19 [.ref h0] [(h0, .inr (1, [.null]))] (fun ad => ad 0 = h0) (fun ad => wH cs ad H0) := by
  refine Cn_ofG (by decide +kernel) rfl rfl (Nat.le_of_ble_eq_true rfl) (fun E _ _ hty0 hX0 hI hr => ?_)
  have hty := hty0.trans htyM
  have hr : Rn E kX1_init 1 19 (fun ad => ad 0 = h0) (fun ad => wH cs ad H0) := hr
  show G E kX1_init 0 0 0 [(0, .ref h0)] [] [(h0, .inr (1, [.null]))]
  refine g_aload_n 0 dX1_init_0 rfl rfl ?_
  refine g_objInit dX1_init_1 oiX1_init.1.1 oiX1_init.1.2 oiX1_init.2 ⟨by decide, Nat.le_of_ble_eq_true rfl⟩ ?_
  refine g_aload_n 0 dX1_init_4 rfl rfl ?_
  refine g_bipush (v := 19) dX1_init_5 (by decide) ?_
  refine g_newJ (N := 19) hty dX1_init_7 acX1_init_J (by decide) (by decide) (by decide) ⟨by decide, by decide⟩ (fun q1 => ?_)
  refine g_cast rfl rfl rfl (w2 := [(h0, .inr (1, [.null])), (q1, .inl (cs.2.1, 19, .inr (.inl (fun _ => 0))))]) rfl ?_
  refine g_putF (ci := 1) (T := TX1) (N := 1) (w2 := [(h0, .inr (1, [.ref q1])), (q1, .inl (cs.2.1, 19, .inr (.inl (fun _ => 0))))]) 0 0 (.ref q1) tyX1 hI dX1_init_9 iX1_init_X1 tyX1_ok nmX1 rfl jX1_init_9 (by decide) rfl rfl rfl rfl rfl rfl (Nat.le_of_ble_eq_true rfl) rfl ?_
  exact hr _ _ (fun k => ([h0, q1] : List Nat).getD k 0) rfl dX1_init_12
def rmX2_init : Room := { frames := 1, cells := 7, slots := 42, locals := 20 }
def kX2_init : MK := (cX2_init, 1, RX2, wsX2_init, none, rmX2_init)
set_option maxRecDepth 20000 in
theorem oiX2_init : (Cond.methodLink RX2 3 objectInit ∈ wsX2_init ∧ Cond.instanceMethod objectInit ∈ wsX2_init) ∧ Cond.code objectInit ⟨#[0xb1]⟩ 1 none ∈ wsX2_init := ⟨⟨by decide +kernel, by decide +kernel⟩, by decide +kernel⟩
set_option maxRecDepth 20000 in
theorem acX2_init_I : Cond.arrayClass .int ∈ wsX2_init := by decide +kernel
set_option maxRecDepth 20000 in
theorem jX2_init_9 : Cond.fieldLink RX2 9 (TX2 4).1 (TX2 4).2.1 (TX2 4).2.2.1 ∈ wsX2_init := by decide +kernel
set_option maxRecDepth 20000 in
theorem iX2_init_X2 : ∀ x ∈ u_ws RX2 TX2 12, x ∈ wsX2_init := by decide +kernel
set_option maxRecDepth 20000 in
theorem jX2_init_15 : Cond.fieldLink RX2 15 (TX2 5).1 (TX2 5).2.1 (TX2 5).2.2.1 ∈ wsX2_init := by decide +kernel
set_option maxRecDepth 20000 in
theorem jX2_init_18 : Cond.fieldLink RX2 18 (TX2 6).1 (TX2 6).2.1 (TX2 6).2.2.1 ∈ wsX2_init := by decide +kernel
set_option maxRecDepth 20000 in
theorem jX2_init_21 : Cond.fieldLink RX2 21 (TX2 8).1 (TX2 8).2.1 (TX2 8).2.2.1 ∈ wsX2_init := by decide +kernel
set_option maxRecDepth 20000 in
theorem jX2_init_24 : Cond.fieldLink RX2 24 (TX2 9).1 (TX2 9).2.1 (TX2 9).2.2.1 ∈ wsX2_init := by decide +kernel
set_option maxRecDepth 20000 in
theorem jX2_init_27 : Cond.fieldLink RX2 27 (TX2 10).1 (TX2 10).2.1 (TX2 10).2.2.1 ∈ wsX2_init := by decide +kernel
set_option maxRecDepth 20000 in
theorem jX2_init_30 : Cond.fieldLink RX2 30 (TX2 11).1 (TX2 11).2.1 (TX2 11).2.2.1 ∈ wsX2_init := by decide +kernel
set_option maxRecDepth 20000 in
theorem vX2_init_33 : KV kX2_init 33 RX2 yX2_empty wsX2_empty rmX2_empty 0 := ⟨_, _, _, _, gX2_init_X2_empty, rfl, rfl, rfl, by decide +kernel, ⟨by decide, by decide⟩⟩
set_option maxHeartbeats 4000000 in
set_option maxRecDepth 100000 in
theorem c_X2_init {l : Launch} {D : va_G} {tys : List (ClassId × FieldType)} {X : XT} {cs : CS} {h0 : Nat} (htyM : tys = tyA cs) : Cn l D tys X yX2_init wsX2_init rmX2_init 7 42 [.ref h0] [(h0, .inr (2, [.int 0, .int 0, .int 0, .int 0, .null, .null, .null, .int 0, .null, .null, .null, .null]))] (fun ad => ad 0 = h0) (fun ad => wM cs ad M0) := by
  refine Cn_ofG (by decide +kernel) rfl rfl (Nat.le_of_ble_eq_true rfl) (fun E _ _ hty0 hX0 hI hr => ?_)
  have hty := hty0.trans htyM
  have hr : Rn E kX2_init 7 42 (fun ad => ad 0 = h0) (fun ad => wM cs ad M0) := hr
  show G E kX2_init 0 0 0 [(0, .ref h0)] [] [(h0, .inr (2, [.int 0, .int 0, .int 0, .int 0, .null, .null, .null, .int 0, .null, .null, .null, .null]))]
  refine g_aload_n 0 dX2_init_0 rfl rfl ?_
  refine g_objInit dX2_init_1 oiX2_init.1.1 oiX2_init.1.2 oiX2_init.2 ⟨by decide, Nat.le_of_ble_eq_true rfl⟩ ?_
  refine g_aload_n 0 dX2_init_4 rfl rfl ?_
  refine g_bipush (v := 6) dX2_init_5 (by decide) ?_
  refine g_newI (N := 6) hty dX2_init_7 acX2_init_I (by decide) (by decide) (by decide) ⟨by decide, by decide⟩ (fun q1 => ?_)
  refine g_cast rfl rfl rfl (w2 := [(h0, .inr (2, [.int 0, .int 0, .int 0, .int 0, .null, .null, .null, .int 0, .null, .null, .null, .null])), (q1, .inl (cs.1, 6, .inl (fun _ => 0)))]) rfl ?_
  refine g_putF (ci := 2) (T := TX2) (N := 12) (w2 := [(h0, .inr (2, [.int 0, .int 0, .int 0, .int 0, .ref q1, .null, .null, .int 0, .null, .null, .null, .null])), (q1, .inl (cs.1, 6, .inl (fun _ => 0)))]) 0 4 (.ref q1) tyX2 hI dX2_init_9 iX2_init_X2 tyX2_ok nmX2 rfl jX2_init_9 (by decide) rfl rfl rfl rfl rfl rfl (Nat.le_of_ble_eq_true rfl) rfl ?_
  refine g_aload_n 0 dX2_init_12 rfl rfl ?_
  refine g_bipush (v := 6) dX2_init_13 (by decide) ?_
  refine g_newI (N := 6) hty dX2_init_15 acX2_init_I (by decide) (by decide) (by decide) ⟨by decide, by decide⟩ (fun q2 => ?_)
  refine g_cast rfl rfl rfl (w2 := [(h0, .inr (2, [.int 0, .int 0, .int 0, .int 0, .ref q1, .null, .null, .int 0, .null, .null, .null, .null])), (q1, .inl (cs.1, 6, .inl (fun _ => 0))), (q2, .inl (cs.1, 6, .inl (fun _ => 0)))]) rfl ?_
  refine g_putF (ci := 2) (T := TX2) (N := 12) (w2 := [(h0, .inr (2, [.int 0, .int 0, .int 0, .int 0, .ref q1, .ref q2, .null, .int 0, .null, .null, .null, .null])), (q1, .inl (cs.1, 6, .inl (fun _ => 0))), (q2, .inl (cs.1, 6, .inl (fun _ => 0)))]) 0 5 (.ref q2) tyX2 hI dX2_init_17 iX2_init_X2 tyX2_ok nmX2 rfl jX2_init_15 (by decide) rfl rfl rfl rfl rfl rfl (Nat.le_of_ble_eq_true rfl) rfl ?_
  refine g_aload_n 0 dX2_init_20 rfl rfl ?_
  refine g_bipush (v := 6) dX2_init_21 (by decide) ?_
  refine g_newI (N := 6) hty dX2_init_23 acX2_init_I (by decide) (by decide) (by decide) ⟨by decide, by decide⟩ (fun q3 => ?_)
  refine g_cast rfl rfl rfl (w2 := [(h0, .inr (2, [.int 0, .int 0, .int 0, .int 0, .ref q1, .ref q2, .null, .int 0, .null, .null, .null, .null])), (q1, .inl (cs.1, 6, .inl (fun _ => 0))), (q2, .inl (cs.1, 6, .inl (fun _ => 0))), (q3, .inl (cs.1, 6, .inl (fun _ => 0)))]) rfl ?_
  refine g_putF (ci := 2) (T := TX2) (N := 12) (w2 := [(h0, .inr (2, [.int 0, .int 0, .int 0, .int 0, .ref q1, .ref q2, .ref q3, .int 0, .null, .null, .null, .null])), (q1, .inl (cs.1, 6, .inl (fun _ => 0))), (q2, .inl (cs.1, 6, .inl (fun _ => 0))), (q3, .inl (cs.1, 6, .inl (fun _ => 0)))]) 0 6 (.ref q3) tyX2 hI dX2_init_25 iX2_init_X2 tyX2_ok nmX2 rfl jX2_init_18 (by decide) rfl rfl rfl rfl rfl rfl (Nat.le_of_ble_eq_true rfl) rfl ?_
  refine g_aload_n 0 dX2_init_28 rfl rfl ?_
  refine g_bipush (v := 6) dX2_init_29 (by decide) ?_
  refine g_newI (N := 6) hty dX2_init_31 acX2_init_I (by decide) (by decide) (by decide) ⟨by decide, by decide⟩ (fun q4 => ?_)
  refine g_cast rfl rfl rfl (w2 := [(h0, .inr (2, [.int 0, .int 0, .int 0, .int 0, .ref q1, .ref q2, .ref q3, .int 0, .null, .null, .null, .null])), (q1, .inl (cs.1, 6, .inl (fun _ => 0))), (q2, .inl (cs.1, 6, .inl (fun _ => 0))), (q3, .inl (cs.1, 6, .inl (fun _ => 0))), (q4, .inl (cs.1, 6, .inl (fun _ => 0)))]) rfl ?_
  refine g_putF (ci := 2) (T := TX2) (N := 12) (w2 := [(h0, .inr (2, [.int 0, .int 0, .int 0, .int 0, .ref q1, .ref q2, .ref q3, .int 0, .ref q4, .null, .null, .null])), (q1, .inl (cs.1, 6, .inl (fun _ => 0))), (q2, .inl (cs.1, 6, .inl (fun _ => 0))), (q3, .inl (cs.1, 6, .inl (fun _ => 0))), (q4, .inl (cs.1, 6, .inl (fun _ => 0)))]) 0 8 (.ref q4) tyX2 hI dX2_init_33 iX2_init_X2 tyX2_ok nmX2 rfl jX2_init_21 (by decide) rfl rfl rfl rfl rfl rfl (Nat.le_of_ble_eq_true rfl) rfl ?_
  refine g_aload_n 0 dX2_init_36 rfl rfl ?_
  refine g_bipush (v := 6) dX2_init_37 (by decide) ?_
  refine g_newI (N := 6) hty dX2_init_39 acX2_init_I (by decide) (by decide) (by decide) ⟨by decide, by decide⟩ (fun q5 => ?_)
  refine g_cast rfl rfl rfl (w2 := [(h0, .inr (2, [.int 0, .int 0, .int 0, .int 0, .ref q1, .ref q2, .ref q3, .int 0, .ref q4, .null, .null, .null])), (q1, .inl (cs.1, 6, .inl (fun _ => 0))), (q2, .inl (cs.1, 6, .inl (fun _ => 0))), (q3, .inl (cs.1, 6, .inl (fun _ => 0))), (q4, .inl (cs.1, 6, .inl (fun _ => 0))), (q5, .inl (cs.1, 6, .inl (fun _ => 0)))]) rfl ?_
  refine g_putF (ci := 2) (T := TX2) (N := 12) (w2 := [(h0, .inr (2, [.int 0, .int 0, .int 0, .int 0, .ref q1, .ref q2, .ref q3, .int 0, .ref q4, .ref q5, .null, .null])), (q1, .inl (cs.1, 6, .inl (fun _ => 0))), (q2, .inl (cs.1, 6, .inl (fun _ => 0))), (q3, .inl (cs.1, 6, .inl (fun _ => 0))), (q4, .inl (cs.1, 6, .inl (fun _ => 0))), (q5, .inl (cs.1, 6, .inl (fun _ => 0)))]) 0 9 (.ref q5) tyX2 hI dX2_init_41 iX2_init_X2 tyX2_ok nmX2 rfl jX2_init_24 (by decide) rfl rfl rfl rfl rfl rfl (Nat.le_of_ble_eq_true rfl) rfl ?_
  refine g_aload_n 0 dX2_init_44 rfl rfl ?_
  refine g_bipush (v := 6) dX2_init_45 (by decide) ?_
  refine g_newI (N := 6) hty dX2_init_47 acX2_init_I (by decide) (by decide) (by decide) ⟨by decide, by decide⟩ (fun q6 => ?_)
  refine g_cast rfl rfl rfl (w2 := [(h0, .inr (2, [.int 0, .int 0, .int 0, .int 0, .ref q1, .ref q2, .ref q3, .int 0, .ref q4, .ref q5, .null, .null])), (q1, .inl (cs.1, 6, .inl (fun _ => 0))), (q2, .inl (cs.1, 6, .inl (fun _ => 0))), (q3, .inl (cs.1, 6, .inl (fun _ => 0))), (q4, .inl (cs.1, 6, .inl (fun _ => 0))), (q5, .inl (cs.1, 6, .inl (fun _ => 0))), (q6, .inl (cs.1, 6, .inl (fun _ => 0)))]) rfl ?_
  refine g_putF (ci := 2) (T := TX2) (N := 12) (w2 := [(h0, .inr (2, [.int 0, .int 0, .int 0, .int 0, .ref q1, .ref q2, .ref q3, .int 0, .ref q4, .ref q5, .ref q6, .null])), (q1, .inl (cs.1, 6, .inl (fun _ => 0))), (q2, .inl (cs.1, 6, .inl (fun _ => 0))), (q3, .inl (cs.1, 6, .inl (fun _ => 0))), (q4, .inl (cs.1, 6, .inl (fun _ => 0))), (q5, .inl (cs.1, 6, .inl (fun _ => 0))), (q6, .inl (cs.1, 6, .inl (fun _ => 0)))]) 0 10 (.ref q6) tyX2 hI dX2_init_49 iX2_init_X2 tyX2_ok nmX2 rfl jX2_init_27 (by decide) rfl rfl rfl rfl rfl rfl (Nat.le_of_ble_eq_true rfl) rfl ?_
  refine g_aload_n 0 dX2_init_52 rfl rfl ?_
  refine g_bipush (v := 6) dX2_init_53 (by decide) ?_
  refine g_newI (N := 6) hty dX2_init_55 acX2_init_I (by decide) (by decide) (by decide) ⟨by decide, by decide⟩ (fun q7 => ?_)
  refine g_cast rfl rfl rfl (w2 := [(h0, .inr (2, [.int 0, .int 0, .int 0, .int 0, .ref q1, .ref q2, .ref q3, .int 0, .ref q4, .ref q5, .ref q6, .null])), (q1, .inl (cs.1, 6, .inl (fun _ => 0))), (q2, .inl (cs.1, 6, .inl (fun _ => 0))), (q3, .inl (cs.1, 6, .inl (fun _ => 0))), (q4, .inl (cs.1, 6, .inl (fun _ => 0))), (q5, .inl (cs.1, 6, .inl (fun _ => 0))), (q6, .inl (cs.1, 6, .inl (fun _ => 0))), (q7, .inl (cs.1, 6, .inl (fun _ => 0)))]) rfl ?_
  refine g_putF (ci := 2) (T := TX2) (N := 12) (w2 := [(h0, .inr (2, [.int 0, .int 0, .int 0, .int 0, .ref q1, .ref q2, .ref q3, .int 0, .ref q4, .ref q5, .ref q6, .ref q7])), (q1, .inl (cs.1, 6, .inl (fun _ => 0))), (q2, .inl (cs.1, 6, .inl (fun _ => 0))), (q3, .inl (cs.1, 6, .inl (fun _ => 0))), (q4, .inl (cs.1, 6, .inl (fun _ => 0))), (q5, .inl (cs.1, 6, .inl (fun _ => 0))), (q6, .inl (cs.1, 6, .inl (fun _ => 0))), (q7, .inl (cs.1, 6, .inl (fun _ => 0)))]) 0 11 (.ref q7) tyX2 hI dX2_init_57 iX2_init_X2 tyX2_ok nmX2 rfl jX2_init_30 (by decide) rfl rfl rfl rfl rfl rfl (Nat.le_of_ble_eq_true rfl) rfl ?_
  refine g_aload_n 0 dX2_init_60 rfl rfl ?_
  refine g_cast rfl rfl rfl (w2 := wM cs (fun k => ([h0, q1, q2, q3, q4, q5, q6, q7] : List Nat).getD k 0) M00) rfl ?_
  refine g_callVv (ci := 2) (As := []) (rest := []) (w2 := wM cs (fun k => ([h0, q1, q2, q3, q4, q5, q6, q7] : List Nat).getD k 0) M0) 0 dX2_init_61 vX2_init_33 (c_X2_empty (fun k => ([h0, q1, q2, q3, q4, q5, q6, q7] : List Nat).getD k 0) hty (M0_eq 0)) rfl (mid0 _) rfl rfl 0 wlaM_0 rfl (Nat.le_of_ble_eq_true rfl) ⟨by decide, by decide⟩ (mid2 _ _) ?_
  exact hr _ _ (fun k => ([h0, q1, q2, q3, q4, q5, q6, q7] : List Nat).getD k 0) rfl dX2_init_64
def rmX4_init : Room := { frames := 4, cells := 3, slots := 170, locals := 105 }
def kX4_init : MK := (cX4_init, 2, RX4, wsX4_init, none, rmX4_init)
set_option maxRecDepth 20000 in
theorem oiX4_init : (Cond.methodLink RX4 3 objectInit ∈ wsX4_init ∧ Cond.instanceMethod objectInit ∈ wsX4_init) ∧ Cond.code objectInit ⟨#[0xb1]⟩ 1 none ∈ wsX4_init := ⟨⟨by decide +kernel, by decide +kernel⟩, by decide +kernel⟩
set_option maxRecDepth 20000 in
theorem acX4_init_I : Cond.arrayClass .int ∈ wsX4_init := by decide +kernel
set_option maxRecDepth 20000 in
theorem jX4_init_11 : Cond.fieldLink RX4 11 (TX4 0).1 (TX4 0).2.1 (TX4 0).2.2.1 ∈ wsX4_init := by decide +kernel
set_option maxRecDepth 20000 in
theorem iX4_init_X4 : ∀ x ∈ u_ws RX4 TX4 3, x ∈ wsX4_init := by decide +kernel
set_option maxRecDepth 20000 in
theorem jX4_init_15 : Cond.fieldLink RX4 15 RX4 "FIRST" "[I" ∈ wsX4_init := by decide +kernel
set_option maxRecDepth 20000 in
theorem acX4_init_J : Cond.arrayClass .long ∈ wsX4_init := by decide +kernel
set_option maxRecDepth 20000 in
theorem jX4_init_18 : Cond.fieldLink RX4 18 (TX4 1).1 (TX4 1).2.1 (TX4 1).2.2.1 ∈ wsX4_init := by decide +kernel
set_option maxRecDepth 20000 in
theorem jX4_init_22 : Cond.fieldLink RX4 22 (TX4 2).1 (TX4 2).2.1 (TX4 2).2.2.1 ∈ wsX4_init := by decide +kernel
set_option maxRecDepth 20000 in
theorem vX4_init_25 : KV kX4_init 25 RX4 yX4_workBack wsX4_workBack rmX4_workBack 0 := ⟨_, _, _, _, gX4_init_X4_workBack, rfl, rfl, rfl, by decide +kernel, ⟨by decide, by decide⟩⟩
set_option maxHeartbeats 4000000 in
set_option maxRecDepth 100000 in
theorem c_X4_init {l : Launch} {D : va_G} {tys : List (ClassId × FieldType)} {X : XT} {cs : CS} {h0 : Nat} {P : XP} {F : Nat} {v : SV} (htyM : tys = tyA cs) (hNX : X = XS P) (hv : f_X4_workBack F V01 = some v) : Cn l D tys X yX4_init wsX4_init rmX4_init 3 170 [.ref h0] [(h0, .inr (4, [.null, .null, .null]))] (fun ad => ad 0 = h0) (fun ad => wV cs ad v) := by
  refine Cn_ofG (by decide +kernel) rfl rfl (Nat.le_of_ble_eq_true rfl) (fun E _ _ hty0 hX0 hI hr => ?_)
  have hty := hty0.trans htyM
  have hN := hX0.trans hNX
  have hr : Rn E kX4_init 3 170 (fun ad => ad 0 = h0) (fun ad => wV cs ad v) := hr
  show G E kX4_init 0 0 0 [(0, .ref h0)] [] [(h0, .inr (4, [.null, .null, .null]))]
  refine g_aload_n 0 dX4_init_0 rfl rfl ?_
  refine g_objInit dX4_init_1 oiX4_init.1.1 oiX4_init.1.2 oiX4_init.2 ⟨by decide, Nat.le_of_ble_eq_true rfl⟩ ?_
  refine g_aload_n 0 dX4_init_4 rfl rfl ?_
  refine g_bipush (v := 8) dX4_init_5 (by decide) ?_
  refine g_newI (N := 8) hty dX4_init_7 acX4_init_I (by decide) (by decide) (by decide) ⟨by decide, by decide⟩ (fun q1 => ?_)
  refine g_cast rfl rfl rfl (w2 := [(h0, .inr (4, [.null, .null, .null])), (q1, .inl (cs.1, 8, .inl (fun _ => 0)))]) rfl ?_
  refine g_putF (ci := 4) (T := TX4) (N := 3) (w2 := [(h0, .inr (4, [.ref q1, .null, .null])), (q1, .inl (cs.1, 8, .inl (fun _ => 0)))]) 0 0 (.ref q1) tyX4 hI dX4_init_9 iX4_init_X4 tyX4_ok nmX4 rfl jX4_init_11 (by decide) rfl rfl rfl rfl rfl rfl (Nat.le_of_ble_eq_true rfl) rfl ?_
  refine g_iconst (v := 0) dX4_init_12 (by decide) ?_
  refine g_istore_n (lv2 := [(1, .int 0), (0, .ref h0)]) dX4_init_13 rfl (by decide) rfl ?_
  refine g_iload_n 0 dX4_init_14 rfl rfl ?_
  refine g_bipush (v := 8) dX4_init_15 (by decide) ?_
  refine g_icmp_ge (tgt := 37) dX4_init_17 (by decide) (fun h => absurd h (by decide)) (fun _ => ?_)
  refine g_aload_n 1 dX4_init_20 rfl rfl ?_
  refine g_get (ci := 4) (T := TX4) (N := 3) 0 0 (.ref q1) dX4_init_21 iX4_init_X4 rfl jX4_init_11 (by decide) rfl rfl ?_
  refine g_iload_n 0 dX4_init_24 rfl rfl ?_
  refine g_gets (v := .ref P.1.2.2) hN (fun _ _ _ h => h.2.2.2.1.1) dX4_init_25 jX4_init_15 ?_
  refine g_iload_n 0 dX4_init_28 rfl rfl ?_
  refine g_ti hN (fun _ _ _ h => h.2.2.2.1.2) dX4_init_29 (vp_in_iff.mpr (by decide)) ?_
  refine g_iast (w2 := [(h0, .inr (4, [.ref q1, .null, .null])), (q1, .inl (cs.1, 8, .inl (upd (fun _ => 0) (Int32.toNatClampNeg 0) (aFIRST (Int32.toNatClampNeg 0)))))]) 1 0 dX4_init_30 rfl (tI hty) (vp_in_iff.mpr (by decide)) rfl ?_
  refine g_iinc (v := 1) (lv2 := [(1, .int 1), (0, .ref h0)]) 0 dX4_init_31 rfl (by decide) (by decide) rfl ?_
  refine g_goto (tgt := 14) dX4_init_34 (by decide) ?_
  refine g_iload_n 0 dX4_init_14 rfl rfl ?_
  refine g_bipush (v := 8) dX4_init_15 (by decide) ?_
  refine g_icmp_ge (tgt := 37) dX4_init_17 (by decide) (fun h => absurd h (by decide)) (fun _ => ?_)
  refine g_aload_n 1 dX4_init_20 rfl rfl ?_
  refine g_get (ci := 4) (T := TX4) (N := 3) 0 0 (.ref q1) dX4_init_21 iX4_init_X4 rfl jX4_init_11 (by decide) rfl rfl ?_
  refine g_iload_n 0 dX4_init_24 rfl rfl ?_
  refine g_gets (v := .ref P.1.2.2) hN (fun _ _ _ h => h.2.2.2.1.1) dX4_init_25 jX4_init_15 ?_
  refine g_iload_n 0 dX4_init_28 rfl rfl ?_
  refine g_ti hN (fun _ _ _ h => h.2.2.2.1.2) dX4_init_29 (vp_in_iff.mpr (by decide)) ?_
  refine g_iast (w2 := [(h0, .inr (4, [.ref q1, .null, .null])), (q1, .inl (cs.1, 8, .inl (upd (upd (fun _ => 0) (Int32.toNatClampNeg 0) (aFIRST (Int32.toNatClampNeg 0))) (Int32.toNatClampNeg 1) (aFIRST (Int32.toNatClampNeg 1)))))]) 1 0 dX4_init_30 rfl (tI hty) (vp_in_iff.mpr (by decide)) rfl ?_
  refine g_iinc (v := 2) (lv2 := [(1, .int 2), (0, .ref h0)]) 0 dX4_init_31 rfl (by decide) (by decide) rfl ?_
  refine g_goto (tgt := 14) dX4_init_34 (by decide) ?_
  refine g_iload_n 0 dX4_init_14 rfl rfl ?_
  refine g_bipush (v := 8) dX4_init_15 (by decide) ?_
  refine g_icmp_ge (tgt := 37) dX4_init_17 (by decide) (fun h => absurd h (by decide)) (fun _ => ?_)
  refine g_aload_n 1 dX4_init_20 rfl rfl ?_
  refine g_get (ci := 4) (T := TX4) (N := 3) 0 0 (.ref q1) dX4_init_21 iX4_init_X4 rfl jX4_init_11 (by decide) rfl rfl ?_
  refine g_iload_n 0 dX4_init_24 rfl rfl ?_
  refine g_gets (v := .ref P.1.2.2) hN (fun _ _ _ h => h.2.2.2.1.1) dX4_init_25 jX4_init_15 ?_
  refine g_iload_n 0 dX4_init_28 rfl rfl ?_
  refine g_ti hN (fun _ _ _ h => h.2.2.2.1.2) dX4_init_29 (vp_in_iff.mpr (by decide)) ?_
  refine g_iast (w2 := [(h0, .inr (4, [.ref q1, .null, .null])), (q1, .inl (cs.1, 8, .inl (upd (upd (upd (fun _ => 0) (Int32.toNatClampNeg 0) (aFIRST (Int32.toNatClampNeg 0))) (Int32.toNatClampNeg 1) (aFIRST (Int32.toNatClampNeg 1))) (Int32.toNatClampNeg 2) (aFIRST (Int32.toNatClampNeg 2)))))]) 1 0 dX4_init_30 rfl (tI hty) (vp_in_iff.mpr (by decide)) rfl ?_
  refine g_iinc (v := 3) (lv2 := [(1, .int 3), (0, .ref h0)]) 0 dX4_init_31 rfl (by decide) (by decide) rfl ?_
  refine g_goto (tgt := 14) dX4_init_34 (by decide) ?_
  refine g_iload_n 0 dX4_init_14 rfl rfl ?_
  refine g_bipush (v := 8) dX4_init_15 (by decide) ?_
  refine g_icmp_ge (tgt := 37) dX4_init_17 (by decide) (fun h => absurd h (by decide)) (fun _ => ?_)
  refine g_aload_n 1 dX4_init_20 rfl rfl ?_
  refine g_get (ci := 4) (T := TX4) (N := 3) 0 0 (.ref q1) dX4_init_21 iX4_init_X4 rfl jX4_init_11 (by decide) rfl rfl ?_
  refine g_iload_n 0 dX4_init_24 rfl rfl ?_
  refine g_gets (v := .ref P.1.2.2) hN (fun _ _ _ h => h.2.2.2.1.1) dX4_init_25 jX4_init_15 ?_
  refine g_iload_n 0 dX4_init_28 rfl rfl ?_
  refine g_ti hN (fun _ _ _ h => h.2.2.2.1.2) dX4_init_29 (vp_in_iff.mpr (by decide)) ?_
  refine g_iast (w2 := [(h0, .inr (4, [.ref q1, .null, .null])), (q1, .inl (cs.1, 8, .inl (upd (upd (upd (upd (fun _ => 0) (Int32.toNatClampNeg 0) (aFIRST (Int32.toNatClampNeg 0))) (Int32.toNatClampNeg 1) (aFIRST (Int32.toNatClampNeg 1))) (Int32.toNatClampNeg 2) (aFIRST (Int32.toNatClampNeg 2))) (Int32.toNatClampNeg 3) (aFIRST (Int32.toNatClampNeg 3)))))]) 1 0 dX4_init_30 rfl (tI hty) (vp_in_iff.mpr (by decide)) rfl ?_
  refine g_iinc (v := 4) (lv2 := [(1, .int 4), (0, .ref h0)]) 0 dX4_init_31 rfl (by decide) (by decide) rfl ?_
  refine g_goto (tgt := 14) dX4_init_34 (by decide) ?_
  refine g_iload_n 0 dX4_init_14 rfl rfl ?_
  refine g_bipush (v := 8) dX4_init_15 (by decide) ?_
  refine g_icmp_ge (tgt := 37) dX4_init_17 (by decide) (fun h => absurd h (by decide)) (fun _ => ?_)
  refine g_aload_n 1 dX4_init_20 rfl rfl ?_
  refine g_get (ci := 4) (T := TX4) (N := 3) 0 0 (.ref q1) dX4_init_21 iX4_init_X4 rfl jX4_init_11 (by decide) rfl rfl ?_
  refine g_iload_n 0 dX4_init_24 rfl rfl ?_
  refine g_gets (v := .ref P.1.2.2) hN (fun _ _ _ h => h.2.2.2.1.1) dX4_init_25 jX4_init_15 ?_
  refine g_iload_n 0 dX4_init_28 rfl rfl ?_
  refine g_ti hN (fun _ _ _ h => h.2.2.2.1.2) dX4_init_29 (vp_in_iff.mpr (by decide)) ?_
  refine g_iast (w2 := [(h0, .inr (4, [.ref q1, .null, .null])), (q1, .inl (cs.1, 8, .inl (upd (upd (upd (upd (upd (fun _ => 0) (Int32.toNatClampNeg 0) (aFIRST (Int32.toNatClampNeg 0))) (Int32.toNatClampNeg 1) (aFIRST (Int32.toNatClampNeg 1))) (Int32.toNatClampNeg 2) (aFIRST (Int32.toNatClampNeg 2))) (Int32.toNatClampNeg 3) (aFIRST (Int32.toNatClampNeg 3))) (Int32.toNatClampNeg 4) (aFIRST (Int32.toNatClampNeg 4)))))]) 1 0 dX4_init_30 rfl (tI hty) (vp_in_iff.mpr (by decide)) rfl ?_
  refine g_iinc (v := 5) (lv2 := [(1, .int 5), (0, .ref h0)]) 0 dX4_init_31 rfl (by decide) (by decide) rfl ?_
  refine g_goto (tgt := 14) dX4_init_34 (by decide) ?_
  refine g_iload_n 0 dX4_init_14 rfl rfl ?_
  refine g_bipush (v := 8) dX4_init_15 (by decide) ?_
  refine g_icmp_ge (tgt := 37) dX4_init_17 (by decide) (fun h => absurd h (by decide)) (fun _ => ?_)
  refine g_aload_n 1 dX4_init_20 rfl rfl ?_
  refine g_get (ci := 4) (T := TX4) (N := 3) 0 0 (.ref q1) dX4_init_21 iX4_init_X4 rfl jX4_init_11 (by decide) rfl rfl ?_
  refine g_iload_n 0 dX4_init_24 rfl rfl ?_
  refine g_gets (v := .ref P.1.2.2) hN (fun _ _ _ h => h.2.2.2.1.1) dX4_init_25 jX4_init_15 ?_
  refine g_iload_n 0 dX4_init_28 rfl rfl ?_
  refine g_ti hN (fun _ _ _ h => h.2.2.2.1.2) dX4_init_29 (vp_in_iff.mpr (by decide)) ?_
  refine g_iast (w2 := [(h0, .inr (4, [.ref q1, .null, .null])), (q1, .inl (cs.1, 8, .inl (upd (upd (upd (upd (upd (upd (fun _ => 0) (Int32.toNatClampNeg 0) (aFIRST (Int32.toNatClampNeg 0))) (Int32.toNatClampNeg 1) (aFIRST (Int32.toNatClampNeg 1))) (Int32.toNatClampNeg 2) (aFIRST (Int32.toNatClampNeg 2))) (Int32.toNatClampNeg 3) (aFIRST (Int32.toNatClampNeg 3))) (Int32.toNatClampNeg 4) (aFIRST (Int32.toNatClampNeg 4))) (Int32.toNatClampNeg 5) (aFIRST (Int32.toNatClampNeg 5)))))]) 1 0 dX4_init_30 rfl (tI hty) (vp_in_iff.mpr (by decide)) rfl ?_
  refine g_iinc (v := 6) (lv2 := [(1, .int 6), (0, .ref h0)]) 0 dX4_init_31 rfl (by decide) (by decide) rfl ?_
  refine g_goto (tgt := 14) dX4_init_34 (by decide) ?_
  refine g_iload_n 0 dX4_init_14 rfl rfl ?_
  refine g_bipush (v := 8) dX4_init_15 (by decide) ?_
  refine g_icmp_ge (tgt := 37) dX4_init_17 (by decide) (fun h => absurd h (by decide)) (fun _ => ?_)
  refine g_aload_n 1 dX4_init_20 rfl rfl ?_
  refine g_get (ci := 4) (T := TX4) (N := 3) 0 0 (.ref q1) dX4_init_21 iX4_init_X4 rfl jX4_init_11 (by decide) rfl rfl ?_
  refine g_iload_n 0 dX4_init_24 rfl rfl ?_
  refine g_gets (v := .ref P.1.2.2) hN (fun _ _ _ h => h.2.2.2.1.1) dX4_init_25 jX4_init_15 ?_
  refine g_iload_n 0 dX4_init_28 rfl rfl ?_
  refine g_ti hN (fun _ _ _ h => h.2.2.2.1.2) dX4_init_29 (vp_in_iff.mpr (by decide)) ?_
  refine g_iast (w2 := [(h0, .inr (4, [.ref q1, .null, .null])), (q1, .inl (cs.1, 8, .inl (upd (upd (upd (upd (upd (upd (upd (fun _ => 0) (Int32.toNatClampNeg 0) (aFIRST (Int32.toNatClampNeg 0))) (Int32.toNatClampNeg 1) (aFIRST (Int32.toNatClampNeg 1))) (Int32.toNatClampNeg 2) (aFIRST (Int32.toNatClampNeg 2))) (Int32.toNatClampNeg 3) (aFIRST (Int32.toNatClampNeg 3))) (Int32.toNatClampNeg 4) (aFIRST (Int32.toNatClampNeg 4))) (Int32.toNatClampNeg 5) (aFIRST (Int32.toNatClampNeg 5))) (Int32.toNatClampNeg 6) (aFIRST (Int32.toNatClampNeg 6)))))]) 1 0 dX4_init_30 rfl (tI hty) (vp_in_iff.mpr (by decide)) rfl ?_
  refine g_iinc (v := 7) (lv2 := [(1, .int 7), (0, .ref h0)]) 0 dX4_init_31 rfl (by decide) (by decide) rfl ?_
  refine g_goto (tgt := 14) dX4_init_34 (by decide) ?_
  refine g_iload_n 0 dX4_init_14 rfl rfl ?_
  refine g_bipush (v := 8) dX4_init_15 (by decide) ?_
  refine g_icmp_ge (tgt := 37) dX4_init_17 (by decide) (fun h => absurd h (by decide)) (fun _ => ?_)
  refine g_aload_n 1 dX4_init_20 rfl rfl ?_
  refine g_get (ci := 4) (T := TX4) (N := 3) 0 0 (.ref q1) dX4_init_21 iX4_init_X4 rfl jX4_init_11 (by decide) rfl rfl ?_
  refine g_iload_n 0 dX4_init_24 rfl rfl ?_
  refine g_gets (v := .ref P.1.2.2) hN (fun _ _ _ h => h.2.2.2.1.1) dX4_init_25 jX4_init_15 ?_
  refine g_iload_n 0 dX4_init_28 rfl rfl ?_
  refine g_ti hN (fun _ _ _ h => h.2.2.2.1.2) dX4_init_29 (vp_in_iff.mpr (by decide)) ?_
  refine g_iast (w2 := [(h0, .inr (4, [.ref q1, .null, .null])), (q1, .inl (cs.1, 8, .inl (upd (upd (upd (upd (upd (upd (upd (upd (fun _ => 0) (Int32.toNatClampNeg 0) (aFIRST (Int32.toNatClampNeg 0))) (Int32.toNatClampNeg 1) (aFIRST (Int32.toNatClampNeg 1))) (Int32.toNatClampNeg 2) (aFIRST (Int32.toNatClampNeg 2))) (Int32.toNatClampNeg 3) (aFIRST (Int32.toNatClampNeg 3))) (Int32.toNatClampNeg 4) (aFIRST (Int32.toNatClampNeg 4))) (Int32.toNatClampNeg 5) (aFIRST (Int32.toNatClampNeg 5))) (Int32.toNatClampNeg 6) (aFIRST (Int32.toNatClampNeg 6))) (Int32.toNatClampNeg 7) (aFIRST (Int32.toNatClampNeg 7)))))]) 1 0 dX4_init_30 rfl (tI hty) (vp_in_iff.mpr (by decide)) rfl ?_
  refine g_iinc (v := 8) (lv2 := [(1, .int 8), (0, .ref h0)]) 0 dX4_init_31 rfl (by decide) (by decide) rfl ?_
  refine g_goto (tgt := 14) dX4_init_34 (by decide) ?_
  refine g_iload_n 0 dX4_init_14 rfl rfl ?_
  refine g_bipush (v := 8) dX4_init_15 (by decide) ?_
  refine g_icmp_ge (tgt := 37) dX4_init_17 (by decide) (fun _ => ?_) (fun h => absurd (by decide) h)
  refine g_aload_n 1 dX4_init_37 rfl rfl ?_
  refine g_bipush (v := 81) dX4_init_38 (by decide) ?_
  refine g_newJ (N := 81) hty dX4_init_40 acX4_init_J (by decide) (by decide) (by decide) ⟨by decide, by decide⟩ (fun q2 => ?_)
  refine g_cast rfl rfl rfl (w2 := [(h0, .inr (4, [.ref q1, .null, .null])), (q1, .inl (cs.1, 8, .inl (upd (upd (upd (upd (upd (upd (upd (upd (fun _ => 0) (Int32.toNatClampNeg 0) (aFIRST (Int32.toNatClampNeg 0))) (Int32.toNatClampNeg 1) (aFIRST (Int32.toNatClampNeg 1))) (Int32.toNatClampNeg 2) (aFIRST (Int32.toNatClampNeg 2))) (Int32.toNatClampNeg 3) (aFIRST (Int32.toNatClampNeg 3))) (Int32.toNatClampNeg 4) (aFIRST (Int32.toNatClampNeg 4))) (Int32.toNatClampNeg 5) (aFIRST (Int32.toNatClampNeg 5))) (Int32.toNatClampNeg 6) (aFIRST (Int32.toNatClampNeg 6))) (Int32.toNatClampNeg 7) (aFIRST (Int32.toNatClampNeg 7))))), (q2, .inl (cs.2.1, 81, .inr (.inl (fun _ => 0))))]) rfl ?_
  refine g_putF (ci := 4) (T := TX4) (N := 3) (w2 := [(h0, .inr (4, [.ref q1, .ref q2, .null])), (q1, .inl (cs.1, 8, .inl (upd (upd (upd (upd (upd (upd (upd (upd (fun _ => 0) (Int32.toNatClampNeg 0) (aFIRST (Int32.toNatClampNeg 0))) (Int32.toNatClampNeg 1) (aFIRST (Int32.toNatClampNeg 1))) (Int32.toNatClampNeg 2) (aFIRST (Int32.toNatClampNeg 2))) (Int32.toNatClampNeg 3) (aFIRST (Int32.toNatClampNeg 3))) (Int32.toNatClampNeg 4) (aFIRST (Int32.toNatClampNeg 4))) (Int32.toNatClampNeg 5) (aFIRST (Int32.toNatClampNeg 5))) (Int32.toNatClampNeg 6) (aFIRST (Int32.toNatClampNeg 6))) (Int32.toNatClampNeg 7) (aFIRST (Int32.toNatClampNeg 7))))), (q2, .inl (cs.2.1, 81, .inr (.inl (fun _ => 0))))]) 0 1 (.ref q2) tyX4 hI dX4_init_42 iX4_init_X4 tyX4_ok nmX4 rfl jX4_init_18 (by decide) rfl rfl rfl rfl rfl rfl (Nat.le_of_ble_eq_true rfl) rfl ?_
  refine g_aload_n 1 dX4_init_45 rfl rfl ?_
  refine g_bipush (v := 81) dX4_init_46 (by decide) ?_
  refine g_newI (N := 81) hty dX4_init_48 acX4_init_I (by decide) (by decide) (by decide) ⟨by decide, by decide⟩ (fun q3 => ?_)
  refine g_cast rfl rfl rfl (w2 := [(h0, .inr (4, [.ref q1, .ref q2, .null])), (q1, .inl (cs.1, 8, .inl (upd (upd (upd (upd (upd (upd (upd (upd (fun _ => 0) (Int32.toNatClampNeg 0) (aFIRST (Int32.toNatClampNeg 0))) (Int32.toNatClampNeg 1) (aFIRST (Int32.toNatClampNeg 1))) (Int32.toNatClampNeg 2) (aFIRST (Int32.toNatClampNeg 2))) (Int32.toNatClampNeg 3) (aFIRST (Int32.toNatClampNeg 3))) (Int32.toNatClampNeg 4) (aFIRST (Int32.toNatClampNeg 4))) (Int32.toNatClampNeg 5) (aFIRST (Int32.toNatClampNeg 5))) (Int32.toNatClampNeg 6) (aFIRST (Int32.toNatClampNeg 6))) (Int32.toNatClampNeg 7) (aFIRST (Int32.toNatClampNeg 7))))), (q2, .inl (cs.2.1, 81, .inr (.inl (fun _ => 0)))), (q3, .inl (cs.1, 81, .inl (fun _ => 0)))]) rfl ?_
  refine g_putF (ci := 4) (T := TX4) (N := 3) (w2 := [(h0, .inr (4, [.ref q1, .ref q2, .ref q3])), (q1, .inl (cs.1, 8, .inl (upd (upd (upd (upd (upd (upd (upd (upd (fun _ => 0) (Int32.toNatClampNeg 0) (aFIRST (Int32.toNatClampNeg 0))) (Int32.toNatClampNeg 1) (aFIRST (Int32.toNatClampNeg 1))) (Int32.toNatClampNeg 2) (aFIRST (Int32.toNatClampNeg 2))) (Int32.toNatClampNeg 3) (aFIRST (Int32.toNatClampNeg 3))) (Int32.toNatClampNeg 4) (aFIRST (Int32.toNatClampNeg 4))) (Int32.toNatClampNeg 5) (aFIRST (Int32.toNatClampNeg 5))) (Int32.toNatClampNeg 6) (aFIRST (Int32.toNatClampNeg 6))) (Int32.toNatClampNeg 7) (aFIRST (Int32.toNatClampNeg 7))))), (q2, .inl (cs.2.1, 81, .inr (.inl (fun _ => 0)))), (q3, .inl (cs.1, 81, .inl (fun _ => 0)))]) 0 2 (.ref q3) tyX4 hI dX4_init_50 iX4_init_X4 tyX4_ok nmX4 rfl jX4_init_22 (by decide) rfl rfl rfl rfl rfl rfl (Nat.le_of_ble_eq_true rfl) rfl ?_
  refine g_aload_n 1 dX4_init_53 rfl rfl ?_
  refine g_cast rfl rfl rfl (w2 := wV cs (fun k => ([h0, q1, q2, q3] : List Nat).getD k 0) V01) rfl ?_
  refine g_callVv (ci := 4) (As := []) (rest := []) (w2 := wV cs (fun k => ([h0, q1, q2, q3] : List Nat).getD k 0) v) 0 dX4_init_54 vX4_init_25 (c_X4_workBack (fun k => ([h0, q1, q2, q3] : List Nat).getD k 0) hty hN hv) rfl (mid0 _) rfl rfl 0 wlaV_0 rfl (Nat.le_of_ble_eq_true rfl) ⟨by decide, by decide⟩ (mid2 _ _) ?_
  exact hr _ _ (fun k => ([h0, q1, q2, q3] : List Nat).getD k 0) rfl dX4_init_57
def rmX3_init : Room := { frames := 1, cells := 0, slots := 0, locals := 12 }
def kX3_init : MK := (cX3_init, 3, RX3, wsX3_init, none, rmX3_init)
set_option maxRecDepth 20000 in
theorem oiX3_init : (Cond.methodLink RX3 3 objectInit ∈ wsX3_init ∧ Cond.instanceMethod objectInit ∈ wsX3_init) ∧ Cond.code objectInit ⟨#[0xb1]⟩ 1 none ∈ wsX3_init := ⟨⟨by decide +kernel, by decide +kernel⟩, by decide +kernel⟩
set_option maxRecDepth 20000 in
theorem jX3_init_9 : Cond.fieldLink RX3 9 (TX3 0).1 (TX3 0).2.1 (TX3 0).2.2.1 ∈ wsX3_init := by decide +kernel
set_option maxRecDepth 20000 in
theorem iX3_init_X3 : ∀ x ∈ u_ws RX3 TX3 9, x ∈ wsX3_init := by decide +kernel
set_option maxRecDepth 20000 in
theorem jX3_init_15 : Cond.fieldLink RX3 15 (TX3 1).1 (TX3 1).2.1 (TX3 1).2.2.1 ∈ wsX3_init := by decide +kernel
set_option maxHeartbeats 4000000 in
set_option maxRecDepth 100000 in
theorem c_X3_init {l : Launch} {D : va_G} {tys : List (ClassId × FieldType)} {X : XT} {cs : CS} {h0 : Nat} {ra rb : Nat} (htyM : tys = tyA cs) : Cn l D tys X yX3_init wsX3_init rmX3_init 0 0 [.ref h0, .ref ra, .ref rb] [(h0, .inr (3, [.null, .null, .int 0, .int 0, .int 0, .int 0, .int 0, .int 0, .int 0]))] (fun _ => True) (fun _ => [(h0, .inr (3, [.ref ra, .ref rb, .int 0, .int 0, .int 0, .int 0, .int 0, .int 0, .int 0]))]) := by
  refine Cn_ofG (by decide +kernel) rfl rfl (Nat.le_of_ble_eq_true rfl) (fun E _ _ hty0 hX0 hI hr => ?_)
  have hty := hty0.trans htyM
  have hr : Rn E kX3_init 0 0 (fun _ => True) (fun _ => [(h0, .inr (3, [.ref ra, .ref rb, .int 0, .int 0, .int 0, .int 0, .int 0, .int 0, .int 0]))]) := hr
  show G E kX3_init 0 0 0 [(0, .ref h0), (1, .ref ra), (2, .ref rb)] [] [(h0, .inr (3, [.null, .null, .int 0, .int 0, .int 0, .int 0, .int 0, .int 0, .int 0]))]
  refine g_aload_n 0 dX3_init_0 rfl rfl ?_
  refine g_objInit dX3_init_1 oiX3_init.1.1 oiX3_init.1.2 oiX3_init.2 ⟨by decide, Nat.le_of_ble_eq_true rfl⟩ ?_
  refine g_aload_n 0 dX3_init_4 rfl rfl ?_
  refine g_aload_n 1 dX3_init_5 rfl rfl ?_
  refine g_putF (ci := 3) (T := TX3) (N := 9) (w2 := [(h0, .inr (3, [.ref ra, .null, .int 0, .int 0, .int 0, .int 0, .int 0, .int 0, .int 0]))]) 0 0 (.ref ra) tyX3 hI dX3_init_6 iX3_init_X3 tyX3_ok nmX3 rfl jX3_init_9 (by decide) rfl rfl rfl rfl rfl rfl (Nat.le_of_ble_eq_true rfl) rfl ?_
  refine g_aload_n 0 dX3_init_9 rfl rfl ?_
  refine g_aload_n 2 dX3_init_10 rfl rfl ?_
  refine g_putF (ci := 3) (T := TX3) (N := 9) (w2 := [(h0, .inr (3, [.ref ra, .ref rb, .int 0, .int 0, .int 0, .int 0, .int 0, .int 0, .int 0]))]) 0 1 (.ref rb) tyX3 hI dX3_init_11 iX3_init_X3 tyX3_ok nmX3 rfl jX3_init_15 (by decide) rfl rfl rfl rfl rfl rfl (Nat.le_of_ble_eq_true rfl) rfl ?_
  exact hr _ _ (fun _ => 0) trivial dX3_init_14
def rmX6_init : Room := { frames := 1, cells := 14, slots := 1924, locals := 12 }
def kX6_init : MK := (cX6_init, 3, RX6, wsX6_init, none, rmX6_init)
set_option maxRecDepth 20000 in
theorem oiX6_init : (Cond.methodLink RX6 1 objectInit ∈ wsX6_init ∧ Cond.instanceMethod objectInit ∈ wsX6_init) ∧ Cond.code objectInit ⟨#[0xb1]⟩ 1 none ∈ wsX6_init := ⟨⟨by decide +kernel, by decide +kernel⟩, by decide +kernel⟩
set_option maxRecDepth 20000 in
theorem acX6_init_I : Cond.arrayClass .int ∈ wsX6_init := by decide +kernel
set_option maxRecDepth 20000 in
theorem jX6_init_7 : Cond.fieldLink RX6 7 (TX6 2).1 (TX6 2).2.1 (TX6 2).2.2.1 ∈ wsX6_init := by decide +kernel
set_option maxRecDepth 20000 in
theorem iX6_init_X6 : ∀ x ∈ u_ws RX6 TX6 29, x ∈ wsX6_init := by decide +kernel
set_option maxRecDepth 20000 in
theorem jX6_init_13 : Cond.fieldLink RX6 13 (TX6 3).1 (TX6 3).2.1 (TX6 3).2.2.1 ∈ wsX6_init := by decide +kernel
set_option maxRecDepth 20000 in
theorem acX6_init_Z : Cond.arrayClass .boolean ∈ wsX6_init := by decide +kernel
set_option maxRecDepth 20000 in
theorem jX6_init_16 : Cond.fieldLink RX6 16 (TX6 4).1 (TX6 4).2.1 (TX6 4).2.2.1 ∈ wsX6_init := by decide +kernel
set_option maxRecDepth 20000 in
theorem acX6_init_J : Cond.arrayClass .long ∈ wsX6_init := by decide +kernel
set_option maxRecDepth 20000 in
theorem jX6_init_20 : Cond.fieldLink RX6 20 (TX6 5).1 (TX6 5).2.1 (TX6 5).2.2.1 ∈ wsX6_init := by decide +kernel
set_option maxRecDepth 20000 in
theorem jX6_init_24 : Cond.fieldLink RX6 24 (TX6 6).1 (TX6 6).2.1 (TX6 6).2.2.1 ∈ wsX6_init := by decide +kernel
set_option maxRecDepth 20000 in
theorem jX6_init_27 : Cond.fieldLink RX6 27 (TX6 13).1 (TX6 13).2.1 (TX6 13).2.2.1 ∈ wsX6_init := by decide +kernel
set_option maxRecDepth 20000 in
theorem jX6_init_30 : Cond.fieldLink RX6 30 (TX6 14).1 (TX6 14).2.1 (TX6 14).2.2.1 ∈ wsX6_init := by decide +kernel
set_option maxRecDepth 20000 in
theorem jX6_init_33 : Cond.fieldLink RX6 33 (TX6 15).1 (TX6 15).2.1 (TX6 15).2.2.1 ∈ wsX6_init := by decide +kernel
set_option maxRecDepth 20000 in
theorem jX6_init_36 : Cond.fieldLink RX6 36 (TX6 20).1 (TX6 20).2.1 (TX6 20).2.2.1 ∈ wsX6_init := by decide +kernel
set_option maxRecDepth 20000 in
theorem jX6_init_39 : Cond.fieldLink RX6 39 (TX6 21).1 (TX6 21).2.1 (TX6 21).2.2.1 ∈ wsX6_init := by decide +kernel
set_option maxRecDepth 20000 in
theorem jX6_init_42 : Cond.fieldLink RX6 42 (TX6 22).1 (TX6 22).2.1 (TX6 22).2.2.1 ∈ wsX6_init := by decide +kernel
set_option maxRecDepth 20000 in
theorem jX6_init_45 : Cond.fieldLink RX6 45 (TX6 23).1 (TX6 23).2.1 (TX6 23).2.2.1 ∈ wsX6_init := by decide +kernel
set_option maxRecDepth 20000 in
theorem jX6_init_48 : Cond.fieldLink RX6 48 (TX6 24).1 (TX6 24).2.1 (TX6 24).2.2.1 ∈ wsX6_init := by decide +kernel
set_option maxRecDepth 20000 in
theorem jX6_init_51 : Cond.fieldLink RX6 51 (TX6 25).1 (TX6 25).2.1 (TX6 25).2.2.1 ∈ wsX6_init := by decide +kernel
def f_X6_init_t_L300 (F : Nat) : Nat → Int32 → SO → Option SO
  | 0, _, _ => none
  | n + 1, x28, s29 =>
    (if (6 : Int32) ≤ x28 then
    some s29
    else
    ochi x28 6 (olt (uO_beliefs s29 (upd (O_beliefs s29) (Int32.toNatClampNeg x28) (1 : Int32))) (fun s32 =>
    f_X6_init_t_L300 F n (x28 + 1) s32)))

def f_X6_init_t_L232 (F : Nat) (k214_ : Int32 → SO → Option SO) : Nat → Int32 → Int32 → SO → Option SO
  | 0, _, _, _ => none
  | n + 1, x35, x36, s37 =>
    (if x35 < x36 then
    k214_ (x35 + 1) s37
    else
    ochi ((((20 : Int32) * (x35 - (1 : Int32))) + x36) - (1 : Int32)) 400 (
    obd ((if x35 ≤ x36 then
    some (0 : Int64)
    else
    ochi (((20 : Int32) * (x35 - (1 : Int32))) + x36) 400 (
    some ((O_triangle s37) (Int32.toNatClampNeg (((20 : Int32) * (x35 - (1 : Int32))) + x36)))))) (fun v42 =>
    olt (((O_triangle s37) (Int32.toNatClampNeg ((((20 : Int32) * (x35 - (1 : Int32))) + x36) - (1 : Int32)))) + v42) (fun z45 =>
    ochi (((20 : Int32) * x35) + x36) 400 (olt (uO_triangle s37 (vp_updL (O_triangle s37) (Int32.toNatClampNeg (((20 : Int32) * x35) + x36)) z45)) (fun s47 =>
    f_X6_init_t_L232 F k214_ n x35 (x36 + 1) s47))))))

def f_X6_init_t_L214 (F : Nat) : Nat → Int32 → SO → Option SO
  | 0, _, _ => none
  | n + 1, x25, s26 =>
    (if (20 : Int32) ≤ x25 then
    f_X6_init_t_L300 F F (0 : Int32) s26
    else
    ochi ((20 : Int32) * x25) 400 (olt (uO_triangle s26 (vp_updL (O_triangle s26) (Int32.toNatClampNeg ((20 : Int32) * x25)) (1 : Int64))) (fun s34 =>
    f_X6_init_t_L232 F (f_X6_init_t_L214 F n) F x25 (1 : Int32) s34)))

def f_X6_init_t (F : Nat) (s : SO) : Option SO :=
    ochi (0 : Int32) 6 (olt (uO_luck s (upd (O_luck s) (Int32.toNatClampNeg (0 : Int32)) (2 : Int32))) (fun s2 =>
    ochi (1 : Int32) 6 (olt (uO_luck s2 (upd (O_luck s2) (Int32.toNatClampNeg (1 : Int32)) (6 : Int32))) (fun s4 =>
    ochi (2 : Int32) 6 (olt (uO_luck s4 (upd (O_luck s4) (Int32.toNatClampNeg (2 : Int32)) (2 : Int32))) (fun s6 =>
    ochi (0 : Int32) 8 (olt (uO_bars s6 (upd (O_bars s6) (Int32.toNatClampNeg (0 : Int32)) (2 : Int32))) (fun s8 =>
    ochi (1 : Int32) 8 (olt (uO_bars s8 (upd (O_bars s8) (Int32.toNatClampNeg (1 : Int32)) (6 : Int32))) (fun s10 =>
    ochi (2 : Int32) 8 (olt (uO_bars s10 (upd (O_bars s10) (Int32.toNatClampNeg (2 : Int32)) (5 : Int32))) (fun s12 =>
    ochi (3 : Int32) 8 (olt (uO_bars s12 (upd (O_bars s12) (Int32.toNatClampNeg (3 : Int32)) (1 : Int32))) (fun s14 =>
    ochi (4 : Int32) 8 (olt (uO_bars s14 (upd (O_bars s14) (Int32.toNatClampNeg (4 : Int32)) (100 : Int32))) (fun s16 =>
    ochi (5 : Int32) 8 (olt (uO_bars s16 (upd (O_bars s16) (Int32.toNatClampNeg (5 : Int32)) (20 : Int32))) (fun s18 =>
    ochi (6 : Int32) 8 (olt (uO_bars s18 (upd (O_bars s18) (Int32.toNatClampNeg (6 : Int32)) (1 : Int32))) (fun s20 =>
    ochi (7 : Int32) 8 (olt (uO_bars s20 (upd (O_bars s20) (Int32.toNatClampNeg (7 : Int32)) (6 : Int32))) (fun s22 =>
    ochi (263 : Int32) 264 (olt (uO_s s22 (upd (O_s s22) (Int32.toNatClampNeg (263 : Int32)) (1 : Int32))) (fun s24 =>
    f_X6_init_t_L214 F F (0 : Int32) s24))))))))))))))))))))))))

set_option maxHeartbeats 4000000 in
set_option maxRecDepth 100000 in
theorem w_X6_init_t_L300 {E : GE} {cs : CS} {ad : Nat → Nat} {F : Nat} {r : SO} (hty : eT E = tyA cs) (hr : ∀ (pc : Nat) (lv : List (Nat × Value)), decode kX6_init.1 pc = .ok (.return_, 1) → G E kX6_init 14 1924 pc lv [] (wO cs ad r)) : ∀ (n : Nat) (x28 : Int32) (s29 : SO), f_X6_init_t_L300 F n x28 s29 = some r → G E kX6_init 14 1924 300 [(0, .ref (ad 0)), (1, .int x28)] [] (wO cs ad s29) := by
  intro n
  induction n with
  | zero =>
    intro x28 s29 hf
    cases (show (none : Option SO) = some r from hf)
  | succ n ih =>
    intro x28 s29 hf
    rw [f_X6_init_t_L300] at hf
    refine g_iload_n 1 dX6_init_300 rfl rfl ?_
    refine g_bipush (v := (6 : Int32)) dX6_init_301 (by decide) ?_
    refine g_icmp_ge (tgt := 319) dX6_init_303 (by decide) (fun h30 => ?_) (fun h30 => ?_)
    · have hf := ift h30 hf
      obtain rfl := Option.some.inj hf
      exact hr _ _ dX6_init_319
    · have hf := iff_ h30 hf
      refine g_aload_n 0 dX6_init_306 rfl rfl ?_
      refine g_get (ci := 6) (T := TX6) (N := 29) 0 20 (.ref (ad 9)) dX6_init_307 iX6_init_X6 rfl jX6_init_36 (by decide) wlaO_0 rfl ?_
      refine g_iload_n 1 dX6_init_310 rfl rfl ?_
      refine g_iconst (v := (1 : Int32)) dX6_init_311 (by decide) ?_
      obtain ⟨h31, hf⟩ := ochi_some hf
      obtain ⟨s32, e_s32, hf⟩ := olt_some hf
      refine g_iast (w2 := (wO cs ad s32)) 9 0 dX6_init_312 wlaO_9 (tI hty) h31 (wlsO_9.trans (congrArg (wO cs ad) e_s32)) ?_
      refine g_iinc (lv2 := [(1, .int (x28 + 1)), (0, .ref (ad 0))]) 1 dX6_init_313 rfl (ii1 _) (by decide) rfl ?_
      refine g_goto (tgt := 300) dX6_init_316 (by decide) ?_
      exact g_sub [1, 0] rfl (ih (x28 + 1) s32 hf)

set_option maxHeartbeats 4000000 in
set_option maxRecDepth 100000 in
theorem w_X6_init_t_L232 {E : GE} {cs : CS} {ad : Nat → Nat} {F : Nat} {k214_ : Int32 → SO → Option SO} {r : SO} (hty : eT E = tyA cs) (hr : ∀ (pc : Nat) (lv : List (Nat × Value)), decode kX6_init.1 pc = .ok (.return_, 1) → G E kX6_init 14 1924 pc lv [] (wO cs ad r)) (K214_ : ∀ (x25 : Int32) (s26 : SO), k214_ x25 s26 = some r → G E kX6_init 14 1924 214 [(0, .ref (ad 0)), (1, .int x25)] [] (wO cs ad s26)) : ∀ (n : Nat) (x35 : Int32) (x36 : Int32) (s37 : SO), f_X6_init_t_L232 F k214_ n x35 x36 s37 = some r → G E kX6_init 14 1924 232 [(0, .ref (ad 0)), (1, .int x35), (2, .int x36)] [] (wO cs ad s37) := by
  intro n
  induction n with
  | zero =>
    intro x35 x36 s37 hf
    cases (show (none : Option SO) = some r from hf)
  | succ n ih =>
    intro x35 x36 s37 hf
    rw [f_X6_init_t_L232] at hf
    refine g_iload_n 2 dX6_init_232 rfl rfl ?_
    refine g_iload_n 1 dX6_init_233 rfl rfl ?_
    refine g_icmp_gt (tgt := 292) dX6_init_234 (by decide) (fun h38 => ?_) (fun h38 => ?_)
    · have hf := ift h38 hf
      refine g_iinc (lv2 := [(1, .int (x35 + 1)), (0, .ref (ad 0)), (2, .int x36)]) 1 dX6_init_292 rfl (ii1 _) (by decide) rfl ?_
      refine g_goto (tgt := 214) dX6_init_295 (by decide) ?_
      exact g_sub [1, 0] rfl (K214_ (x35 + 1) s37 hf)
    · have hf := iff_ h38 hf
      refine g_aload_n 0 dX6_init_237 rfl rfl ?_
      refine g_get (ci := 6) (T := TX6) (N := 29) 0 22 (.ref (ad 11)) dX6_init_238 iX6_init_X6 rfl jX6_init_42 (by decide) wlaO_0 rfl ?_
      refine g_bipush (v := (20 : Int32)) dX6_init_241 (by decide) ?_
      refine g_iload_n 1 dX6_init_243 rfl rfl ?_
      refine g_imul dX6_init_244 ?_
      refine g_iload_n 2 dX6_init_245 rfl rfl ?_
      refine g_iadd dX6_init_246 ?_
      refine g_aload_n 0 dX6_init_247 rfl rfl ?_
      refine g_get (ci := 6) (T := TX6) (N := 29) 0 22 (.ref (ad 11)) dX6_init_248 iX6_init_X6 rfl jX6_init_42 (by decide) wlaO_0 rfl ?_
      refine g_bipush (v := (20 : Int32)) dX6_init_251 (by decide) ?_
      refine g_iload_n 1 dX6_init_253 rfl rfl ?_
      refine g_iconst (v := (1 : Int32)) dX6_init_254 (by decide) ?_
      refine g_isub dX6_init_255 ?_
      refine g_imul dX6_init_256 ?_
      refine g_iload_n 2 dX6_init_257 rfl rfl ?_
      refine g_iadd dX6_init_258 ?_
      refine g_iconst (v := (1 : Int32)) dX6_init_259 (by decide) ?_
      refine g_isub dX6_init_260 ?_
      obtain ⟨h39, hf⟩ := ochi_some hf
      refine g_lald 11 1 dX6_init_261 wlaO_11 (tJ hty) h39 ?_
      refine g_iload_n 2 dX6_init_262 rfl rfl ?_
      refine g_iload_n 1 dX6_init_263 rfl rfl ?_
      obtain ⟨v42, hE_v42, hf⟩ := obd_some hf
      have J_v42 : G E kX6_init 14 1924 284 [(0, .ref (ad 0)), (1, .int x35), (2, .int x36)] [.long v42, .long ((O_triangle s37) (Int32.toNatClampNeg ((((20 : Int32) * (x35 - (1 : Int32))) + x36) - (1 : Int32)))), .int (((20 : Int32) * x35) + x36), .ref (ad 11)] (wO cs ad s37) := by
        refine g_ladd dX6_init_284 ?_
        obtain ⟨z45, e_z45, hf⟩ := olt_some hf
        refine g_cast rfl rfl (congrArg (fun q => Value.long q :: [.int (((20 : Int32) * x35) + x36), .ref (ad 11)]) e_z45) rfl ?_
        obtain ⟨h46, hf⟩ := ochi_some hf
        obtain ⟨s47, e_s47, hf⟩ := olt_some hf
        refine g_last (w2 := (wO cs ad s47)) 11 1 dX6_init_285 wlaO_11 (tJ hty) h46 (wlsO_11.trans (congrArg (wO cs ad) e_s47)) ?_
        refine g_iinc (lv2 := [(2, .int (x36 + 1)), (0, .ref (ad 0)), (1, .int x35)]) 2 dX6_init_286 rfl (ii1 _) (by decide) rfl ?_
        refine g_goto (tgt := 232) dX6_init_289 (by decide) ?_
        exact g_sub [1, 2, 0] rfl (ih x35 (x36 + 1) s47 hf)
      have hf := hE_v42
      refine g_icmp_ge (tgt := 283) dX6_init_264 (by decide) (fun h43 => ?_) (fun h43 => ?_)
      · have hf := ift h43 hf
        refine g_lconst (v := (0 : Int64)) dX6_init_283 (by decide) ?_
        obtain rfl := Option.some.inj hf
        exact g_sub [0, 1, 2] rfl J_v42
      · have hf := iff_ h43 hf
        refine g_aload_n 0 dX6_init_267 rfl rfl ?_
        refine g_get (ci := 6) (T := TX6) (N := 29) 0 22 (.ref (ad 11)) dX6_init_268 iX6_init_X6 rfl jX6_init_42 (by decide) wlaO_0 rfl ?_
        refine g_bipush (v := (20 : Int32)) dX6_init_271 (by decide) ?_
        refine g_iload_n 1 dX6_init_273 rfl rfl ?_
        refine g_iconst (v := (1 : Int32)) dX6_init_274 (by decide) ?_
        refine g_isub dX6_init_275 ?_
        refine g_imul dX6_init_276 ?_
        refine g_iload_n 2 dX6_init_277 rfl rfl ?_
        refine g_iadd dX6_init_278 ?_
        obtain ⟨h44, hf⟩ := ochi_some hf
        refine g_lald 11 1 dX6_init_279 wlaO_11 (tJ hty) h44 ?_
        refine g_goto (tgt := 284) dX6_init_280 (by decide) ?_
        obtain rfl := Option.some.inj hf
        exact g_sub [0, 1, 2] rfl J_v42

set_option maxHeartbeats 4000000 in
set_option maxRecDepth 100000 in
theorem w_X6_init_t_L214 {E : GE} {cs : CS} {ad : Nat → Nat} {F : Nat} {r : SO} (hty : eT E = tyA cs) (hr : ∀ (pc : Nat) (lv : List (Nat × Value)), decode kX6_init.1 pc = .ok (.return_, 1) → G E kX6_init 14 1924 pc lv [] (wO cs ad r)) : ∀ (n : Nat) (x25 : Int32) (s26 : SO), f_X6_init_t_L214 F n x25 s26 = some r → G E kX6_init 14 1924 214 [(0, .ref (ad 0)), (1, .int x25)] [] (wO cs ad s26) := by
  intro n
  induction n with
  | zero =>
    intro x25 s26 hf
    cases (show (none : Option SO) = some r from hf)
  | succ n ih =>
    intro x25 s26 hf
    rw [f_X6_init_t_L214] at hf
    refine g_iload_n 1 dX6_init_214 rfl rfl ?_
    refine g_bipush (v := (20 : Int32)) dX6_init_215 (by decide) ?_
    refine g_icmp_ge (tgt := 298) dX6_init_217 (by decide) (fun h27 => ?_) (fun h27 => ?_)
    · have hf := ift h27 hf
      refine g_iconst (v := (0 : Int32)) dX6_init_298 (by decide) ?_
      refine g_istore_n (lv2 := [(1, .int (0 : Int32)), (0, .ref (ad 0))]) dX6_init_299 rfl (by decide) rfl ?_
      exact g_sub [1, 0] rfl (w_X6_init_t_L300 hty hr F (0 : Int32) s26 hf)
    · have hf := iff_ h27 hf
      refine g_aload_n 0 dX6_init_220 rfl rfl ?_
      refine g_get (ci := 6) (T := TX6) (N := 29) 0 22 (.ref (ad 11)) dX6_init_221 iX6_init_X6 rfl jX6_init_42 (by decide) wlaO_0 rfl ?_
      refine g_bipush (v := (20 : Int32)) dX6_init_224 (by decide) ?_
      refine g_iload_n 1 dX6_init_226 rfl rfl ?_
      refine g_imul dX6_init_227 ?_
      refine g_lconst (v := (1 : Int64)) dX6_init_228 (by decide) ?_
      obtain ⟨h33, hf⟩ := ochi_some hf
      obtain ⟨s34, e_s34, hf⟩ := olt_some hf
      refine g_last (w2 := (wO cs ad s34)) 11 1 dX6_init_229 wlaO_11 (tJ hty) h33 (wlsO_11.trans (congrArg (wO cs ad) e_s34)) ?_
      refine g_iconst (v := (1 : Int32)) dX6_init_230 (by decide) ?_
      refine g_istore_n (lv2 := [(2, .int (1 : Int32)), (0, .ref (ad 0)), (1, .int x25)]) dX6_init_231 rfl (by decide) rfl ?_
      exact g_sub [1, 2, 0] rfl (w_X6_init_t_L232 hty hr ih F x25 (1 : Int32) s34 hf)

set_option maxHeartbeats 4000000 in
set_option maxRecDepth 100000 in
theorem c_X6_init_t {E : GE} {cs : CS} {ad : Nat → Nat} {F : Nat} {s r : SO} (hty : eT E = tyA cs) (hr : ∀ (pc : Nat) (lv : List (Nat × Value)), decode kX6_init.1 pc = .ok (.return_, 1) → G E kX6_init 14 1924 pc lv [] (wO cs ad r)) (hf : f_X6_init_t F s = some r) : G E kX6_init 14 1924 119 [(0, .ref (ad 0))] [] (wO cs ad s) := by
  unfold f_X6_init_t at hf
  refine g_aload_n 0 dX6_init_119 rfl rfl ?_
  refine g_get (ci := 6) (T := TX6) (N := 29) 0 13 (.ref (ad 6)) dX6_init_120 iX6_init_X6 rfl jX6_init_27 (by decide) wlaO_0 rfl ?_
  refine g_iconst (v := (0 : Int32)) dX6_init_123 (by decide) ?_
  refine g_iconst (v := (2 : Int32)) dX6_init_124 (by decide) ?_
  obtain ⟨h1, hf⟩ := ochi_some hf
  obtain ⟨s2, e_s2, hf⟩ := olt_some hf
  refine g_iast (w2 := (wO cs ad s2)) 6 0 dX6_init_125 wlaO_6 (tI hty) h1 (wlsO_6.trans (congrArg (wO cs ad) e_s2)) ?_
  refine g_aload_n 0 dX6_init_126 rfl rfl ?_
  refine g_get (ci := 6) (T := TX6) (N := 29) 0 13 (.ref (ad 6)) dX6_init_127 iX6_init_X6 rfl jX6_init_27 (by decide) wlaO_0 rfl ?_
  refine g_iconst (v := (1 : Int32)) dX6_init_130 (by decide) ?_
  refine g_bipush (v := (6 : Int32)) dX6_init_131 (by decide) ?_
  obtain ⟨h3, hf⟩ := ochi_some hf
  obtain ⟨s4, e_s4, hf⟩ := olt_some hf
  refine g_iast (w2 := (wO cs ad s4)) 6 0 dX6_init_133 wlaO_6 (tI hty) h3 (wlsO_6.trans (congrArg (wO cs ad) e_s4)) ?_
  refine g_aload_n 0 dX6_init_134 rfl rfl ?_
  refine g_get (ci := 6) (T := TX6) (N := 29) 0 13 (.ref (ad 6)) dX6_init_135 iX6_init_X6 rfl jX6_init_27 (by decide) wlaO_0 rfl ?_
  refine g_iconst (v := (2 : Int32)) dX6_init_138 (by decide) ?_
  refine g_iconst (v := (2 : Int32)) dX6_init_139 (by decide) ?_
  obtain ⟨h5, hf⟩ := ochi_some hf
  obtain ⟨s6, e_s6, hf⟩ := olt_some hf
  refine g_iast (w2 := (wO cs ad s6)) 6 0 dX6_init_140 wlaO_6 (tI hty) h5 (wlsO_6.trans (congrArg (wO cs ad) e_s6)) ?_
  refine g_aload_n 0 dX6_init_141 rfl rfl ?_
  refine g_get (ci := 6) (T := TX6) (N := 29) 0 21 (.ref (ad 10)) dX6_init_142 iX6_init_X6 rfl jX6_init_39 (by decide) wlaO_0 rfl ?_
  refine g_iconst (v := (0 : Int32)) dX6_init_145 (by decide) ?_
  refine g_iconst (v := (2 : Int32)) dX6_init_146 (by decide) ?_
  obtain ⟨h7, hf⟩ := ochi_some hf
  obtain ⟨s8, e_s8, hf⟩ := olt_some hf
  refine g_iast (w2 := (wO cs ad s8)) 10 0 dX6_init_147 wlaO_10 (tI hty) h7 (wlsO_10.trans (congrArg (wO cs ad) e_s8)) ?_
  refine g_aload_n 0 dX6_init_148 rfl rfl ?_
  refine g_get (ci := 6) (T := TX6) (N := 29) 0 21 (.ref (ad 10)) dX6_init_149 iX6_init_X6 rfl jX6_init_39 (by decide) wlaO_0 rfl ?_
  refine g_iconst (v := (1 : Int32)) dX6_init_152 (by decide) ?_
  refine g_bipush (v := (6 : Int32)) dX6_init_153 (by decide) ?_
  obtain ⟨h9, hf⟩ := ochi_some hf
  obtain ⟨s10, e_s10, hf⟩ := olt_some hf
  refine g_iast (w2 := (wO cs ad s10)) 10 0 dX6_init_155 wlaO_10 (tI hty) h9 (wlsO_10.trans (congrArg (wO cs ad) e_s10)) ?_
  refine g_aload_n 0 dX6_init_156 rfl rfl ?_
  refine g_get (ci := 6) (T := TX6) (N := 29) 0 21 (.ref (ad 10)) dX6_init_157 iX6_init_X6 rfl jX6_init_39 (by decide) wlaO_0 rfl ?_
  refine g_iconst (v := (2 : Int32)) dX6_init_160 (by decide) ?_
  refine g_iconst (v := (5 : Int32)) dX6_init_161 (by decide) ?_
  obtain ⟨h11, hf⟩ := ochi_some hf
  obtain ⟨s12, e_s12, hf⟩ := olt_some hf
  refine g_iast (w2 := (wO cs ad s12)) 10 0 dX6_init_162 wlaO_10 (tI hty) h11 (wlsO_10.trans (congrArg (wO cs ad) e_s12)) ?_
  refine g_aload_n 0 dX6_init_163 rfl rfl ?_
  refine g_get (ci := 6) (T := TX6) (N := 29) 0 21 (.ref (ad 10)) dX6_init_164 iX6_init_X6 rfl jX6_init_39 (by decide) wlaO_0 rfl ?_
  refine g_iconst (v := (3 : Int32)) dX6_init_167 (by decide) ?_
  refine g_iconst (v := (1 : Int32)) dX6_init_168 (by decide) ?_
  obtain ⟨h13, hf⟩ := ochi_some hf
  obtain ⟨s14, e_s14, hf⟩ := olt_some hf
  refine g_iast (w2 := (wO cs ad s14)) 10 0 dX6_init_169 wlaO_10 (tI hty) h13 (wlsO_10.trans (congrArg (wO cs ad) e_s14)) ?_
  refine g_aload_n 0 dX6_init_170 rfl rfl ?_
  refine g_get (ci := 6) (T := TX6) (N := 29) 0 21 (.ref (ad 10)) dX6_init_171 iX6_init_X6 rfl jX6_init_39 (by decide) wlaO_0 rfl ?_
  refine g_iconst (v := (4 : Int32)) dX6_init_174 (by decide) ?_
  refine g_bipush (v := (100 : Int32)) dX6_init_175 (by decide) ?_
  obtain ⟨h15, hf⟩ := ochi_some hf
  obtain ⟨s16, e_s16, hf⟩ := olt_some hf
  refine g_iast (w2 := (wO cs ad s16)) 10 0 dX6_init_177 wlaO_10 (tI hty) h15 (wlsO_10.trans (congrArg (wO cs ad) e_s16)) ?_
  refine g_aload_n 0 dX6_init_178 rfl rfl ?_
  refine g_get (ci := 6) (T := TX6) (N := 29) 0 21 (.ref (ad 10)) dX6_init_179 iX6_init_X6 rfl jX6_init_39 (by decide) wlaO_0 rfl ?_
  refine g_iconst (v := (5 : Int32)) dX6_init_182 (by decide) ?_
  refine g_bipush (v := (20 : Int32)) dX6_init_183 (by decide) ?_
  obtain ⟨h17, hf⟩ := ochi_some hf
  obtain ⟨s18, e_s18, hf⟩ := olt_some hf
  refine g_iast (w2 := (wO cs ad s18)) 10 0 dX6_init_185 wlaO_10 (tI hty) h17 (wlsO_10.trans (congrArg (wO cs ad) e_s18)) ?_
  refine g_aload_n 0 dX6_init_186 rfl rfl ?_
  refine g_get (ci := 6) (T := TX6) (N := 29) 0 21 (.ref (ad 10)) dX6_init_187 iX6_init_X6 rfl jX6_init_39 (by decide) wlaO_0 rfl ?_
  refine g_bipush (v := (6 : Int32)) dX6_init_190 (by decide) ?_
  refine g_iconst (v := (1 : Int32)) dX6_init_192 (by decide) ?_
  obtain ⟨h19, hf⟩ := ochi_some hf
  obtain ⟨s20, e_s20, hf⟩ := olt_some hf
  refine g_iast (w2 := (wO cs ad s20)) 10 0 dX6_init_193 wlaO_10 (tI hty) h19 (wlsO_10.trans (congrArg (wO cs ad) e_s20)) ?_
  refine g_aload_n 0 dX6_init_194 rfl rfl ?_
  refine g_get (ci := 6) (T := TX6) (N := 29) 0 21 (.ref (ad 10)) dX6_init_195 iX6_init_X6 rfl jX6_init_39 (by decide) wlaO_0 rfl ?_
  refine g_bipush (v := (7 : Int32)) dX6_init_198 (by decide) ?_
  refine g_bipush (v := (6 : Int32)) dX6_init_200 (by decide) ?_
  obtain ⟨h21, hf⟩ := ochi_some hf
  obtain ⟨s22, e_s22, hf⟩ := olt_some hf
  refine g_iast (w2 := (wO cs ad s22)) 10 0 dX6_init_202 wlaO_10 (tI hty) h21 (wlsO_10.trans (congrArg (wO cs ad) e_s22)) ?_
  refine g_aload_n 0 dX6_init_203 rfl rfl ?_
  refine g_get (ci := 6) (T := TX6) (N := 29) 0 2 (.ref (ad 1)) dX6_init_204 iX6_init_X6 rfl jX6_init_7 (by decide) wlaO_0 rfl ?_
  refine g_sipush (v := (263 : Int32)) dX6_init_207 (by decide) ?_
  refine g_iconst (v := (1 : Int32)) dX6_init_210 (by decide) ?_
  obtain ⟨h23, hf⟩ := ochi_some hf
  obtain ⟨s24, e_s24, hf⟩ := olt_some hf
  refine g_iast (w2 := (wO cs ad s24)) 1 0 dX6_init_211 wlaO_1 (tI hty) h23 (wlsO_1.trans (congrArg (wO cs ad) e_s24)) ?_
  refine g_iconst (v := (0 : Int32)) dX6_init_212 (by decide) ?_
  refine g_istore_n (lv2 := [(1, .int (0 : Int32)), (0, .ref (ad 0))]) dX6_init_213 rfl (by decide) rfl ?_
  exact g_sub [1, 0] rfl (w_X6_init_t_L214 hty hr F (0 : Int32) s24 hf)

set_option maxHeartbeats 4000000 in
set_option maxRecDepth 100000 in
theorem c_X6_init {l : Launch} {D : va_G} {tys : List (ClassId × FieldType)} {X : XT} {cs : CS} {h0 : Nat} {F : Nat} {v : SO} (htyM : tys = tyA cs) (hv : f_X6_init_t F O00 = some v) : Cn l D tys X yX6_init wsX6_init rmX6_init 14 1924 [.ref h0] [(h0, .inr (6, [.int 0, .long 0, .null, .null, .null, .null, .null, .int 0, .int 0, .int 0, .int 0, .int 0, .int 0, .null, .null, .null, .int 0, .int 0, .int 0, .int 0, .null, .null, .null, .null, .null, .null, .long 0, .long 0, .int 0]))] (fun ad => ad 0 = h0) (fun ad => wO cs ad v) := by
  refine Cn_ofG (by decide +kernel) rfl rfl (Nat.le_of_ble_eq_true rfl) (fun E _ _ hty0 hX0 hI hr => ?_)
  have hty := hty0.trans htyM
  have hr : Rn E kX6_init 14 1924 (fun ad => ad 0 = h0) (fun ad => wO cs ad v) := hr
  show G E kX6_init 0 0 0 [(0, .ref h0)] [] [(h0, .inr (6, [.int 0, .long 0, .null, .null, .null, .null, .null, .int 0, .int 0, .int 0, .int 0, .int 0, .int 0, .null, .null, .null, .int 0, .int 0, .int 0, .int 0, .null, .null, .null, .null, .null, .null, .long 0, .long 0, .int 0]))]
  refine g_aload_n 0 dX6_init_0 rfl rfl ?_
  refine g_objInit dX6_init_1 oiX6_init.1.1 oiX6_init.1.2 oiX6_init.2 ⟨by decide, Nat.le_of_ble_eq_true rfl⟩ ?_
  refine g_aload_n 0 dX6_init_4 rfl rfl ?_
  refine g_sipush (v := 264) dX6_init_5 (by decide) ?_
  refine g_newI (N := 264) hty dX6_init_8 acX6_init_I (by decide) (by decide) (by decide) ⟨by decide, by decide⟩ (fun q1 => ?_)
  refine g_cast rfl rfl rfl (w2 := [(h0, .inr (6, [.int 0, .long 0, .null, .null, .null, .null, .null, .int 0, .int 0, .int 0, .int 0, .int 0, .int 0, .null, .null, .null, .int 0, .int 0, .int 0, .int 0, .null, .null, .null, .null, .null, .null, .long 0, .long 0, .int 0])), (q1, .inl (cs.1, 264, .inl (fun _ => 0)))]) rfl ?_
  refine g_putF (ci := 6) (T := TX6) (N := 29) (w2 := [(h0, .inr (6, [.int 0, .long 0, .ref q1, .null, .null, .null, .null, .int 0, .int 0, .int 0, .int 0, .int 0, .int 0, .null, .null, .null, .int 0, .int 0, .int 0, .int 0, .null, .null, .null, .null, .null, .null, .long 0, .long 0, .int 0])), (q1, .inl (cs.1, 264, .inl (fun _ => 0)))]) 0 2 (.ref q1) tyX6 hI dX6_init_10 iX6_init_X6 tyX6_ok nmX6 rfl jX6_init_7 (by decide) rfl rfl rfl rfl rfl rfl (Nat.le_of_ble_eq_true rfl) rfl ?_
  refine g_aload_n 0 dX6_init_13 rfl rfl ?_
  refine g_sipush (v := 528) dX6_init_14 (by decide) ?_
  refine g_newI (N := 528) hty dX6_init_17 acX6_init_I (by decide) (by decide) (by decide) ⟨by decide, by decide⟩ (fun q2 => ?_)
  refine g_cast rfl rfl rfl (w2 := [(h0, .inr (6, [.int 0, .long 0, .ref q1, .null, .null, .null, .null, .int 0, .int 0, .int 0, .int 0, .int 0, .int 0, .null, .null, .null, .int 0, .int 0, .int 0, .int 0, .null, .null, .null, .null, .null, .null, .long 0, .long 0, .int 0])), (q1, .inl (cs.1, 264, .inl (fun _ => 0))), (q2, .inl (cs.1, 528, .inl (fun _ => 0)))]) rfl ?_
  refine g_putF (ci := 6) (T := TX6) (N := 29) (w2 := [(h0, .inr (6, [.int 0, .long 0, .ref q1, .ref q2, .null, .null, .null, .int 0, .int 0, .int 0, .int 0, .int 0, .int 0, .null, .null, .null, .int 0, .int 0, .int 0, .int 0, .null, .null, .null, .null, .null, .null, .long 0, .long 0, .int 0])), (q1, .inl (cs.1, 264, .inl (fun _ => 0))), (q2, .inl (cs.1, 528, .inl (fun _ => 0)))]) 0 3 (.ref q2) tyX6 hI dX6_init_19 iX6_init_X6 tyX6_ok nmX6 rfl jX6_init_13 (by decide) rfl rfl rfl rfl rfl rfl (Nat.le_of_ble_eq_true rfl) rfl ?_
  refine g_aload_n 0 dX6_init_22 rfl rfl ?_
  refine g_iconst (v := 2) dX6_init_23 (by decide) ?_
  refine g_newZ (N := 2) hty dX6_init_24 acX6_init_Z (by decide) (by decide) (by decide) ⟨by decide, by decide⟩ (fun q3 => ?_)
  refine g_cast rfl rfl rfl (w2 := [(h0, .inr (6, [.int 0, .long 0, .ref q1, .ref q2, .null, .null, .null, .int 0, .int 0, .int 0, .int 0, .int 0, .int 0, .null, .null, .null, .int 0, .int 0, .int 0, .int 0, .null, .null, .null, .null, .null, .null, .long 0, .long 0, .int 0])), (q1, .inl (cs.1, 264, .inl (fun _ => 0))), (q2, .inl (cs.1, 528, .inl (fun _ => 0))), (q3, .inl (cs.2.2.1, 2, .inl (fun _ => 0)))]) rfl ?_
  refine g_putF (ci := 6) (T := TX6) (N := 29) (w2 := [(h0, .inr (6, [.int 0, .long 0, .ref q1, .ref q2, .ref q3, .null, .null, .int 0, .int 0, .int 0, .int 0, .int 0, .int 0, .null, .null, .null, .int 0, .int 0, .int 0, .int 0, .null, .null, .null, .null, .null, .null, .long 0, .long 0, .int 0])), (q1, .inl (cs.1, 264, .inl (fun _ => 0))), (q2, .inl (cs.1, 528, .inl (fun _ => 0))), (q3, .inl (cs.2.2.1, 2, .inl (fun _ => 0)))]) 0 4 (.ref q3) tyX6 hI dX6_init_26 iX6_init_X6 tyX6_ok nmX6 rfl jX6_init_16 (by decide) rfl rfl rfl rfl rfl rfl (Nat.le_of_ble_eq_true rfl) rfl ?_
  refine g_aload_n 0 dX6_init_29 rfl rfl ?_
  refine g_bipush (v := 6) dX6_init_30 (by decide) ?_
  refine g_newJ (N := 6) hty dX6_init_32 acX6_init_J (by decide) (by decide) (by decide) ⟨by decide, by decide⟩ (fun q4 => ?_)
  refine g_cast rfl rfl rfl (w2 := [(h0, .inr (6, [.int 0, .long 0, .ref q1, .ref q2, .ref q3, .null, .null, .int 0, .int 0, .int 0, .int 0, .int 0, .int 0, .null, .null, .null, .int 0, .int 0, .int 0, .int 0, .null, .null, .null, .null, .null, .null, .long 0, .long 0, .int 0])), (q1, .inl (cs.1, 264, .inl (fun _ => 0))), (q2, .inl (cs.1, 528, .inl (fun _ => 0))), (q3, .inl (cs.2.2.1, 2, .inl (fun _ => 0))), (q4, .inl (cs.2.1, 6, .inr (.inl (fun _ => 0))))]) rfl ?_
  refine g_putF (ci := 6) (T := TX6) (N := 29) (w2 := [(h0, .inr (6, [.int 0, .long 0, .ref q1, .ref q2, .ref q3, .ref q4, .null, .int 0, .int 0, .int 0, .int 0, .int 0, .int 0, .null, .null, .null, .int 0, .int 0, .int 0, .int 0, .null, .null, .null, .null, .null, .null, .long 0, .long 0, .int 0])), (q1, .inl (cs.1, 264, .inl (fun _ => 0))), (q2, .inl (cs.1, 528, .inl (fun _ => 0))), (q3, .inl (cs.2.2.1, 2, .inl (fun _ => 0))), (q4, .inl (cs.2.1, 6, .inr (.inl (fun _ => 0))))]) 0 5 (.ref q4) tyX6 hI dX6_init_34 iX6_init_X6 tyX6_ok nmX6 rfl jX6_init_20 (by decide) rfl rfl rfl rfl rfl rfl (Nat.le_of_ble_eq_true rfl) rfl ?_
  refine g_aload_n 0 dX6_init_37 rfl rfl ?_
  refine g_sipush (v := 400) dX6_init_38 (by decide) ?_
  refine g_newI (N := 400) hty dX6_init_41 acX6_init_I (by decide) (by decide) (by decide) ⟨by decide, by decide⟩ (fun q5 => ?_)
  refine g_cast rfl rfl rfl (w2 := [(h0, .inr (6, [.int 0, .long 0, .ref q1, .ref q2, .ref q3, .ref q4, .null, .int 0, .int 0, .int 0, .int 0, .int 0, .int 0, .null, .null, .null, .int 0, .int 0, .int 0, .int 0, .null, .null, .null, .null, .null, .null, .long 0, .long 0, .int 0])), (q1, .inl (cs.1, 264, .inl (fun _ => 0))), (q2, .inl (cs.1, 528, .inl (fun _ => 0))), (q3, .inl (cs.2.2.1, 2, .inl (fun _ => 0))), (q4, .inl (cs.2.1, 6, .inr (.inl (fun _ => 0)))), (q5, .inl (cs.1, 400, .inl (fun _ => 0)))]) rfl ?_
  refine g_putF (ci := 6) (T := TX6) (N := 29) (w2 := [(h0, .inr (6, [.int 0, .long 0, .ref q1, .ref q2, .ref q3, .ref q4, .ref q5, .int 0, .int 0, .int 0, .int 0, .int 0, .int 0, .null, .null, .null, .int 0, .int 0, .int 0, .int 0, .null, .null, .null, .null, .null, .null, .long 0, .long 0, .int 0])), (q1, .inl (cs.1, 264, .inl (fun _ => 0))), (q2, .inl (cs.1, 528, .inl (fun _ => 0))), (q3, .inl (cs.2.2.1, 2, .inl (fun _ => 0))), (q4, .inl (cs.2.1, 6, .inr (.inl (fun _ => 0)))), (q5, .inl (cs.1, 400, .inl (fun _ => 0)))]) 0 6 (.ref q5) tyX6 hI dX6_init_43 iX6_init_X6 tyX6_ok nmX6 rfl jX6_init_24 (by decide) rfl rfl rfl rfl rfl rfl (Nat.le_of_ble_eq_true rfl) rfl ?_
  refine g_aload_n 0 dX6_init_46 rfl rfl ?_
  refine g_bipush (v := 6) dX6_init_47 (by decide) ?_
  refine g_newI (N := 6) hty dX6_init_49 acX6_init_I (by decide) (by decide) (by decide) ⟨by decide, by decide⟩ (fun q6 => ?_)
  refine g_cast rfl rfl rfl (w2 := [(h0, .inr (6, [.int 0, .long 0, .ref q1, .ref q2, .ref q3, .ref q4, .ref q5, .int 0, .int 0, .int 0, .int 0, .int 0, .int 0, .null, .null, .null, .int 0, .int 0, .int 0, .int 0, .null, .null, .null, .null, .null, .null, .long 0, .long 0, .int 0])), (q1, .inl (cs.1, 264, .inl (fun _ => 0))), (q2, .inl (cs.1, 528, .inl (fun _ => 0))), (q3, .inl (cs.2.2.1, 2, .inl (fun _ => 0))), (q4, .inl (cs.2.1, 6, .inr (.inl (fun _ => 0)))), (q5, .inl (cs.1, 400, .inl (fun _ => 0))), (q6, .inl (cs.1, 6, .inl (fun _ => 0)))]) rfl ?_
  refine g_putF (ci := 6) (T := TX6) (N := 29) (w2 := [(h0, .inr (6, [.int 0, .long 0, .ref q1, .ref q2, .ref q3, .ref q4, .ref q5, .int 0, .int 0, .int 0, .int 0, .int 0, .int 0, .ref q6, .null, .null, .int 0, .int 0, .int 0, .int 0, .null, .null, .null, .null, .null, .null, .long 0, .long 0, .int 0])), (q1, .inl (cs.1, 264, .inl (fun _ => 0))), (q2, .inl (cs.1, 528, .inl (fun _ => 0))), (q3, .inl (cs.2.2.1, 2, .inl (fun _ => 0))), (q4, .inl (cs.2.1, 6, .inr (.inl (fun _ => 0)))), (q5, .inl (cs.1, 400, .inl (fun _ => 0))), (q6, .inl (cs.1, 6, .inl (fun _ => 0)))]) 0 13 (.ref q6) tyX6 hI dX6_init_51 iX6_init_X6 tyX6_ok nmX6 rfl jX6_init_27 (by decide) rfl rfl rfl rfl rfl rfl (Nat.le_of_ble_eq_true rfl) rfl ?_
  refine g_aload_n 0 dX6_init_54 rfl rfl ?_
  refine g_bipush (v := 36) dX6_init_55 (by decide) ?_
  refine g_newI (N := 36) hty dX6_init_57 acX6_init_I (by decide) (by decide) (by decide) ⟨by decide, by decide⟩ (fun q7 => ?_)
  refine g_cast rfl rfl rfl (w2 := [(h0, .inr (6, [.int 0, .long 0, .ref q1, .ref q2, .ref q3, .ref q4, .ref q5, .int 0, .int 0, .int 0, .int 0, .int 0, .int 0, .ref q6, .null, .null, .int 0, .int 0, .int 0, .int 0, .null, .null, .null, .null, .null, .null, .long 0, .long 0, .int 0])), (q1, .inl (cs.1, 264, .inl (fun _ => 0))), (q2, .inl (cs.1, 528, .inl (fun _ => 0))), (q3, .inl (cs.2.2.1, 2, .inl (fun _ => 0))), (q4, .inl (cs.2.1, 6, .inr (.inl (fun _ => 0)))), (q5, .inl (cs.1, 400, .inl (fun _ => 0))), (q6, .inl (cs.1, 6, .inl (fun _ => 0))), (q7, .inl (cs.1, 36, .inl (fun _ => 0)))]) rfl ?_
  refine g_putF (ci := 6) (T := TX6) (N := 29) (w2 := [(h0, .inr (6, [.int 0, .long 0, .ref q1, .ref q2, .ref q3, .ref q4, .ref q5, .int 0, .int 0, .int 0, .int 0, .int 0, .int 0, .ref q6, .ref q7, .null, .int 0, .int 0, .int 0, .int 0, .null, .null, .null, .null, .null, .null, .long 0, .long 0, .int 0])), (q1, .inl (cs.1, 264, .inl (fun _ => 0))), (q2, .inl (cs.1, 528, .inl (fun _ => 0))), (q3, .inl (cs.2.2.1, 2, .inl (fun _ => 0))), (q4, .inl (cs.2.1, 6, .inr (.inl (fun _ => 0)))), (q5, .inl (cs.1, 400, .inl (fun _ => 0))), (q6, .inl (cs.1, 6, .inl (fun _ => 0))), (q7, .inl (cs.1, 36, .inl (fun _ => 0)))]) 0 14 (.ref q7) tyX6 hI dX6_init_59 iX6_init_X6 tyX6_ok nmX6 rfl jX6_init_30 (by decide) rfl rfl rfl rfl rfl rfl (Nat.le_of_ble_eq_true rfl) rfl ?_
  refine g_aload_n 0 dX6_init_62 rfl rfl ?_
  refine g_bipush (v := 48) dX6_init_63 (by decide) ?_
  refine g_newI (N := 48) hty dX6_init_65 acX6_init_I (by decide) (by decide) (by decide) ⟨by decide, by decide⟩ (fun q8 => ?_)
  refine g_cast rfl rfl rfl (w2 := [(h0, .inr (6, [.int 0, .long 0, .ref q1, .ref q2, .ref q3, .ref q4, .ref q5, .int 0, .int 0, .int 0, .int 0, .int 0, .int 0, .ref q6, .ref q7, .null, .int 0, .int 0, .int 0, .int 0, .null, .null, .null, .null, .null, .null, .long 0, .long 0, .int 0])), (q1, .inl (cs.1, 264, .inl (fun _ => 0))), (q2, .inl (cs.1, 528, .inl (fun _ => 0))), (q3, .inl (cs.2.2.1, 2, .inl (fun _ => 0))), (q4, .inl (cs.2.1, 6, .inr (.inl (fun _ => 0)))), (q5, .inl (cs.1, 400, .inl (fun _ => 0))), (q6, .inl (cs.1, 6, .inl (fun _ => 0))), (q7, .inl (cs.1, 36, .inl (fun _ => 0))), (q8, .inl (cs.1, 48, .inl (fun _ => 0)))]) rfl ?_
  refine g_putF (ci := 6) (T := TX6) (N := 29) (w2 := [(h0, .inr (6, [.int 0, .long 0, .ref q1, .ref q2, .ref q3, .ref q4, .ref q5, .int 0, .int 0, .int 0, .int 0, .int 0, .int 0, .ref q6, .ref q7, .ref q8, .int 0, .int 0, .int 0, .int 0, .null, .null, .null, .null, .null, .null, .long 0, .long 0, .int 0])), (q1, .inl (cs.1, 264, .inl (fun _ => 0))), (q2, .inl (cs.1, 528, .inl (fun _ => 0))), (q3, .inl (cs.2.2.1, 2, .inl (fun _ => 0))), (q4, .inl (cs.2.1, 6, .inr (.inl (fun _ => 0)))), (q5, .inl (cs.1, 400, .inl (fun _ => 0))), (q6, .inl (cs.1, 6, .inl (fun _ => 0))), (q7, .inl (cs.1, 36, .inl (fun _ => 0))), (q8, .inl (cs.1, 48, .inl (fun _ => 0)))]) 0 15 (.ref q8) tyX6 hI dX6_init_67 iX6_init_X6 tyX6_ok nmX6 rfl jX6_init_33 (by decide) rfl rfl rfl rfl rfl rfl (Nat.le_of_ble_eq_true rfl) rfl ?_
  refine g_aload_n 0 dX6_init_70 rfl rfl ?_
  refine g_bipush (v := 6) dX6_init_71 (by decide) ?_
  refine g_newI (N := 6) hty dX6_init_73 acX6_init_I (by decide) (by decide) (by decide) ⟨by decide, by decide⟩ (fun q9 => ?_)
  refine g_cast rfl rfl rfl (w2 := [(h0, .inr (6, [.int 0, .long 0, .ref q1, .ref q2, .ref q3, .ref q4, .ref q5, .int 0, .int 0, .int 0, .int 0, .int 0, .int 0, .ref q6, .ref q7, .ref q8, .int 0, .int 0, .int 0, .int 0, .null, .null, .null, .null, .null, .null, .long 0, .long 0, .int 0])), (q1, .inl (cs.1, 264, .inl (fun _ => 0))), (q2, .inl (cs.1, 528, .inl (fun _ => 0))), (q3, .inl (cs.2.2.1, 2, .inl (fun _ => 0))), (q4, .inl (cs.2.1, 6, .inr (.inl (fun _ => 0)))), (q5, .inl (cs.1, 400, .inl (fun _ => 0))), (q6, .inl (cs.1, 6, .inl (fun _ => 0))), (q7, .inl (cs.1, 36, .inl (fun _ => 0))), (q8, .inl (cs.1, 48, .inl (fun _ => 0))), (q9, .inl (cs.1, 6, .inl (fun _ => 0)))]) rfl ?_
  refine g_putF (ci := 6) (T := TX6) (N := 29) (w2 := [(h0, .inr (6, [.int 0, .long 0, .ref q1, .ref q2, .ref q3, .ref q4, .ref q5, .int 0, .int 0, .int 0, .int 0, .int 0, .int 0, .ref q6, .ref q7, .ref q8, .int 0, .int 0, .int 0, .int 0, .ref q9, .null, .null, .null, .null, .null, .long 0, .long 0, .int 0])), (q1, .inl (cs.1, 264, .inl (fun _ => 0))), (q2, .inl (cs.1, 528, .inl (fun _ => 0))), (q3, .inl (cs.2.2.1, 2, .inl (fun _ => 0))), (q4, .inl (cs.2.1, 6, .inr (.inl (fun _ => 0)))), (q5, .inl (cs.1, 400, .inl (fun _ => 0))), (q6, .inl (cs.1, 6, .inl (fun _ => 0))), (q7, .inl (cs.1, 36, .inl (fun _ => 0))), (q8, .inl (cs.1, 48, .inl (fun _ => 0))), (q9, .inl (cs.1, 6, .inl (fun _ => 0)))]) 0 20 (.ref q9) tyX6 hI dX6_init_75 iX6_init_X6 tyX6_ok nmX6 rfl jX6_init_36 (by decide) rfl rfl rfl rfl rfl rfl (Nat.le_of_ble_eq_true rfl) rfl ?_
  refine g_aload_n 0 dX6_init_78 rfl rfl ?_
  refine g_bipush (v := 8) dX6_init_79 (by decide) ?_
  refine g_newI (N := 8) hty dX6_init_81 acX6_init_I (by decide) (by decide) (by decide) ⟨by decide, by decide⟩ (fun q10 => ?_)
  refine g_cast rfl rfl rfl (w2 := [(h0, .inr (6, [.int 0, .long 0, .ref q1, .ref q2, .ref q3, .ref q4, .ref q5, .int 0, .int 0, .int 0, .int 0, .int 0, .int 0, .ref q6, .ref q7, .ref q8, .int 0, .int 0, .int 0, .int 0, .ref q9, .null, .null, .null, .null, .null, .long 0, .long 0, .int 0])), (q1, .inl (cs.1, 264, .inl (fun _ => 0))), (q2, .inl (cs.1, 528, .inl (fun _ => 0))), (q3, .inl (cs.2.2.1, 2, .inl (fun _ => 0))), (q4, .inl (cs.2.1, 6, .inr (.inl (fun _ => 0)))), (q5, .inl (cs.1, 400, .inl (fun _ => 0))), (q6, .inl (cs.1, 6, .inl (fun _ => 0))), (q7, .inl (cs.1, 36, .inl (fun _ => 0))), (q8, .inl (cs.1, 48, .inl (fun _ => 0))), (q9, .inl (cs.1, 6, .inl (fun _ => 0))), (q10, .inl (cs.1, 8, .inl (fun _ => 0)))]) rfl ?_
  refine g_putF (ci := 6) (T := TX6) (N := 29) (w2 := [(h0, .inr (6, [.int 0, .long 0, .ref q1, .ref q2, .ref q3, .ref q4, .ref q5, .int 0, .int 0, .int 0, .int 0, .int 0, .int 0, .ref q6, .ref q7, .ref q8, .int 0, .int 0, .int 0, .int 0, .ref q9, .ref q10, .null, .null, .null, .null, .long 0, .long 0, .int 0])), (q1, .inl (cs.1, 264, .inl (fun _ => 0))), (q2, .inl (cs.1, 528, .inl (fun _ => 0))), (q3, .inl (cs.2.2.1, 2, .inl (fun _ => 0))), (q4, .inl (cs.2.1, 6, .inr (.inl (fun _ => 0)))), (q5, .inl (cs.1, 400, .inl (fun _ => 0))), (q6, .inl (cs.1, 6, .inl (fun _ => 0))), (q7, .inl (cs.1, 36, .inl (fun _ => 0))), (q8, .inl (cs.1, 48, .inl (fun _ => 0))), (q9, .inl (cs.1, 6, .inl (fun _ => 0))), (q10, .inl (cs.1, 8, .inl (fun _ => 0)))]) 0 21 (.ref q10) tyX6 hI dX6_init_83 iX6_init_X6 tyX6_ok nmX6 rfl jX6_init_39 (by decide) rfl rfl rfl rfl rfl rfl (Nat.le_of_ble_eq_true rfl) rfl ?_
  refine g_aload_n 0 dX6_init_86 rfl rfl ?_
  refine g_sipush (v := 400) dX6_init_87 (by decide) ?_
  refine g_newJ (N := 400) hty dX6_init_90 acX6_init_J (by decide) (by decide) (by decide) ⟨by decide, by decide⟩ (fun q11 => ?_)
  refine g_cast rfl rfl rfl (w2 := [(h0, .inr (6, [.int 0, .long 0, .ref q1, .ref q2, .ref q3, .ref q4, .ref q5, .int 0, .int 0, .int 0, .int 0, .int 0, .int 0, .ref q6, .ref q7, .ref q8, .int 0, .int 0, .int 0, .int 0, .ref q9, .ref q10, .null, .null, .null, .null, .long 0, .long 0, .int 0])), (q1, .inl (cs.1, 264, .inl (fun _ => 0))), (q2, .inl (cs.1, 528, .inl (fun _ => 0))), (q3, .inl (cs.2.2.1, 2, .inl (fun _ => 0))), (q4, .inl (cs.2.1, 6, .inr (.inl (fun _ => 0)))), (q5, .inl (cs.1, 400, .inl (fun _ => 0))), (q6, .inl (cs.1, 6, .inl (fun _ => 0))), (q7, .inl (cs.1, 36, .inl (fun _ => 0))), (q8, .inl (cs.1, 48, .inl (fun _ => 0))), (q9, .inl (cs.1, 6, .inl (fun _ => 0))), (q10, .inl (cs.1, 8, .inl (fun _ => 0))), (q11, .inl (cs.2.1, 400, .inr (.inl (fun _ => 0))))]) rfl ?_
  refine g_putF (ci := 6) (T := TX6) (N := 29) (w2 := [(h0, .inr (6, [.int 0, .long 0, .ref q1, .ref q2, .ref q3, .ref q4, .ref q5, .int 0, .int 0, .int 0, .int 0, .int 0, .int 0, .ref q6, .ref q7, .ref q8, .int 0, .int 0, .int 0, .int 0, .ref q9, .ref q10, .ref q11, .null, .null, .null, .long 0, .long 0, .int 0])), (q1, .inl (cs.1, 264, .inl (fun _ => 0))), (q2, .inl (cs.1, 528, .inl (fun _ => 0))), (q3, .inl (cs.2.2.1, 2, .inl (fun _ => 0))), (q4, .inl (cs.2.1, 6, .inr (.inl (fun _ => 0)))), (q5, .inl (cs.1, 400, .inl (fun _ => 0))), (q6, .inl (cs.1, 6, .inl (fun _ => 0))), (q7, .inl (cs.1, 36, .inl (fun _ => 0))), (q8, .inl (cs.1, 48, .inl (fun _ => 0))), (q9, .inl (cs.1, 6, .inl (fun _ => 0))), (q10, .inl (cs.1, 8, .inl (fun _ => 0))), (q11, .inl (cs.2.1, 400, .inr (.inl (fun _ => 0))))]) 0 22 (.ref q11) tyX6 hI dX6_init_92 iX6_init_X6 tyX6_ok nmX6 rfl jX6_init_42 (by decide) rfl rfl rfl rfl rfl rfl (Nat.le_of_ble_eq_true rfl) rfl ?_
  refine g_aload_n 0 dX6_init_95 rfl rfl ?_
  refine g_bipush (v := 100) dX6_init_96 (by decide) ?_
  refine g_newJ (N := 100) hty dX6_init_98 acX6_init_J (by decide) (by decide) (by decide) ⟨by decide, by decide⟩ (fun q12 => ?_)
  refine g_cast rfl rfl rfl (w2 := [(h0, .inr (6, [.int 0, .long 0, .ref q1, .ref q2, .ref q3, .ref q4, .ref q5, .int 0, .int 0, .int 0, .int 0, .int 0, .int 0, .ref q6, .ref q7, .ref q8, .int 0, .int 0, .int 0, .int 0, .ref q9, .ref q10, .ref q11, .null, .null, .null, .long 0, .long 0, .int 0])), (q1, .inl (cs.1, 264, .inl (fun _ => 0))), (q2, .inl (cs.1, 528, .inl (fun _ => 0))), (q3, .inl (cs.2.2.1, 2, .inl (fun _ => 0))), (q4, .inl (cs.2.1, 6, .inr (.inl (fun _ => 0)))), (q5, .inl (cs.1, 400, .inl (fun _ => 0))), (q6, .inl (cs.1, 6, .inl (fun _ => 0))), (q7, .inl (cs.1, 36, .inl (fun _ => 0))), (q8, .inl (cs.1, 48, .inl (fun _ => 0))), (q9, .inl (cs.1, 6, .inl (fun _ => 0))), (q10, .inl (cs.1, 8, .inl (fun _ => 0))), (q11, .inl (cs.2.1, 400, .inr (.inl (fun _ => 0)))), (q12, .inl (cs.2.1, 100, .inr (.inl (fun _ => 0))))]) rfl ?_
  refine g_putF (ci := 6) (T := TX6) (N := 29) (w2 := [(h0, .inr (6, [.int 0, .long 0, .ref q1, .ref q2, .ref q3, .ref q4, .ref q5, .int 0, .int 0, .int 0, .int 0, .int 0, .int 0, .ref q6, .ref q7, .ref q8, .int 0, .int 0, .int 0, .int 0, .ref q9, .ref q10, .ref q11, .ref q12, .null, .null, .long 0, .long 0, .int 0])), (q1, .inl (cs.1, 264, .inl (fun _ => 0))), (q2, .inl (cs.1, 528, .inl (fun _ => 0))), (q3, .inl (cs.2.2.1, 2, .inl (fun _ => 0))), (q4, .inl (cs.2.1, 6, .inr (.inl (fun _ => 0)))), (q5, .inl (cs.1, 400, .inl (fun _ => 0))), (q6, .inl (cs.1, 6, .inl (fun _ => 0))), (q7, .inl (cs.1, 36, .inl (fun _ => 0))), (q8, .inl (cs.1, 48, .inl (fun _ => 0))), (q9, .inl (cs.1, 6, .inl (fun _ => 0))), (q10, .inl (cs.1, 8, .inl (fun _ => 0))), (q11, .inl (cs.2.1, 400, .inr (.inl (fun _ => 0)))), (q12, .inl (cs.2.1, 100, .inr (.inl (fun _ => 0))))]) 0 23 (.ref q12) tyX6 hI dX6_init_100 iX6_init_X6 tyX6_ok nmX6 rfl jX6_init_45 (by decide) rfl rfl rfl rfl rfl rfl (Nat.le_of_ble_eq_true rfl) rfl ?_
  refine g_aload_n 0 dX6_init_103 rfl rfl ?_
  refine g_bipush (v := 100) dX6_init_104 (by decide) ?_
  refine g_newI (N := 100) hty dX6_init_106 acX6_init_I (by decide) (by decide) (by decide) ⟨by decide, by decide⟩ (fun q13 => ?_)
  refine g_cast rfl rfl rfl (w2 := [(h0, .inr (6, [.int 0, .long 0, .ref q1, .ref q2, .ref q3, .ref q4, .ref q5, .int 0, .int 0, .int 0, .int 0, .int 0, .int 0, .ref q6, .ref q7, .ref q8, .int 0, .int 0, .int 0, .int 0, .ref q9, .ref q10, .ref q11, .ref q12, .null, .null, .long 0, .long 0, .int 0])), (q1, .inl (cs.1, 264, .inl (fun _ => 0))), (q2, .inl (cs.1, 528, .inl (fun _ => 0))), (q3, .inl (cs.2.2.1, 2, .inl (fun _ => 0))), (q4, .inl (cs.2.1, 6, .inr (.inl (fun _ => 0)))), (q5, .inl (cs.1, 400, .inl (fun _ => 0))), (q6, .inl (cs.1, 6, .inl (fun _ => 0))), (q7, .inl (cs.1, 36, .inl (fun _ => 0))), (q8, .inl (cs.1, 48, .inl (fun _ => 0))), (q9, .inl (cs.1, 6, .inl (fun _ => 0))), (q10, .inl (cs.1, 8, .inl (fun _ => 0))), (q11, .inl (cs.2.1, 400, .inr (.inl (fun _ => 0)))), (q12, .inl (cs.2.1, 100, .inr (.inl (fun _ => 0)))), (q13, .inl (cs.1, 100, .inl (fun _ => 0)))]) rfl ?_
  refine g_putF (ci := 6) (T := TX6) (N := 29) (w2 := [(h0, .inr (6, [.int 0, .long 0, .ref q1, .ref q2, .ref q3, .ref q4, .ref q5, .int 0, .int 0, .int 0, .int 0, .int 0, .int 0, .ref q6, .ref q7, .ref q8, .int 0, .int 0, .int 0, .int 0, .ref q9, .ref q10, .ref q11, .ref q12, .ref q13, .null, .long 0, .long 0, .int 0])), (q1, .inl (cs.1, 264, .inl (fun _ => 0))), (q2, .inl (cs.1, 528, .inl (fun _ => 0))), (q3, .inl (cs.2.2.1, 2, .inl (fun _ => 0))), (q4, .inl (cs.2.1, 6, .inr (.inl (fun _ => 0)))), (q5, .inl (cs.1, 400, .inl (fun _ => 0))), (q6, .inl (cs.1, 6, .inl (fun _ => 0))), (q7, .inl (cs.1, 36, .inl (fun _ => 0))), (q8, .inl (cs.1, 48, .inl (fun _ => 0))), (q9, .inl (cs.1, 6, .inl (fun _ => 0))), (q10, .inl (cs.1, 8, .inl (fun _ => 0))), (q11, .inl (cs.2.1, 400, .inr (.inl (fun _ => 0)))), (q12, .inl (cs.2.1, 100, .inr (.inl (fun _ => 0)))), (q13, .inl (cs.1, 100, .inl (fun _ => 0)))]) 0 24 (.ref q13) tyX6 hI dX6_init_108 iX6_init_X6 tyX6_ok nmX6 rfl jX6_init_48 (by decide) rfl rfl rfl rfl rfl rfl (Nat.le_of_ble_eq_true rfl) rfl ?_
  refine g_aload_n 0 dX6_init_111 rfl rfl ?_
  refine g_bipush (v := 20) dX6_init_112 (by decide) ?_
  refine g_newI (N := 20) hty dX6_init_114 acX6_init_I (by decide) (by decide) (by decide) ⟨by decide, by decide⟩ (fun q14 => ?_)
  refine g_cast rfl rfl rfl (w2 := [(h0, .inr (6, [.int 0, .long 0, .ref q1, .ref q2, .ref q3, .ref q4, .ref q5, .int 0, .int 0, .int 0, .int 0, .int 0, .int 0, .ref q6, .ref q7, .ref q8, .int 0, .int 0, .int 0, .int 0, .ref q9, .ref q10, .ref q11, .ref q12, .ref q13, .null, .long 0, .long 0, .int 0])), (q1, .inl (cs.1, 264, .inl (fun _ => 0))), (q2, .inl (cs.1, 528, .inl (fun _ => 0))), (q3, .inl (cs.2.2.1, 2, .inl (fun _ => 0))), (q4, .inl (cs.2.1, 6, .inr (.inl (fun _ => 0)))), (q5, .inl (cs.1, 400, .inl (fun _ => 0))), (q6, .inl (cs.1, 6, .inl (fun _ => 0))), (q7, .inl (cs.1, 36, .inl (fun _ => 0))), (q8, .inl (cs.1, 48, .inl (fun _ => 0))), (q9, .inl (cs.1, 6, .inl (fun _ => 0))), (q10, .inl (cs.1, 8, .inl (fun _ => 0))), (q11, .inl (cs.2.1, 400, .inr (.inl (fun _ => 0)))), (q12, .inl (cs.2.1, 100, .inr (.inl (fun _ => 0)))), (q13, .inl (cs.1, 100, .inl (fun _ => 0))), (q14, .inl (cs.1, 20, .inl (fun _ => 0)))]) rfl ?_
  refine g_putF (ci := 6) (T := TX6) (N := 29) (w2 := [(h0, .inr (6, [.int 0, .long 0, .ref q1, .ref q2, .ref q3, .ref q4, .ref q5, .int 0, .int 0, .int 0, .int 0, .int 0, .int 0, .ref q6, .ref q7, .ref q8, .int 0, .int 0, .int 0, .int 0, .ref q9, .ref q10, .ref q11, .ref q12, .ref q13, .ref q14, .long 0, .long 0, .int 0])), (q1, .inl (cs.1, 264, .inl (fun _ => 0))), (q2, .inl (cs.1, 528, .inl (fun _ => 0))), (q3, .inl (cs.2.2.1, 2, .inl (fun _ => 0))), (q4, .inl (cs.2.1, 6, .inr (.inl (fun _ => 0)))), (q5, .inl (cs.1, 400, .inl (fun _ => 0))), (q6, .inl (cs.1, 6, .inl (fun _ => 0))), (q7, .inl (cs.1, 36, .inl (fun _ => 0))), (q8, .inl (cs.1, 48, .inl (fun _ => 0))), (q9, .inl (cs.1, 6, .inl (fun _ => 0))), (q10, .inl (cs.1, 8, .inl (fun _ => 0))), (q11, .inl (cs.2.1, 400, .inr (.inl (fun _ => 0)))), (q12, .inl (cs.2.1, 100, .inr (.inl (fun _ => 0)))), (q13, .inl (cs.1, 100, .inl (fun _ => 0))), (q14, .inl (cs.1, 20, .inl (fun _ => 0)))]) 0 25 (.ref q14) tyX6 hI dX6_init_116 iX6_init_X6 tyX6_ok nmX6 rfl jX6_init_51 (by decide) rfl rfl rfl rfl rfl rfl (Nat.le_of_ble_eq_true rfl) rfl ?_
  refine g_cast rfl rfl rfl (w2 := wO cs (fun k => ([h0, q1, q2, q3, q4, q5, q6, q7, q8, q9, q10, q11, q12, q13, q14] : List Nat).getD k 0) O00) rfl ?_
  exact c_X6_init_t (ad := (fun k => ([h0, q1, q2, q3, q4, q5, q6, q7, q8, q9, q10, q11, q12, q13, q14] : List Nat).getD k 0)) hty (fun pc lv hd => hr pc lv (fun k => ([h0, q1, q2, q3, q4, q5, q6, q7, q8, q9, q10, q11, q12, q13, q14] : List Nat).getD k 0) rfl hd) hv
