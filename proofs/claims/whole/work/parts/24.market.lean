-- ThumbScale$Market empty ()V
def rmX2_empty : Room := { frames := 0, cells := 0, slots := 0, locals := 0 }
def kX2_empty : MK := (cX2_empty, 1, RX2, wsX2_empty, none, rmX2_empty)

set_option maxRecDepth 20000 in
theorem jX2_empty_36 : Cond.fieldLink RX2 36 (TX2 0).1 (TX2 0).2.1 (TX2 0).2.2.1 ∈ wsX2_empty := by decide +kernel
set_option maxRecDepth 20000 in
theorem iX2_empty_X2 : ∀ x ∈ u_ws RX2 TX2 12, x ∈ wsX2_empty := by decide +kernel
set_option maxRecDepth 20000 in
theorem jX2_empty_40 : Cond.fieldLink RX2 40 (TX2 1).1 (TX2 1).2.1 (TX2 1).2.2.1 ∈ wsX2_empty := by decide +kernel
set_option maxRecDepth 20000 in
theorem jX2_empty_43 : Cond.fieldLink RX2 43 (TX2 2).1 (TX2 2).2.1 (TX2 2).2.2.1 ∈ wsX2_empty := by decide +kernel
set_option maxRecDepth 20000 in
theorem jX2_empty_46 : Cond.fieldLink RX2 46 (TX2 3).1 (TX2 3).2.1 (TX2 3).2.2.1 ∈ wsX2_empty := by decide +kernel
set_option maxRecDepth 20000 in
theorem jX2_empty_49 : Cond.fieldLink RX2 49 (TX2 7).1 (TX2 7).2.1 (TX2 7).2.2.1 ∈ wsX2_empty := by decide +kernel
def f_X2_empty (F : Nat) (s : SM) : Option SM :=
    olt (uM_less s (2 : Int32)) (fun s1 =>
    olt (uM_just s1 (6 : Int32)) (fun s2 =>
    olt (uM_more s2 (2 : Int32)) (fun s3 =>
    olt (uM_stalls s3 (0 : Int32)) (fun s4 =>
    olt (uM_ways s4 (0 : Int32)) (fun s5 =>
    some s5)))))

set_option maxHeartbeats 4000000 in
set_option maxRecDepth 100000 in
theorem c_X2_empty {l : Launch} {D : va_G} {tys : List (ClassId × FieldType)} {X : XT} {cs : CS} (ad : Nat → Nat) {F : Nat} {s : SM} {r : SM} (htyM : tys = tyA cs) (hf : f_X2_empty F s = some r) : Cv l D tys X yX2_empty wsX2_empty rmX2_empty [.ref (ad 0)] (wM cs ad s) (wM cs ad r) := by
  refine Cv_ofG (by decide +kernel) rfl (Nat.le_of_ble_eq_true rfl) (fun E _ _ hty0 hX0 hr => ?_)
  have hty := hty0.trans htyM
  have hr : Rv E kX2_empty (wM cs ad r) := hr
  show G E kX2_empty 0 0 0 [(0, .ref (ad 0))] [] (wM cs ad s)
  unfold f_X2_empty at hf
  refine g_aload_n 0 dX2_empty_0 rfl rfl ?_
  refine g_iconst (v := (2 : Int32)) dX2_empty_1 (by decide) ?_
  obtain ⟨s1, e_s1, hf⟩ := olt_some hf
  refine g_put (ci := 2) (T := TX2) (N := 12) (ty := .int) (w2 := (wM cs ad s1)) 0 0 (.int (2 : Int32)) tyX2 dX2_empty_2 iX2_empty_X2 tyX2_ok nmX2 rfl jX2_empty_36 (by decide) rfl rfl rfl rfl wlaM_0 (Nat.le_of_ble_eq_true rfl) (wlpM_0_0.trans (congrArg (wM cs ad) e_s1)) ?_
  refine g_aload_n 0 dX2_empty_5 rfl rfl ?_
  refine g_bipush (v := (6 : Int32)) dX2_empty_6 (by decide) ?_
  obtain ⟨s2, e_s2, hf⟩ := olt_some hf
  refine g_put (ci := 2) (T := TX2) (N := 12) (ty := .int) (w2 := (wM cs ad s2)) 0 1 (.int (6 : Int32)) tyX2 dX2_empty_8 iX2_empty_X2 tyX2_ok nmX2 rfl jX2_empty_40 (by decide) rfl rfl rfl rfl wlaM_0 (Nat.le_of_ble_eq_true rfl) (wlpM_0_1.trans (congrArg (wM cs ad) e_s2)) ?_
  refine g_aload_n 0 dX2_empty_11 rfl rfl ?_
  refine g_iconst (v := (2 : Int32)) dX2_empty_12 (by decide) ?_
  obtain ⟨s3, e_s3, hf⟩ := olt_some hf
  refine g_put (ci := 2) (T := TX2) (N := 12) (ty := .int) (w2 := (wM cs ad s3)) 0 2 (.int (2 : Int32)) tyX2 dX2_empty_13 iX2_empty_X2 tyX2_ok nmX2 rfl jX2_empty_43 (by decide) rfl rfl rfl rfl wlaM_0 (Nat.le_of_ble_eq_true rfl) (wlpM_0_2.trans (congrArg (wM cs ad) e_s3)) ?_
  refine g_aload_n 0 dX2_empty_16 rfl rfl ?_
  refine g_iconst (v := (0 : Int32)) dX2_empty_17 (by decide) ?_
  obtain ⟨s4, e_s4, hf⟩ := olt_some hf
  refine g_put (ci := 2) (T := TX2) (N := 12) (ty := .int) (w2 := (wM cs ad s4)) 0 3 (.int (0 : Int32)) tyX2 dX2_empty_18 iX2_empty_X2 tyX2_ok nmX2 rfl jX2_empty_46 (by decide) rfl rfl rfl rfl wlaM_0 (Nat.le_of_ble_eq_true rfl) (wlpM_0_3.trans (congrArg (wM cs ad) e_s4)) ?_
  refine g_aload_n 0 dX2_empty_21 rfl rfl ?_
  refine g_iconst (v := (0 : Int32)) dX2_empty_22 (by decide) ?_
  obtain ⟨s5, e_s5, hf⟩ := olt_some hf
  refine g_put (ci := 2) (T := TX2) (N := 12) (ty := .int) (w2 := (wM cs ad s5)) 0 7 (.int (0 : Int32)) tyX2 dX2_empty_23 iX2_empty_X2 tyX2_ok nmX2 rfl jX2_empty_49 (by decide) rfl rfl rfl rfl wlaM_0 (Nat.le_of_ble_eq_true rfl) (wlpM_0_7.trans (congrArg (wM cs ad) e_s5)) ?_
  obtain rfl := Option.some.inj hf
  exact hr _ _ dX2_empty_26

-- ThumbScale$Market addStall (III)V
def rmX2_addStall : Room := { frames := 0, cells := 0, slots := 0, locals := 0 }
def kX2_addStall : MK := (cX2_addStall, 4, RX2, wsX2_addStall, none, rmX2_addStall)

set_option maxRecDepth 20000 in
theorem jX2_addStall_46 : Cond.fieldLink RX2 46 (TX2 3).1 (TX2 3).2.1 (TX2 3).2.2.1 ∈ wsX2_addStall := by decide +kernel
set_option maxRecDepth 20000 in
theorem iX2_addStall_X2 : ∀ x ∈ u_ws RX2 TX2 12, x ∈ wsX2_addStall := by decide +kernel
set_option maxRecDepth 20000 in
theorem jX2_addStall_9 : Cond.fieldLink RX2 9 (TX2 4).1 (TX2 4).2.1 (TX2 4).2.2.1 ∈ wsX2_addStall := by decide +kernel
set_option maxRecDepth 20000 in
theorem jX2_addStall_15 : Cond.fieldLink RX2 15 (TX2 5).1 (TX2 5).2.1 (TX2 5).2.2.1 ∈ wsX2_addStall := by decide +kernel
set_option maxRecDepth 20000 in
theorem jX2_addStall_18 : Cond.fieldLink RX2 18 (TX2 6).1 (TX2 6).2.1 (TX2 6).2.2.1 ∈ wsX2_addStall := by decide +kernel
def f_X2_addStall (F : Nat) (s : SM) (a1 : Int32) (a2 : Int32) (a3 : Int32) : Option SM :=
    (if (6 : Int32) ≤ (M_stalls s) then
    some s
    else
    ochi (M_stalls s) 6 (olt (uM_step s (upd (M_step s) (Int32.toNatClampNeg (M_stalls s)) a1)) (fun s3 =>
    ochi (M_stalls s3) 6 (olt (uM_dry s3 (upd (M_dry s3) (Int32.toNatClampNeg (M_stalls s3)) a2)) (fun s5 =>
    ochi (M_stalls s5) 6 (olt (uM_price s5 (upd (M_price s5) (Int32.toNatClampNeg (M_stalls s5)) a3)) (fun s7 =>
    olt ((M_stalls s7) + (1 : Int32)) (fun z8 =>
    olt (uM_stalls s7 z8) (fun s9 =>
    some s9)))))))))

set_option maxHeartbeats 4000000 in
set_option maxRecDepth 100000 in
theorem c_X2_addStall {l : Launch} {D : va_G} {tys : List (ClassId × FieldType)} {X : XT} {cs : CS} (ad : Nat → Nat) {F : Nat} {s : SM} {a1 : Int32} {a2 : Int32} {a3 : Int32} {r : SM} (htyM : tys = tyA cs) (hf : f_X2_addStall F s a1 a2 a3 = some r) : Cv l D tys X yX2_addStall wsX2_addStall rmX2_addStall [.ref (ad 0), .int a1, .int a2, .int a3] (wM cs ad s) (wM cs ad r) := by
  refine Cv_ofG (by decide +kernel) rfl (Nat.le_of_ble_eq_true rfl) (fun E _ _ hty0 hX0 hr => ?_)
  have hty := hty0.trans htyM
  have hr : Rv E kX2_addStall (wM cs ad r) := hr
  show G E kX2_addStall 0 0 0 [(0, .ref (ad 0)), (1, .int a1), (2, .int a2), (3, .int a3)] [] (wM cs ad s)
  unfold f_X2_addStall at hf
  refine g_aload_n 0 dX2_addStall_0 rfl rfl ?_
  refine g_get (ci := 2) (T := TX2) (N := 12) 0 3 (.int (M_stalls s)) dX2_addStall_1 iX2_addStall_X2 rfl jX2_addStall_46 (by decide) wlaM_0 rfl ?_
  refine g_bipush (v := (6 : Int32)) dX2_addStall_4 (by decide) ?_
  refine g_icmp_ge (tgt := 49) dX2_addStall_6 (by decide) (fun h1 => ?_) (fun h1 => ?_)
  · have hf := ift h1 hf
    obtain rfl := Option.some.inj hf
    exact hr _ _ dX2_addStall_49
  · have hf := iff_ h1 hf
    refine g_aload_n 0 dX2_addStall_9 rfl rfl ?_
    refine g_get (ci := 2) (T := TX2) (N := 12) 0 4 (.ref (ad 1)) dX2_addStall_10 iX2_addStall_X2 rfl jX2_addStall_9 (by decide) wlaM_0 rfl ?_
    refine g_aload_n 0 dX2_addStall_13 rfl rfl ?_
    refine g_get (ci := 2) (T := TX2) (N := 12) 0 3 (.int (M_stalls s)) dX2_addStall_14 iX2_addStall_X2 rfl jX2_addStall_46 (by decide) wlaM_0 rfl ?_
    refine g_iload_n 1 dX2_addStall_17 rfl rfl ?_
    obtain ⟨h2, hf⟩ := ochi_some hf
    obtain ⟨s3, e_s3, hf⟩ := olt_some hf
    refine g_iast (w2 := (wM cs ad s3)) 1 0 dX2_addStall_18 wlaM_1 (tI hty) h2 (wlsM_1.trans (congrArg (wM cs ad) e_s3)) ?_
    refine g_aload_n 0 dX2_addStall_19 rfl rfl ?_
    refine g_get (ci := 2) (T := TX2) (N := 12) 0 5 (.ref (ad 2)) dX2_addStall_20 iX2_addStall_X2 rfl jX2_addStall_15 (by decide) wlaM_0 rfl ?_
    refine g_aload_n 0 dX2_addStall_23 rfl rfl ?_
    refine g_get (ci := 2) (T := TX2) (N := 12) 0 3 (.int (M_stalls s3)) dX2_addStall_24 iX2_addStall_X2 rfl jX2_addStall_46 (by decide) wlaM_0 rfl ?_
    refine g_iload_n 2 dX2_addStall_27 rfl rfl ?_
    obtain ⟨h4, hf⟩ := ochi_some hf
    obtain ⟨s5, e_s5, hf⟩ := olt_some hf
    refine g_iast (w2 := (wM cs ad s5)) 2 0 dX2_addStall_28 wlaM_2 (tI hty) h4 (wlsM_2.trans (congrArg (wM cs ad) e_s5)) ?_
    refine g_aload_n 0 dX2_addStall_29 rfl rfl ?_
    refine g_get (ci := 2) (T := TX2) (N := 12) 0 6 (.ref (ad 3)) dX2_addStall_30 iX2_addStall_X2 rfl jX2_addStall_18 (by decide) wlaM_0 rfl ?_
    refine g_aload_n 0 dX2_addStall_33 rfl rfl ?_
    refine g_get (ci := 2) (T := TX2) (N := 12) 0 3 (.int (M_stalls s5)) dX2_addStall_34 iX2_addStall_X2 rfl jX2_addStall_46 (by decide) wlaM_0 rfl ?_
    refine g_iload_n 3 dX2_addStall_37 rfl rfl ?_
    obtain ⟨h6, hf⟩ := ochi_some hf
    obtain ⟨s7, e_s7, hf⟩ := olt_some hf
    refine g_iast (w2 := (wM cs ad s7)) 3 0 dX2_addStall_38 wlaM_3 (tI hty) h6 (wlsM_3.trans (congrArg (wM cs ad) e_s7)) ?_
    refine g_aload_n 0 dX2_addStall_39 rfl rfl ?_
    refine g_dup dX2_addStall_40 rfl ?_
    refine g_get (ci := 2) (T := TX2) (N := 12) 0 3 (.int (M_stalls s7)) dX2_addStall_41 iX2_addStall_X2 rfl jX2_addStall_46 (by decide) wlaM_0 rfl ?_
    refine g_iconst (v := (1 : Int32)) dX2_addStall_44 (by decide) ?_
    refine g_iadd dX2_addStall_45 ?_
    obtain ⟨z8, e_z8, hf⟩ := olt_some hf
    refine g_cast rfl rfl (congrArg (fun q => Value.int q :: [.ref (ad 0)]) e_z8) rfl ?_
    obtain ⟨s9, e_s9, hf⟩ := olt_some hf
    refine g_put (ci := 2) (T := TX2) (N := 12) (ty := .int) (w2 := (wM cs ad s9)) 0 3 (.int z8) tyX2 dX2_addStall_46 iX2_addStall_X2 tyX2_ok nmX2 rfl jX2_addStall_46 (by decide) rfl rfl rfl rfl wlaM_0 (Nat.le_of_ble_eq_true rfl) (wlpM_0_3.trans (congrArg (wM cs ad) e_s9)) ?_
    obtain rfl := Option.some.inj hf
    exact hr _ _ dX2_addStall_49

-- ThumbScale$Market addWay (IIII)V
def rmX2_addWay : Room := { frames := 0, cells := 0, slots := 0, locals := 0 }
def kX2_addWay : MK := (cX2_addWay, 5, RX2, wsX2_addWay, none, rmX2_addWay)

set_option maxRecDepth 20000 in
theorem jX2_addWay_49 : Cond.fieldLink RX2 49 (TX2 7).1 (TX2 7).2.1 (TX2 7).2.2.1 ∈ wsX2_addWay := by decide +kernel
set_option maxRecDepth 20000 in
theorem iX2_addWay_X2 : ∀ x ∈ u_ws RX2 TX2 12, x ∈ wsX2_addWay := by decide +kernel
set_option maxRecDepth 20000 in
theorem jX2_addWay_21 : Cond.fieldLink RX2 21 (TX2 8).1 (TX2 8).2.1 (TX2 8).2.2.1 ∈ wsX2_addWay := by decide +kernel
set_option maxRecDepth 20000 in
theorem jX2_addWay_24 : Cond.fieldLink RX2 24 (TX2 9).1 (TX2 9).2.1 (TX2 9).2.2.1 ∈ wsX2_addWay := by decide +kernel
set_option maxRecDepth 20000 in
theorem jX2_addWay_27 : Cond.fieldLink RX2 27 (TX2 10).1 (TX2 10).2.1 (TX2 10).2.2.1 ∈ wsX2_addWay := by decide +kernel
set_option maxRecDepth 20000 in
theorem jX2_addWay_30 : Cond.fieldLink RX2 30 (TX2 11).1 (TX2 11).2.1 (TX2 11).2.2.1 ∈ wsX2_addWay := by decide +kernel
def f_X2_addWay (F : Nat) (s : SM) (a1 : Int32) (a2 : Int32) (a3 : Int32) (a4 : Int32) : Option SM :=
    (if (6 : Int32) ≤ (M_ways s) then
    some s
    else
    ochi (M_ways s) 6 (olt (uM_shape s (upd (M_shape s) (Int32.toNatClampNeg (M_ways s)) a1)) (fun s3 =>
    ochi (M_ways s3) 6 (olt (uM_grains s3 (upd (M_grains s3) (Int32.toNatClampNeg (M_ways s3)) a2)) (fun s5 =>
    ochi (M_ways s5) 6 (olt (uM_oneIn s5 (upd (M_oneIn s5) (Int32.toNatClampNeg (M_ways s5)) a3)) (fun s7 =>
    ochi (M_ways s7) 6 (olt (uM_sorts s7 (upd (M_sorts s7) (Int32.toNatClampNeg (M_ways s7)) a4)) (fun s9 =>
    olt ((M_ways s9) + (1 : Int32)) (fun z10 =>
    olt (uM_ways s9 z10) (fun s11 =>
    some s11)))))))))))

set_option maxHeartbeats 4000000 in
set_option maxRecDepth 100000 in
theorem c_X2_addWay {l : Launch} {D : va_G} {tys : List (ClassId × FieldType)} {X : XT} {cs : CS} (ad : Nat → Nat) {F : Nat} {s : SM} {a1 : Int32} {a2 : Int32} {a3 : Int32} {a4 : Int32} {r : SM} (htyM : tys = tyA cs) (hf : f_X2_addWay F s a1 a2 a3 a4 = some r) : Cv l D tys X yX2_addWay wsX2_addWay rmX2_addWay [.ref (ad 0), .int a1, .int a2, .int a3, .int a4] (wM cs ad s) (wM cs ad r) := by
  refine Cv_ofG (by decide +kernel) rfl (Nat.le_of_ble_eq_true rfl) (fun E _ _ hty0 hX0 hr => ?_)
  have hty := hty0.trans htyM
  have hr : Rv E kX2_addWay (wM cs ad r) := hr
  show G E kX2_addWay 0 0 0 [(0, .ref (ad 0)), (1, .int a1), (2, .int a2), (3, .int a3), (4, .int a4)] [] (wM cs ad s)
  unfold f_X2_addWay at hf
  refine g_aload_n 0 dX2_addWay_0 rfl rfl ?_
  refine g_get (ci := 2) (T := TX2) (N := 12) 0 7 (.int (M_ways s)) dX2_addWay_1 iX2_addWay_X2 rfl jX2_addWay_49 (by decide) wlaM_0 rfl ?_
  refine g_bipush (v := (6 : Int32)) dX2_addWay_4 (by decide) ?_
  refine g_icmp_ge (tgt := 60) dX2_addWay_6 (by decide) (fun h1 => ?_) (fun h1 => ?_)
  · have hf := ift h1 hf
    obtain rfl := Option.some.inj hf
    exact hr _ _ dX2_addWay_60
  · have hf := iff_ h1 hf
    refine g_aload_n 0 dX2_addWay_9 rfl rfl ?_
    refine g_get (ci := 2) (T := TX2) (N := 12) 0 8 (.ref (ad 4)) dX2_addWay_10 iX2_addWay_X2 rfl jX2_addWay_21 (by decide) wlaM_0 rfl ?_
    refine g_aload_n 0 dX2_addWay_13 rfl rfl ?_
    refine g_get (ci := 2) (T := TX2) (N := 12) 0 7 (.int (M_ways s)) dX2_addWay_14 iX2_addWay_X2 rfl jX2_addWay_49 (by decide) wlaM_0 rfl ?_
    refine g_iload_n 1 dX2_addWay_17 rfl rfl ?_
    obtain ⟨h2, hf⟩ := ochi_some hf
    obtain ⟨s3, e_s3, hf⟩ := olt_some hf
    refine g_iast (w2 := (wM cs ad s3)) 4 0 dX2_addWay_18 wlaM_4 (tI hty) h2 (wlsM_4.trans (congrArg (wM cs ad) e_s3)) ?_
    refine g_aload_n 0 dX2_addWay_19 rfl rfl ?_
    refine g_get (ci := 2) (T := TX2) (N := 12) 0 9 (.ref (ad 5)) dX2_addWay_20 iX2_addWay_X2 rfl jX2_addWay_24 (by decide) wlaM_0 rfl ?_
    refine g_aload_n 0 dX2_addWay_23 rfl rfl ?_
    refine g_get (ci := 2) (T := TX2) (N := 12) 0 7 (.int (M_ways s3)) dX2_addWay_24 iX2_addWay_X2 rfl jX2_addWay_49 (by decide) wlaM_0 rfl ?_
    refine g_iload_n 2 dX2_addWay_27 rfl rfl ?_
    obtain ⟨h4, hf⟩ := ochi_some hf
    obtain ⟨s5, e_s5, hf⟩ := olt_some hf
    refine g_iast (w2 := (wM cs ad s5)) 5 0 dX2_addWay_28 wlaM_5 (tI hty) h4 (wlsM_5.trans (congrArg (wM cs ad) e_s5)) ?_
    refine g_aload_n 0 dX2_addWay_29 rfl rfl ?_
    refine g_get (ci := 2) (T := TX2) (N := 12) 0 10 (.ref (ad 6)) dX2_addWay_30 iX2_addWay_X2 rfl jX2_addWay_27 (by decide) wlaM_0 rfl ?_
    refine g_aload_n 0 dX2_addWay_33 rfl rfl ?_
    refine g_get (ci := 2) (T := TX2) (N := 12) 0 7 (.int (M_ways s5)) dX2_addWay_34 iX2_addWay_X2 rfl jX2_addWay_49 (by decide) wlaM_0 rfl ?_
    refine g_iload_n 3 dX2_addWay_37 rfl rfl ?_
    obtain ⟨h6, hf⟩ := ochi_some hf
    obtain ⟨s7, e_s7, hf⟩ := olt_some hf
    refine g_iast (w2 := (wM cs ad s7)) 6 0 dX2_addWay_38 wlaM_6 (tI hty) h6 (wlsM_6.trans (congrArg (wM cs ad) e_s7)) ?_
    refine g_aload_n 0 dX2_addWay_39 rfl rfl ?_
    refine g_get (ci := 2) (T := TX2) (N := 12) 0 11 (.ref (ad 7)) dX2_addWay_40 iX2_addWay_X2 rfl jX2_addWay_30 (by decide) wlaM_0 rfl ?_
    refine g_aload_n 0 dX2_addWay_43 rfl rfl ?_
    refine g_get (ci := 2) (T := TX2) (N := 12) 0 7 (.int (M_ways s7)) dX2_addWay_44 iX2_addWay_X2 rfl jX2_addWay_49 (by decide) wlaM_0 rfl ?_
    refine g_iload 4 dX2_addWay_47 rfl ?_
    obtain ⟨h8, hf⟩ := ochi_some hf
    obtain ⟨s9, e_s9, hf⟩ := olt_some hf
    refine g_iast (w2 := (wM cs ad s9)) 7 0 dX2_addWay_49 wlaM_7 (tI hty) h8 (wlsM_7.trans (congrArg (wM cs ad) e_s9)) ?_
    refine g_aload_n 0 dX2_addWay_50 rfl rfl ?_
    refine g_dup dX2_addWay_51 rfl ?_
    refine g_get (ci := 2) (T := TX2) (N := 12) 0 7 (.int (M_ways s9)) dX2_addWay_52 iX2_addWay_X2 rfl jX2_addWay_49 (by decide) wlaM_0 rfl ?_
    refine g_iconst (v := (1 : Int32)) dX2_addWay_55 (by decide) ?_
    refine g_iadd dX2_addWay_56 ?_
    obtain ⟨z10, e_z10, hf⟩ := olt_some hf
    refine g_cast rfl rfl (congrArg (fun q => Value.int q :: [.ref (ad 0)]) e_z10) rfl ?_
    obtain ⟨s11, e_s11, hf⟩ := olt_some hf
    refine g_put (ci := 2) (T := TX2) (N := 12) (ty := .int) (w2 := (wM cs ad s11)) 0 7 (.int z10) tyX2 dX2_addWay_57 iX2_addWay_X2 tyX2_ok nmX2 rfl jX2_addWay_49 (by decide) rfl rfl rfl rfl wlaM_0 (Nat.le_of_ble_eq_true rfl) (wlpM_0_7.trans (congrArg (wM cs ad) e_s11)) ?_
    obtain rfl := Option.some.inj hf
    exact hr _ _ dX2_addWay_60

-- ThumbScale$Market nearestSteps (II)I
def rmX2_nearestSteps : Room := { frames := 1, cells := 0, slots := 0, locals := 22 }
def kX2_nearestSteps : MK := (cX2_nearestSteps, 4, RX2, wsX2_nearestSteps, (some .int), rmX2_nearestSteps)

set_option maxRecDepth 20000 in
theorem jX2_nearestSteps_9 : Cond.fieldLink RX2 9 (TX2 4).1 (TX2 4).2.1 (TX2 4).2.2.1 ∈ wsX2_nearestSteps := by decide +kernel
set_option maxRecDepth 20000 in
theorem iX2_nearestSteps_X2 : ∀ x ∈ u_ws RX2 TX2 12, x ∈ wsX2_nearestSteps := by decide +kernel
set_option maxRecDepth 20000 in
theorem vX2_nearestSteps_52 : KS kX2_nearestSteps 52 yJ9_floorDiv_7cf53 wsJ9_floorDiv_7cf53 rmJ9_floorDiv_7cf53 2 := ⟨_, _, _, _, gX2_nearestSteps_J9_floorDiv_7cf53, rfl, rfl, rfl, by decide +kernel, ⟨by decide, by decide⟩⟩
def f_X2_nearestSteps (F : Nat) (s : SM) (a1 : Int32) (a2 : Int32) : Option Int32 :=
    ochi a1 6 (
    (if 0 < ((M_step s) (Int32.toNatClampNeg a1)) then
    obd (f_J9_floorDiv_7cf53 F (((2 : Int32) * a2) + ((M_step s) (Int32.toNatClampNeg a1))) ((2 : Int32) * ((M_step s) (Int32.toNatClampNeg a1)))) (fun v3 =>
    some v3)
    else
    some (0 : Int32)))

set_option maxHeartbeats 4000000 in
set_option maxRecDepth 100000 in
theorem c_X2_nearestSteps {l : Launch} {D : va_G} {tys : List (ClassId × FieldType)} {X : XT} {cs : CS} (ad : Nat → Nat) {F : Nat} {s : SM} {a1 : Int32} {a2 : Int32} {r : Int32} (htyM : tys = tyA cs) (hf : f_X2_nearestSteps F s a1 a2 = some r) : Ci l D tys X yX2_nearestSteps wsX2_nearestSteps rmX2_nearestSteps [.ref (ad 0), .int a1, .int a2] (wM cs ad s) r (wM cs ad s) := by
  refine Ci_ofG (by decide +kernel) rfl (Nat.le_of_ble_eq_true rfl) .int rfl (vp_nar_int _) (fun E _ _ hty0 hX0 hr => ?_)
  have hty := hty0.trans htyM
  have hr : Ri E kX2_nearestSteps r (wM cs ad s) := hr
  show G E kX2_nearestSteps 0 0 0 [(0, .ref (ad 0)), (1, .int a1), (2, .int a2)] [] (wM cs ad s)
  unfold f_X2_nearestSteps at hf
  refine g_aload_n 0 dX2_nearestSteps_0 rfl rfl ?_
  refine g_get (ci := 2) (T := TX2) (N := 12) 0 4 (.ref (ad 1)) dX2_nearestSteps_1 iX2_nearestSteps_X2 rfl jX2_nearestSteps_9 (by decide) wlaM_0 rfl ?_
  refine g_iload_n 1 dX2_nearestSteps_4 rfl rfl ?_
  obtain ⟨h1, hf⟩ := ochi_some hf
  refine g_iald 1 0 dX2_nearestSteps_5 wlaM_1 (tI hty) h1 ?_
  refine g_istore_n (lv2 := [(3, .int ((M_step s) (Int32.toNatClampNeg a1))), (0, .ref (ad 0)), (1, .int a1), (2, .int a2)]) dX2_nearestSteps_6 rfl (by decide) rfl ?_
  refine g_iload_n 0 dX2_nearestSteps_7 rfl rfl ?_
  refine g_if_gt (tgt := 15) dX2_nearestSteps_8 (by decide) (fun h2 => ?_) (fun h2 => ?_)
  · have hf := ift h2 hf
    refine g_iconst (v := (2 : Int32)) dX2_nearestSteps_15 (by decide) ?_
    refine g_iload_n 3 dX2_nearestSteps_16 rfl rfl ?_
    refine g_imul dX2_nearestSteps_17 ?_
    refine g_iload_n 0 dX2_nearestSteps_18 rfl rfl ?_
    refine g_iadd dX2_nearestSteps_19 ?_
    refine g_iconst (v := (2 : Int32)) dX2_nearestSteps_20 (by decide) ?_
    refine g_iload_n 0 dX2_nearestSteps_21 rfl rfl ?_
    refine g_imul dX2_nearestSteps_22 ?_
    obtain ⟨v3, hc4, hf⟩ := obd_some hf
    refine g_callSi (As := [.int (((2 : Int32) * a2) + ((M_step s) (Int32.toNatClampNeg a1))), .int ((2 : Int32) * ((M_step s) (Int32.toNatClampNeg a1)))]) (rest := []) (w2 := (wM cs ad s)) 0 dX2_nearestSteps_23 vX2_nearestSteps_52 (c_J9_floorDiv_7cf53 hty hc4) rfl (midm _) rfl (Nat.le_of_ble_eq_true rfl) ⟨Nat.zero_le _, Nat.zero_le _⟩ (midn _) ?_
    obtain rfl := Option.some.inj hf
    exact hr _ _ dX2_nearestSteps_26
  · have hf := iff_ h2 hf
    refine g_iconst (v := (0 : Int32)) dX2_nearestSteps_11 (by decide) ?_
    refine g_goto (tgt := 26) dX2_nearestSteps_12 (by decide) ?_
    obtain rfl := Option.some.inj hf
    exact hr _ _ dX2_nearestSteps_26

-- ThumbScale$Market tenthsFrom (I)I
def rmX2_tenthsFrom : Room := { frames := 0, cells := 0, slots := 0, locals := 0 }
def kX2_tenthsFrom : MK := (cX2_tenthsFrom, 2, RX2, wsX2_tenthsFrom, (some .int), rmX2_tenthsFrom)

set_option maxRecDepth 20000 in
theorem jX2_tenthsFrom_43 : Cond.fieldLink RX2 43 (TX2 2).1 (TX2 2).2.1 (TX2 2).2.2.1 ∈ wsX2_tenthsFrom := by decide +kernel
set_option maxRecDepth 20000 in
theorem iX2_tenthsFrom_X2 : ∀ x ∈ u_ws RX2 TX2 12, x ∈ wsX2_tenthsFrom := by decide +kernel
set_option maxRecDepth 20000 in
theorem jX2_tenthsFrom_40 : Cond.fieldLink RX2 40 (TX2 1).1 (TX2 1).2.1 (TX2 1).2.2.1 ∈ wsX2_tenthsFrom := by decide +kernel
set_option maxRecDepth 20000 in
theorem jX2_tenthsFrom_36 : Cond.fieldLink RX2 36 (TX2 0).1 (TX2 0).2.1 (TX2 0).2.2.1 ∈ wsX2_tenthsFrom := by decide +kernel
def f_X2_tenthsFrom (F : Nat) (s : SM) (a1 : Int32) : Option Int32 :=
    (if (-1 : Int32) < a1 then
    (if a1 = 0 then
    some ((M_just s) + (M_more s))
    else
    (if a1 = (1 : Int32) then
    some (M_more s)
    else
    some (0 : Int32)))
    else
    some (((M_less s) + (M_just s)) + (M_more s)))

set_option maxHeartbeats 4000000 in
set_option maxRecDepth 100000 in
theorem c_X2_tenthsFrom {l : Launch} {D : va_G} {tys : List (ClassId × FieldType)} {X : XT} {cs : CS} (ad : Nat → Nat) {F : Nat} {s : SM} {a1 : Int32} {r : Int32} (htyM : tys = tyA cs) (hf : f_X2_tenthsFrom F s a1 = some r) : Ci l D tys X yX2_tenthsFrom wsX2_tenthsFrom rmX2_tenthsFrom [.ref (ad 0), .int a1] (wM cs ad s) r (wM cs ad s) := by
  refine Ci_ofG (by decide +kernel) rfl (Nat.le_of_ble_eq_true rfl) .int rfl (vp_nar_int _) (fun E _ _ hty0 hX0 hr => ?_)
  have hty := hty0.trans htyM
  have hr : Ri E kX2_tenthsFrom r (wM cs ad s) := hr
  show G E kX2_tenthsFrom 0 0 0 [(0, .ref (ad 0)), (1, .int a1)] [] (wM cs ad s)
  unfold f_X2_tenthsFrom at hf
  refine g_iload_n 1 dX2_tenthsFrom_0 rfl rfl ?_
  refine g_iconst (v := (-1 : Int32)) dX2_tenthsFrom_1 (by decide) ?_
  refine g_icmp_gt (tgt := 20) dX2_tenthsFrom_2 (by decide) (fun h1 => ?_) (fun h1 => ?_)
  · have hf := ift h1 hf
    refine g_iload_n 1 dX2_tenthsFrom_20 rfl rfl ?_
    refine g_if_ne (tgt := 34) dX2_tenthsFrom_21 (by decide) (fun h2 => ?_) (fun h2 => ?_)
    · have hf := iff_ h2 hf
      refine g_iload_n 1 dX2_tenthsFrom_34 rfl rfl ?_
      refine g_iconst (v := (1 : Int32)) dX2_tenthsFrom_35 (by decide) ?_
      refine g_icmp_ne (tgt := 46) dX2_tenthsFrom_36 (by decide) (fun h3 => ?_) (fun h3 => ?_)
      · have hf := iff_ h3 hf
        refine g_iconst (v := (0 : Int32)) dX2_tenthsFrom_46 (by decide) ?_
        obtain rfl := Option.some.inj hf
        exact hr _ _ dX2_tenthsFrom_47
      · have hf := ift h3 hf
        refine g_aload_n 0 dX2_tenthsFrom_39 rfl rfl ?_
        refine g_get (ci := 2) (T := TX2) (N := 12) 0 2 (.int (M_more s)) dX2_tenthsFrom_40 iX2_tenthsFrom_X2 rfl jX2_tenthsFrom_43 (by decide) wlaM_0 rfl ?_
        refine g_goto (tgt := 47) dX2_tenthsFrom_43 (by decide) ?_
        obtain rfl := Option.some.inj hf
        exact hr _ _ dX2_tenthsFrom_47
    · have hf := ift h2 hf
      refine g_aload_n 0 dX2_tenthsFrom_24 rfl rfl ?_
      refine g_get (ci := 2) (T := TX2) (N := 12) 0 1 (.int (M_just s)) dX2_tenthsFrom_25 iX2_tenthsFrom_X2 rfl jX2_tenthsFrom_40 (by decide) wlaM_0 rfl ?_
      refine g_aload_n 0 dX2_tenthsFrom_28 rfl rfl ?_
      refine g_get (ci := 2) (T := TX2) (N := 12) 0 2 (.int (M_more s)) dX2_tenthsFrom_29 iX2_tenthsFrom_X2 rfl jX2_tenthsFrom_43 (by decide) wlaM_0 rfl ?_
      refine g_iadd dX2_tenthsFrom_32 ?_
      obtain rfl := Option.some.inj hf
      exact hr _ _ dX2_tenthsFrom_33
  · have hf := iff_ h1 hf
    refine g_aload_n 0 dX2_tenthsFrom_5 rfl rfl ?_
    refine g_get (ci := 2) (T := TX2) (N := 12) 0 0 (.int (M_less s)) dX2_tenthsFrom_6 iX2_tenthsFrom_X2 rfl jX2_tenthsFrom_36 (by decide) wlaM_0 rfl ?_
    refine g_aload_n 0 dX2_tenthsFrom_9 rfl rfl ?_
    refine g_get (ci := 2) (T := TX2) (N := 12) 0 1 (.int (M_just s)) dX2_tenthsFrom_10 iX2_tenthsFrom_X2 rfl jX2_tenthsFrom_40 (by decide) wlaM_0 rfl ?_
    refine g_iadd dX2_tenthsFrom_13 ?_
    refine g_aload_n 0 dX2_tenthsFrom_14 rfl rfl ?_
    refine g_get (ci := 2) (T := TX2) (N := 12) 0 2 (.int (M_more s)) dX2_tenthsFrom_15 iX2_tenthsFrom_X2 rfl jX2_tenthsFrom_43 (by decide) wlaM_0 rfl ?_
    refine g_iadd dX2_tenthsFrom_18 ?_
    obtain rfl := Option.some.inj hf
    exact hr _ _ dX2_tenthsFrom_19

-- ThumbScale$Market stepsMore (II)I
def rmX2_stepsMore : Room := { frames := 0, cells := 0, slots := 0, locals := 0 }
def kX2_stepsMore : MK := (cX2_stepsMore, 4, RX2, wsX2_stepsMore, (some .int), rmX2_stepsMore)

set_option maxRecDepth 20000 in
theorem jX2_stepsMore_9 : Cond.fieldLink RX2 9 (TX2 4).1 (TX2 4).2.1 (TX2 4).2.2.1 ∈ wsX2_stepsMore := by decide +kernel
set_option maxRecDepth 20000 in
theorem iX2_stepsMore_X2 : ∀ x ∈ u_ws RX2 TX2 12, x ∈ wsX2_stepsMore := by decide +kernel
set_option maxRecDepth 20000 in
theorem jX2_stepsMore_24 : Cond.fieldLink RX2 24 (TX2 9).1 (TX2 9).2.1 (TX2 9).2.2.1 ∈ wsX2_stepsMore := by decide +kernel
def f_X2_stepsMore (F : Nat) (s : SM) (a1 : Int32) (a2 : Int32) : Option Int32 :=
    ochi a2 6 (
    (if 0 < ((M_step s) (Int32.toNatClampNeg a2)) then
    ochi a1 6 (
    ochk (¬ ((M_step s) (Int32.toNatClampNeg a2)) = 0) (
    some (((((M_grains s) (Int32.toNatClampNeg a1)) + ((M_step s) (Int32.toNatClampNeg a2))) - (1 : Int32)) / ((M_step s) (Int32.toNatClampNeg a2)))))
    else
    some (0 : Int32)))

set_option maxHeartbeats 4000000 in
set_option maxRecDepth 100000 in
theorem c_X2_stepsMore {l : Launch} {D : va_G} {tys : List (ClassId × FieldType)} {X : XT} {cs : CS} (ad : Nat → Nat) {F : Nat} {s : SM} {a1 : Int32} {a2 : Int32} {r : Int32} (htyM : tys = tyA cs) (hf : f_X2_stepsMore F s a1 a2 = some r) : Ci l D tys X yX2_stepsMore wsX2_stepsMore rmX2_stepsMore [.ref (ad 0), .int a1, .int a2] (wM cs ad s) r (wM cs ad s) := by
  refine Ci_ofG (by decide +kernel) rfl (Nat.le_of_ble_eq_true rfl) .int rfl (vp_nar_int _) (fun E _ _ hty0 hX0 hr => ?_)
  have hty := hty0.trans htyM
  have hr : Ri E kX2_stepsMore r (wM cs ad s) := hr
  show G E kX2_stepsMore 0 0 0 [(0, .ref (ad 0)), (1, .int a1), (2, .int a2)] [] (wM cs ad s)
  unfold f_X2_stepsMore at hf
  refine g_aload_n 0 dX2_stepsMore_0 rfl rfl ?_
  refine g_get (ci := 2) (T := TX2) (N := 12) 0 4 (.ref (ad 1)) dX2_stepsMore_1 iX2_stepsMore_X2 rfl jX2_stepsMore_9 (by decide) wlaM_0 rfl ?_
  refine g_iload_n 2 dX2_stepsMore_4 rfl rfl ?_
  obtain ⟨h1, hf⟩ := ochi_some hf
  refine g_iald 1 0 dX2_stepsMore_5 wlaM_1 (tI hty) h1 ?_
  refine g_istore_n (lv2 := [(3, .int ((M_step s) (Int32.toNatClampNeg a2))), (0, .ref (ad 0)), (1, .int a1), (2, .int a2)]) dX2_stepsMore_6 rfl (by decide) rfl ?_
  refine g_iload_n 0 dX2_stepsMore_7 rfl rfl ?_
  refine g_if_gt (tgt := 15) dX2_stepsMore_8 (by decide) (fun h2 => ?_) (fun h2 => ?_)
  · have hf := ift h2 hf
    refine g_aload_n 1 dX2_stepsMore_15 rfl rfl ?_
    refine g_get (ci := 2) (T := TX2) (N := 12) 0 9 (.ref (ad 5)) dX2_stepsMore_16 iX2_stepsMore_X2 rfl jX2_stepsMore_24 (by decide) wlaM_0 rfl ?_
    refine g_iload_n 2 dX2_stepsMore_19 rfl rfl ?_
    obtain ⟨h3, hf⟩ := ochi_some hf
    refine g_iald 5 0 dX2_stepsMore_20 wlaM_5 (tI hty) h3 ?_
    refine g_iload_n 0 dX2_stepsMore_21 rfl rfl ?_
    refine g_iadd dX2_stepsMore_22 ?_
    refine g_iconst (v := (1 : Int32)) dX2_stepsMore_23 (by decide) ?_
    refine g_isub dX2_stepsMore_24 ?_
    refine g_iload_n 0 dX2_stepsMore_25 rfl rfl ?_
    obtain ⟨h4, hf⟩ := ochk_some hf
    refine g_idiv dX2_stepsMore_26 h4 ?_
    obtain rfl := Option.some.inj hf
    exact hr _ _ dX2_stepsMore_27
  · have hf := iff_ h2 hf
    refine g_iconst (v := (0 : Int32)) dX2_stepsMore_11 (by decide) ?_
    refine g_goto (tgt := 27) dX2_stepsMore_12 (by decide) ?_
    obtain rfl := Option.some.inj hf
    exact hr _ _ dX2_stepsMore_27

-- ThumbScale$Market honestly (I)I
def rmX2_honestly : Room := { frames := 0, cells := 0, slots := 0, locals := 0 }
def kX2_honestly : MK := (cX2_honestly, 2, RX2, wsX2_honestly, (some .int), rmX2_honestly)

set_option maxRecDepth 20000 in
theorem jX2_honestly_36 : Cond.fieldLink RX2 36 (TX2 0).1 (TX2 0).2.1 (TX2 0).2.2.1 ∈ wsX2_honestly := by decide +kernel
set_option maxRecDepth 20000 in
theorem iX2_honestly_X2 : ∀ x ∈ u_ws RX2 TX2 12, x ∈ wsX2_honestly := by decide +kernel
set_option maxRecDepth 20000 in
theorem jX2_honestly_40 : Cond.fieldLink RX2 40 (TX2 1).1 (TX2 1).2.1 (TX2 1).2.2.1 ∈ wsX2_honestly := by decide +kernel
set_option maxRecDepth 20000 in
theorem jX2_honestly_43 : Cond.fieldLink RX2 43 (TX2 2).1 (TX2 2).2.1 (TX2 2).2.2.1 ∈ wsX2_honestly := by decide +kernel
def f_X2_honestly (F : Nat) (s : SM) (a1 : Int32) : Option Int32 :=
    (if a1 = (-1 : Int32) then
    some ((M_less s) * (60 : Int32))
    else
    (if a1 = (0 : Int32) then
    some ((M_just s) * (60 : Int32))
    else
    (if a1 = (1 : Int32) then
    some ((M_more s) * (60 : Int32))
    else
    some (0 : Int32))))

set_option maxHeartbeats 4000000 in
set_option maxRecDepth 100000 in
theorem c_X2_honestly {l : Launch} {D : va_G} {tys : List (ClassId × FieldType)} {X : XT} {cs : CS} (ad : Nat → Nat) {F : Nat} {s : SM} {a1 : Int32} {r : Int32} (htyM : tys = tyA cs) (hf : f_X2_honestly F s a1 = some r) : Ci l D tys X yX2_honestly wsX2_honestly rmX2_honestly [.ref (ad 0), .int a1] (wM cs ad s) r (wM cs ad s) := by
  refine Ci_ofG (by decide +kernel) rfl (Nat.le_of_ble_eq_true rfl) .int rfl (vp_nar_int _) (fun E _ _ hty0 hX0 hr => ?_)
  have hty := hty0.trans htyM
  have hr : Ri E kX2_honestly r (wM cs ad s) := hr
  show G E kX2_honestly 0 0 0 [(0, .ref (ad 0)), (1, .int a1)] [] (wM cs ad s)
  unfold f_X2_honestly at hf
  refine g_iload_n 1 dX2_honestly_0 rfl rfl ?_
  by_cases h2 : a1 = (-1 : Int32)
  · have hf := ift h2 hf
    refine g_tableIn (off := 27) (tgt := 28) dX2_honestly_1 (by rw [h2] <;> decide) (by rw [h2] <;> decide) (by rw [h2] <;> decide) (by decide) ?_
    refine g_aload_n 0 dX2_honestly_28 rfl rfl ?_
    refine g_get (ci := 2) (T := TX2) (N := 12) 0 0 (.int (M_less s)) dX2_honestly_29 iX2_honestly_X2 rfl jX2_honestly_36 (by decide) wlaM_0 rfl ?_
    refine g_bipush (v := (60 : Int32)) dX2_honestly_32 (by decide) ?_
    refine g_imul dX2_honestly_34 ?_
    obtain rfl := Option.some.inj hf
    exact hr _ _ dX2_honestly_35
  · have hf := iff_ h2 hf
    by_cases h3 : a1 = (0 : Int32)
    · have hf := ift h3 hf
      refine g_tableIn (off := 35) (tgt := 36) dX2_honestly_1 (by rw [h3] <;> decide) (by rw [h3] <;> decide) (by rw [h3] <;> decide) (by decide) ?_
      refine g_aload_n 0 dX2_honestly_36 rfl rfl ?_
      refine g_get (ci := 2) (T := TX2) (N := 12) 0 1 (.int (M_just s)) dX2_honestly_37 iX2_honestly_X2 rfl jX2_honestly_40 (by decide) wlaM_0 rfl ?_
      refine g_bipush (v := (60 : Int32)) dX2_honestly_40 (by decide) ?_
      refine g_imul dX2_honestly_42 ?_
      obtain rfl := Option.some.inj hf
      exact hr _ _ dX2_honestly_43
    · have hf := iff_ h3 hf
      by_cases h4 : a1 = (1 : Int32)
      · have hf := ift h4 hf
        refine g_tableIn (off := 43) (tgt := 44) dX2_honestly_1 (by rw [h4] <;> decide) (by rw [h4] <;> decide) (by rw [h4] <;> decide) (by decide) ?_
        refine g_aload_n 0 dX2_honestly_44 rfl rfl ?_
        refine g_get (ci := 2) (T := TX2) (N := 12) 0 2 (.int (M_more s)) dX2_honestly_45 iX2_honestly_X2 rfl jX2_honestly_43 (by decide) wlaM_0 rfl ?_
        refine g_bipush (v := (60 : Int32)) dX2_honestly_48 (by decide) ?_
        refine g_imul dX2_honestly_50 ?_
        obtain rfl := Option.some.inj hf
        exact hr _ _ dX2_honestly_51
      · have hf := iff_ h4 hf
        have n_h2 := lv_neT (a := -1) h2 (by decide)
        have n_h3 := lv_neT (a := 0) h3 (by decide)
        have n_h4 := lv_neT (a := 1) h4 (by decide)
        refine g_tableOut (tgt := 52) dX2_honestly_1 (by omega) (by decide) ?_
        refine g_iconst (v := (0 : Int32)) dX2_honestly_52 (by decide) ?_
        obtain rfl := Option.some.inj hf
        exact hr _ _ dX2_honestly_53

-- ThumbScale$Market byThumb (IIII)I
def rmX2_byThumb : Room := { frames := 1, cells := 0, slots := 0, locals := 23 }
def kX2_byThumb : MK := (cX2_byThumb, 6, RX2, wsX2_byThumb, (some .int), rmX2_byThumb)

set_option maxRecDepth 20000 in
theorem jX2_byThumb_27 : Cond.fieldLink RX2 27 (TX2 10).1 (TX2 10).2.1 (TX2 10).2.2.1 ∈ wsX2_byThumb := by decide +kernel
set_option maxRecDepth 20000 in
theorem iX2_byThumb_X2 : ∀ x ∈ u_ws RX2 TX2 12, x ∈ wsX2_byThumb := by decide +kernel
set_option maxRecDepth 20000 in
theorem jX2_byThumb_30 : Cond.fieldLink RX2 30 (TX2 11).1 (TX2 11).2.1 (TX2 11).2.2.1 ∈ wsX2_byThumb := by decide +kernel
set_option maxRecDepth 20000 in
theorem vX2_byThumb_61 : KV kX2_byThumb 61 RX2 yX2_honestly wsX2_honestly rmX2_honestly 1 := ⟨_, _, _, _, gX2_byThumb_X2_honestly, rfl, rfl, rfl, by decide +kernel, ⟨by decide, by decide⟩⟩
set_option maxRecDepth 20000 in
theorem vX2_byThumb_58 : KV kX2_byThumb 58 RX2 yX2_stepsMore wsX2_stepsMore rmX2_stepsMore 2 := ⟨_, _, _, _, gX2_byThumb_X2_stepsMore, rfl, rfl, rfl, by decide +kernel, ⟨by decide, by decide⟩⟩
def f_X2_byThumb (F : Nat) (s : SM) (a1 : Int32) (a2 : Int32) (a3 : Int32) (a4 : Int32) : Option Int32 :=
    ochi a1 6 (
    ochi a1 6 (
    olt (obd (f_X2_honestly F s a4) (fun v3 =>
    some v3)) (fun k5 =>
    (if ((((M_sorts s) (Int32.toNatClampNeg a1)) >>> (a3 &&& 31)) &&& (1 : Int32)) = 0 then
    k5
    else
    (if 0 < ((M_oneIn s) (Int32.toNatClampNeg a1)) then
    obd (f_X2_stepsMore F s a1 a2) (fun v8 =>
    obd (f_X2_honestly F s (a4 - v8)) (fun v10 =>
    obd (f_X2_honestly F s a4) (fun v12 =>
    ochk (¬ ((M_oneIn s) (Int32.toNatClampNeg a1)) = 0) (
    some ((v10 + ((((M_oneIn s) (Int32.toNatClampNeg a1)) - (1 : Int32)) * v12)) / ((M_oneIn s) (Int32.toNatClampNeg a1)))))))
    else
    k5)))))

set_option maxHeartbeats 4000000 in
set_option maxRecDepth 100000 in
theorem c_X2_byThumb {l : Launch} {D : va_G} {tys : List (ClassId × FieldType)} {X : XT} {cs : CS} (ad : Nat → Nat) {F : Nat} {s : SM} {a1 : Int32} {a2 : Int32} {a3 : Int32} {a4 : Int32} {r : Int32} (htyM : tys = tyA cs) (hf : f_X2_byThumb F s a1 a2 a3 a4 = some r) : Ci l D tys X yX2_byThumb wsX2_byThumb rmX2_byThumb [.ref (ad 0), .int a1, .int a2, .int a3, .int a4] (wM cs ad s) r (wM cs ad s) := by
  refine Ci_ofG (by decide +kernel) rfl (Nat.le_of_ble_eq_true rfl) .int rfl (vp_nar_int _) (fun E _ _ hty0 hX0 hr => ?_)
  have hty := hty0.trans htyM
  have hr : Ri E kX2_byThumb r (wM cs ad s) := hr
  show G E kX2_byThumb 0 0 0 [(0, .ref (ad 0)), (1, .int a1), (2, .int a2), (3, .int a3), (4, .int a4)] [] (wM cs ad s)
  unfold f_X2_byThumb at hf
  refine g_aload_n 0 dX2_byThumb_0 rfl rfl ?_
  refine g_get (ci := 2) (T := TX2) (N := 12) 0 10 (.ref (ad 6)) dX2_byThumb_1 iX2_byThumb_X2 rfl jX2_byThumb_27 (by decide) wlaM_0 rfl ?_
  refine g_iload_n 1 dX2_byThumb_4 rfl rfl ?_
  obtain ⟨h1, hf⟩ := ochi_some hf
  refine g_iald 6 0 dX2_byThumb_5 wlaM_6 (tI hty) h1 ?_
  refine g_istore (lv2 := [(5, .int ((M_oneIn s) (Int32.toNatClampNeg a1))), (0, .ref (ad 0)), (1, .int a1), (2, .int a2), (3, .int a3), (4, .int a4)]) dX2_byThumb_6 (by decide) rfl ?_
  refine g_aload_n 1 dX2_byThumb_8 rfl rfl ?_
  refine g_get (ci := 2) (T := TX2) (N := 12) 0 11 (.ref (ad 7)) dX2_byThumb_9 iX2_byThumb_X2 rfl jX2_byThumb_30 (by decide) wlaM_0 rfl ?_
  refine g_iload_n 2 dX2_byThumb_12 rfl rfl ?_
  obtain ⟨h2, hf⟩ := ochi_some hf
  refine g_iald 7 0 dX2_byThumb_13 wlaM_7 (tI hty) h2 ?_
  refine g_iload_n 4 dX2_byThumb_14 rfl rfl ?_
  refine g_ishr dX2_byThumb_15 ?_
  refine g_iconst (v := (1 : Int32)) dX2_byThumb_16 (by decide) ?_
  refine g_iand dX2_byThumb_17 ?_
  obtain ⟨k5, e_k5, hf⟩ := olt_some hf
  have K_k5 : k5 = some r → G E kX2_byThumb 0 0 26 [(0, .ref (ad 0)), (4, .int a4)] [] (wM cs ad s) := by
    intro hf
    rw [← e_k5] at hf
    refine g_aload_n 0 dX2_byThumb_26 rfl rfl ?_
    refine g_iload 1 dX2_byThumb_27 rfl ?_
    obtain ⟨v3, hc4, hf⟩ := obd_some hf
    refine g_callVi (ci := 2) (As := [.int a4]) (rest := []) (w2 := (wM cs ad s)) 0 dX2_byThumb_29 vX2_byThumb_61 (c_X2_honestly ad hty hc4) rfl (mid0 _) rfl rfl 0 wlaM_0 rfl (Nat.le_of_ble_eq_true rfl) ⟨Nat.zero_le _, Nat.zero_le _⟩ (mid2 _ _) ?_
    obtain rfl := Option.some.inj hf
    exact hr _ _ dX2_byThumb_32
  refine g_if_eq (tgt := 26) dX2_byThumb_18 (by decide) (fun h6 => ?_) (fun h6 => ?_)
  · have hf := ift h6 hf
    exact g_sub [1, 5] rfl (K_k5 hf)
  · have hf := iff_ h6 hf
    refine g_iload 0 dX2_byThumb_21 rfl ?_
    refine g_if_gt (tgt := 33) dX2_byThumb_23 (by decide) (fun h7 => ?_) (fun h7 => ?_)
    · have hf := ift h7 hf
      refine g_aload_n 1 dX2_byThumb_33 rfl rfl ?_
      refine g_iload 5 dX2_byThumb_34 rfl ?_
      refine g_aload_n 1 dX2_byThumb_36 rfl rfl ?_
      refine g_iload_n 2 dX2_byThumb_37 rfl rfl ?_
      refine g_iload_n 3 dX2_byThumb_38 rfl rfl ?_
      obtain ⟨v8, hc9, hf⟩ := obd_some hf
      refine g_callVi (ci := 2) (As := [.int a1, .int a2]) (rest := [.int a4, .ref (ad 0)]) (w2 := (wM cs ad s)) 0 dX2_byThumb_39 vX2_byThumb_58 (c_X2_stepsMore ad hty hc9) rfl (mid0 _) rfl rfl 0 wlaM_0 rfl (Nat.le_of_ble_eq_true rfl) ⟨Nat.zero_le _, Nat.zero_le _⟩ (mid2 _ _) ?_
      refine g_isub dX2_byThumb_42 ?_
      obtain ⟨v10, hc11, hf⟩ := obd_some hf
      refine g_callVi (ci := 2) (As := [.int (a4 - v8)]) (rest := []) (w2 := (wM cs ad s)) 0 dX2_byThumb_43 vX2_byThumb_61 (c_X2_honestly ad hty hc11) rfl (mid0 _) rfl rfl 0 wlaM_0 rfl (Nat.le_of_ble_eq_true rfl) ⟨Nat.zero_le _, Nat.zero_le _⟩ (mid2 _ _) ?_
      refine g_iload 0 dX2_byThumb_46 rfl ?_
      refine g_iconst (v := (1 : Int32)) dX2_byThumb_48 (by decide) ?_
      refine g_isub dX2_byThumb_49 ?_
      refine g_aload_n 1 dX2_byThumb_50 rfl rfl ?_
      refine g_iload 5 dX2_byThumb_51 rfl ?_
      obtain ⟨v12, hc13, hf⟩ := obd_some hf
      refine g_callVi (ci := 2) (As := [.int a4]) (rest := [.int (((M_oneIn s) (Int32.toNatClampNeg a1)) - (1 : Int32)), .int v10]) (w2 := (wM cs ad s)) 0 dX2_byThumb_53 vX2_byThumb_61 (c_X2_honestly ad hty hc13) rfl (mid0 _) rfl rfl 0 wlaM_0 rfl (Nat.le_of_ble_eq_true rfl) ⟨Nat.zero_le _, Nat.zero_le _⟩ (mid2 _ _) ?_
      refine g_imul dX2_byThumb_56 ?_
      refine g_iadd dX2_byThumb_57 ?_
      refine g_iload 0 dX2_byThumb_58 rfl ?_
      obtain ⟨h14, hf⟩ := ochk_some hf
      refine g_idiv dX2_byThumb_60 h14 ?_
      obtain rfl := Option.some.inj hf
      exact hr _ _ dX2_byThumb_61
    · have hf := iff_ h7 hf
      exact g_sub [1, 5] rfl (K_k5 hf)

-- ThumbScale$Market rounded (I)I
def rmX2_rounded : Room := { frames := 0, cells := 0, slots := 0, locals := 0 }
def kX2_rounded : MK := (cX2_rounded, 2, RX2, wsX2_rounded, (some .int), rmX2_rounded)

set_option maxRecDepth 20000 in
theorem jX2_rounded_36 : Cond.fieldLink RX2 36 (TX2 0).1 (TX2 0).2.1 (TX2 0).2.2.1 ∈ wsX2_rounded := by decide +kernel
set_option maxRecDepth 20000 in
theorem iX2_rounded_X2 : ∀ x ∈ u_ws RX2 TX2 12, x ∈ wsX2_rounded := by decide +kernel
set_option maxRecDepth 20000 in
theorem jX2_rounded_40 : Cond.fieldLink RX2 40 (TX2 1).1 (TX2 1).2.1 (TX2 1).2.2.1 ∈ wsX2_rounded := by decide +kernel
set_option maxRecDepth 20000 in
theorem jX2_rounded_43 : Cond.fieldLink RX2 43 (TX2 2).1 (TX2 2).2.1 (TX2 2).2.2.1 ∈ wsX2_rounded := by decide +kernel
def f_X2_rounded (F : Nat) (s : SM) (a1 : Int32) : Option Int32 :=
    (if a1 = (0 : Int32) then
    some (((M_less s) + (M_just s)) * (60 : Int32))
    else
    (if a1 = (1 : Int32) then
    some ((M_more s) * (60 : Int32))
    else
    some (0 : Int32)))

set_option maxHeartbeats 4000000 in
set_option maxRecDepth 100000 in
theorem c_X2_rounded {l : Launch} {D : va_G} {tys : List (ClassId × FieldType)} {X : XT} {cs : CS} (ad : Nat → Nat) {F : Nat} {s : SM} {a1 : Int32} {r : Int32} (htyM : tys = tyA cs) (hf : f_X2_rounded F s a1 = some r) : Ci l D tys X yX2_rounded wsX2_rounded rmX2_rounded [.ref (ad 0), .int a1] (wM cs ad s) r (wM cs ad s) := by
  refine Ci_ofG (by decide +kernel) rfl (Nat.le_of_ble_eq_true rfl) .int rfl (vp_nar_int _) (fun E _ _ hty0 hX0 hr => ?_)
  have hty := hty0.trans htyM
  have hr : Ri E kX2_rounded r (wM cs ad s) := hr
  show G E kX2_rounded 0 0 0 [(0, .ref (ad 0)), (1, .int a1)] [] (wM cs ad s)
  unfold f_X2_rounded at hf
  refine g_iload_n 1 dX2_rounded_0 rfl rfl ?_
  by_cases h2 : a1 = (0 : Int32)
  · have hf := ift h2 hf
    refine g_lookup (off := 27) (tgt := 28) dX2_rounded_1 (by decide) (by rw [h2] <;> decide) (by decide) ?_
    refine g_aload_n 0 dX2_rounded_28 rfl rfl ?_
    refine g_get (ci := 2) (T := TX2) (N := 12) 0 0 (.int (M_less s)) dX2_rounded_29 iX2_rounded_X2 rfl jX2_rounded_36 (by decide) wlaM_0 rfl ?_
    refine g_aload_n 0 dX2_rounded_32 rfl rfl ?_
    refine g_get (ci := 2) (T := TX2) (N := 12) 0 1 (.int (M_just s)) dX2_rounded_33 iX2_rounded_X2 rfl jX2_rounded_40 (by decide) wlaM_0 rfl ?_
    refine g_iadd dX2_rounded_36 ?_
    refine g_bipush (v := (60 : Int32)) dX2_rounded_37 (by decide) ?_
    refine g_imul dX2_rounded_39 ?_
    obtain rfl := Option.some.inj hf
    exact hr _ _ dX2_rounded_40
  · have hf := iff_ h2 hf
    by_cases h3 : a1 = (1 : Int32)
    · have hf := ift h3 hf
      refine g_lookup (off := 40) (tgt := 41) dX2_rounded_1 (by decide) (by rw [h3] <;> decide) (by decide) ?_
      refine g_aload_n 0 dX2_rounded_41 rfl rfl ?_
      refine g_get (ci := 2) (T := TX2) (N := 12) 0 2 (.int (M_more s)) dX2_rounded_42 iX2_rounded_X2 rfl jX2_rounded_43 (by decide) wlaM_0 rfl ?_
      refine g_bipush (v := (60 : Int32)) dX2_rounded_45 (by decide) ?_
      refine g_imul dX2_rounded_47 ?_
      obtain rfl := Option.some.inj hf
      exact hr _ _ dX2_rounded_48
    · have hf := iff_ h3 hf
      refine g_lookup (off := 48) (tgt := 49) dX2_rounded_1 (by decide) (by rw [lv_osw h2 (by decide), lv_osw h3 (by decide)] <;> rfl) (by decide) ?_
      refine g_iconst (v := (0 : Int32)) dX2_rounded_49 (by decide) ?_
      obtain rfl := Option.some.inj hf
      exact hr _ _ dX2_rounded_50

-- ThumbScale$Market howOften (IIII)I
def rmX2_howOften : Room := { frames := 2, cells := 0, slots := 0, locals := 48 }
def kX2_howOften : MK := (cX2_howOften, 5, RX2, wsX2_howOften, (some .int), rmX2_howOften)

set_option maxRecDepth 20000 in
theorem jX2_howOften_21 : Cond.fieldLink RX2 21 (TX2 8).1 (TX2 8).2.1 (TX2 8).2.2.1 ∈ wsX2_howOften := by decide +kernel
set_option maxRecDepth 20000 in
theorem iX2_howOften_X2 : ∀ x ∈ u_ws RX2 TX2 12, x ∈ wsX2_howOften := by decide +kernel
set_option maxRecDepth 20000 in
theorem vX2_howOften_58 : KV kX2_howOften 58 RX2 yX2_stepsMore wsX2_stepsMore rmX2_stepsMore 2 := ⟨_, _, _, _, gX2_howOften_X2_stepsMore, rfl, rfl, rfl, by decide +kernel, ⟨by decide, by decide⟩⟩
set_option maxRecDepth 20000 in
theorem vX2_howOften_61 : KV kX2_howOften 61 RX2 yX2_honestly wsX2_honestly rmX2_honestly 1 := ⟨_, _, _, _, gX2_howOften_X2_honestly, rfl, rfl, rfl, by decide +kernel, ⟨by decide, by decide⟩⟩
set_option maxRecDepth 20000 in
theorem vX2_howOften_65 : KV kX2_howOften 65 RX2 yX2_byThumb wsX2_byThumb rmX2_byThumb 4 := ⟨_, _, _, _, gX2_howOften_X2_byThumb, rfl, rfl, rfl, by decide +kernel, ⟨by decide, by decide⟩⟩
set_option maxRecDepth 20000 in
theorem vX2_howOften_69 : KV kX2_howOften 69 RX2 yX2_rounded wsX2_rounded rmX2_rounded 1 := ⟨_, _, _, _, gX2_howOften_X2_rounded, rfl, rfl, rfl, by decide +kernel, ⟨by decide, by decide⟩⟩
def f_X2_howOften (F : Nat) (s : SM) (a1 : Int32) (a2 : Int32) (a3 : Int32) (a4 : Int32) : Option Int32 :=
    ochi a1 6 (
    (if ((M_shape s) (Int32.toNatClampNeg a1)) = (1 : Int32) then
    obd (f_X2_stepsMore F s a1 a2) (fun v4 =>
    obd (f_X2_honestly F s (a4 - v4)) (fun v6 =>
    some v6))
    else
    (if ((M_shape s) (Int32.toNatClampNeg a1)) = (2 : Int32) then
    obd (f_X2_byThumb F s a1 a2 a3 a4) (fun v9 =>
    some v9)
    else
    (if ((M_shape s) (Int32.toNatClampNeg a1)) = (3 : Int32) then
    obd (f_X2_rounded F s a4) (fun v12 =>
    some v12)
    else
    obd (f_X2_honestly F s a4) (fun v14 =>
    some v14)))))

set_option maxHeartbeats 4000000 in
set_option maxRecDepth 100000 in
theorem c_X2_howOften {l : Launch} {D : va_G} {tys : List (ClassId × FieldType)} {X : XT} {cs : CS} (ad : Nat → Nat) {F : Nat} {s : SM} {a1 : Int32} {a2 : Int32} {a3 : Int32} {a4 : Int32} {r : Int32} (htyM : tys = tyA cs) (hf : f_X2_howOften F s a1 a2 a3 a4 = some r) : Ci l D tys X yX2_howOften wsX2_howOften rmX2_howOften [.ref (ad 0), .int a1, .int a2, .int a3, .int a4] (wM cs ad s) r (wM cs ad s) := by
  refine Ci_ofG (by decide +kernel) rfl (Nat.le_of_ble_eq_true rfl) .int rfl (vp_nar_int _) (fun E _ _ hty0 hX0 hr => ?_)
  have hty := hty0.trans htyM
  have hr : Ri E kX2_howOften r (wM cs ad s) := hr
  show G E kX2_howOften 0 0 0 [(0, .ref (ad 0)), (1, .int a1), (2, .int a2), (3, .int a3), (4, .int a4)] [] (wM cs ad s)
  unfold f_X2_howOften at hf
  refine g_aload_n 0 dX2_howOften_0 rfl rfl ?_
  refine g_get (ci := 2) (T := TX2) (N := 12) 0 8 (.ref (ad 4)) dX2_howOften_1 iX2_howOften_X2 rfl jX2_howOften_21 (by decide) wlaM_0 rfl ?_
  refine g_iload_n 1 dX2_howOften_4 rfl rfl ?_
  obtain ⟨h1, hf⟩ := ochi_some hf
  refine g_iald 4 0 dX2_howOften_5 wlaM_4 (tI hty) h1 ?_
  by_cases h3 : ((M_shape s) (Int32.toNatClampNeg a1)) = (1 : Int32)
  · have hf := ift h3 hf
    refine g_tableIn (off := 26) (tgt := 32) dX2_howOften_6 (by rw [h3] <;> decide) (by rw [h3] <;> decide) (by rw [h3] <;> decide) (by decide) ?_
    refine g_aload_n 0 dX2_howOften_32 rfl rfl ?_
    refine g_iload 4 dX2_howOften_33 rfl ?_
    refine g_aload_n 0 dX2_howOften_35 rfl rfl ?_
    refine g_iload_n 1 dX2_howOften_36 rfl rfl ?_
    refine g_iload_n 2 dX2_howOften_37 rfl rfl ?_
    obtain ⟨v4, hc5, hf⟩ := obd_some hf
    refine g_callVi (ci := 2) (As := [.int a1, .int a2]) (rest := [.int a4, .ref (ad 0)]) (w2 := (wM cs ad s)) 0 dX2_howOften_38 vX2_howOften_58 (c_X2_stepsMore ad hty hc5) rfl (mid0 _) rfl rfl 0 wlaM_0 rfl (Nat.le_of_ble_eq_true rfl) ⟨Nat.zero_le _, Nat.zero_le _⟩ (mid2 _ _) ?_
    refine g_isub dX2_howOften_41 ?_
    obtain ⟨v6, hc7, hf⟩ := obd_some hf
    refine g_callVi (ci := 2) (As := [.int (a4 - v4)]) (rest := []) (w2 := (wM cs ad s)) 0 dX2_howOften_42 vX2_howOften_61 (c_X2_honestly ad hty hc7) rfl (mid0 _) rfl rfl 0 wlaM_0 rfl (Nat.le_of_ble_eq_true rfl) ⟨Nat.zero_le _, Nat.zero_le _⟩ (mid2 _ _) ?_
    obtain rfl := Option.some.inj hf
    exact hr _ _ dX2_howOften_45
  · have hf := iff_ h3 hf
    by_cases h8 : ((M_shape s) (Int32.toNatClampNeg a1)) = (2 : Int32)
    · have hf := ift h8 hf
      refine g_tableIn (off := 40) (tgt := 46) dX2_howOften_6 (by rw [h8] <;> decide) (by rw [h8] <;> decide) (by rw [h8] <;> decide) (by decide) ?_
      refine g_aload_n 0 dX2_howOften_46 rfl rfl ?_
      refine g_iload_n 1 dX2_howOften_47 rfl rfl ?_
      refine g_iload_n 2 dX2_howOften_48 rfl rfl ?_
      refine g_iload_n 3 dX2_howOften_49 rfl rfl ?_
      refine g_iload 4 dX2_howOften_50 rfl ?_
      obtain ⟨v9, hc10, hf⟩ := obd_some hf
      refine g_callVi (ci := 2) (As := [.int a1, .int a2, .int a3, .int a4]) (rest := []) (w2 := (wM cs ad s)) 0 dX2_howOften_52 vX2_howOften_65 (c_X2_byThumb ad hty hc10) rfl (mid0 _) rfl rfl 0 wlaM_0 rfl (Nat.le_of_ble_eq_true rfl) ⟨Nat.zero_le _, Nat.zero_le _⟩ (mid2 _ _) ?_
      obtain rfl := Option.some.inj hf
      exact hr _ _ dX2_howOften_55
    · have hf := iff_ h8 hf
      by_cases h11 : ((M_shape s) (Int32.toNatClampNeg a1)) = (3 : Int32)
      · have hf := ift h11 hf
        refine g_tableIn (off := 50) (tgt := 56) dX2_howOften_6 (by rw [h11] <;> decide) (by rw [h11] <;> decide) (by rw [h11] <;> decide) (by decide) ?_
        refine g_aload_n 0 dX2_howOften_56 rfl rfl ?_
        refine g_iload 4 dX2_howOften_57 rfl ?_
        obtain ⟨v12, hc13, hf⟩ := obd_some hf
        refine g_callVi (ci := 2) (As := [.int a4]) (rest := []) (w2 := (wM cs ad s)) 0 dX2_howOften_59 vX2_howOften_69 (c_X2_rounded ad hty hc13) rfl (mid0 _) rfl rfl 0 wlaM_0 rfl (Nat.le_of_ble_eq_true rfl) ⟨Nat.zero_le _, Nat.zero_le _⟩ (mid2 _ _) ?_
        obtain rfl := Option.some.inj hf
        exact hr _ _ dX2_howOften_62
      · have hf := iff_ h11 hf
        have n_h3 := lv_neT (a := 1) h3 (by decide)
        have n_h8 := lv_neT (a := 2) h8 (by decide)
        have n_h11 := lv_neT (a := 3) h11 (by decide)
        refine g_tableOut (tgt := 63) dX2_howOften_6 (by omega) (by decide) ?_
        refine g_aload_n 0 dX2_howOften_63 rfl rfl ?_
        refine g_iload 4 dX2_howOften_64 rfl ?_
        obtain ⟨v14, hc15, hf⟩ := obd_some hf
        refine g_callVi (ci := 2) (As := [.int a4]) (rest := []) (w2 := (wM cs ad s)) 0 dX2_howOften_66 vX2_howOften_61 (c_X2_honestly ad hty hc15) rfl (mid0 _) rfl rfl 0 wlaM_0 rfl (Nat.le_of_ble_eq_true rfl) ⟨Nat.zero_le _, Nat.zero_le _⟩ (mid2 _ _) ?_
        obtain rfl := Option.some.inj hf
        exact hr _ _ dX2_howOften_69
