-- ThumbScale$Reader signAt (I)I
def rmX3_signAt : Room := { frames := 0, cells := 0, slots := 0, locals := 0 }
def kX3_signAt : MK := (cX3_signAt, 3, RX3, wsX3_signAt, (some .int), rmX3_signAt)

set_option maxRecDepth 20000 in
theorem jX3_signAt_25 : Cond.fieldLink RX3 25 (TX3 2).1 (TX3 2).2.1 (TX3 2).2.2.1 ∈ wsX3_signAt := by decide +kernel
set_option maxRecDepth 20000 in
theorem iX3_signAt_X3 : ∀ x ∈ u_ws RX3 TX3 9, x ∈ wsX3_signAt := by decide +kernel
set_option maxRecDepth 20000 in
theorem jX3_signAt_9 : Cond.fieldLink RX3 9 (TX3 0).1 (TX3 0).2.1 (TX3 0).2.2.1 ∈ wsX3_signAt := by decide +kernel
def f_X3_signAt (F : Nat) (s : SR) (a1 : Int32) : Option Int32 :=
    (if a1 < 0 then
    some (0 : Int32)
    else
    (if a1 < (R_length s) then
    ochi a1 400 (
    olt (olt ((if ((R_text s) (Int32.toNatClampNeg a1)) = (59 : Int32) then
    some (3 : Int32)
    else
    some (4 : Int32))) (fun k5 =>
    (if ((R_text s) (Int32.toNatClampNeg a1)) < (48 : Int32) then
    k5
    else
    (if (57 : Int32) < ((R_text s) (Int32.toNatClampNeg a1)) then
    k5
    else
    some (2 : Int32))))) (fun k8 =>
    (if ((R_text s) (Int32.toNatClampNeg a1)) < (97 : Int32) then
    k8
    else
    (if (122 : Int32) < ((R_text s) (Int32.toNatClampNeg a1)) then
    k8
    else
    some (1 : Int32)))))
    else
    some (0 : Int32)))

set_option maxHeartbeats 4000000 in
set_option maxRecDepth 100000 in
theorem c_X3_signAt {l : Launch} {D : va_G} {tys : List (ClassId × FieldType)} {X : XT} {cs : CS} (ad : Nat → Nat) {F : Nat} {s : SR} {a1 : Int32} {r : Int32} (htyM : tys = tyA cs) (hf : f_X3_signAt F s a1 = some r) : Ci l D tys X yX3_signAt wsX3_signAt rmX3_signAt [.ref (ad 0), .int a1] (wR cs ad s) r (wR cs ad s) := by
  refine Ci_ofG (by decide +kernel) rfl (Nat.le_of_ble_eq_true rfl) .int rfl (vp_nar_int _) (fun E _ _ hty0 hX0 hr => ?_)
  have hty := hty0.trans htyM
  have hr : Ri E kX3_signAt r (wR cs ad s) := hr
  show G E kX3_signAt 0 0 0 [(0, .ref (ad 0)), (1, .int a1)] [] (wR cs ad s)
  unfold f_X3_signAt at hf
  refine g_iload_n 1 dX3_signAt_0 rfl rfl ?_
  refine g_if_lt (tgt := 12) dX3_signAt_1 (by decide) (fun h1 => ?_) (fun h1 => ?_)
  · have hf := ift h1 hf
    refine g_iconst (v := (0 : Int32)) dX3_signAt_12 (by decide) ?_
    obtain rfl := Option.some.inj hf
    exact hr _ _ dX3_signAt_13
  · have hf := iff_ h1 hf
    refine g_iload_n 1 dX3_signAt_4 rfl rfl ?_
    refine g_aload_n 0 dX3_signAt_5 rfl rfl ?_
    refine g_get (ci := 3) (T := TX3) (N := 9) 0 2 (.int (R_length s)) dX3_signAt_6 iX3_signAt_X3 rfl jX3_signAt_25 (by decide) wlaR_0 rfl ?_
    refine g_icmp_lt (tgt := 14) dX3_signAt_9 (by decide) (fun h2 => ?_) (fun h2 => ?_)
    · have hf := ift h2 hf
      refine g_aload_n 0 dX3_signAt_14 rfl rfl ?_
      refine g_get (ci := 3) (T := TX3) (N := 9) 0 0 (.ref (ad 1)) dX3_signAt_15 iX3_signAt_X3 rfl jX3_signAt_9 (by decide) wlaR_0 rfl ?_
      refine g_iload_n 1 dX3_signAt_18 rfl rfl ?_
      obtain ⟨h3, hf⟩ := ochi_some hf
      refine g_iald 1 0 dX3_signAt_19 wlaR_1 (tI hty) h3 ?_
      refine g_istore_n (lv2 := [(2, .int ((R_text s) (Int32.toNatClampNeg a1))), (0, .ref (ad 0)), (1, .int a1)]) dX3_signAt_20 rfl (by decide) rfl ?_
      refine g_iload_n 0 dX3_signAt_21 rfl rfl ?_
      refine g_bipush (v := (97 : Int32)) dX3_signAt_22 (by decide) ?_
      obtain ⟨k8, e_k8, hf⟩ := olt_some hf
      have K_k8 : k8 = some r → G E kX3_signAt 0 0 35 [(2, .int ((R_text s) (Int32.toNatClampNeg a1)))] [] (wR cs ad s) := by
        intro hf
        rw [← e_k8] at hf
        refine g_iload_n 0 dX3_signAt_35 rfl rfl ?_
        refine g_bipush (v := (48 : Int32)) dX3_signAt_36 (by decide) ?_
        obtain ⟨k5, e_k5, hf⟩ := olt_some hf
        have K_k5 : k5 = some r → G E kX3_signAt 0 0 49 [(2, .int ((R_text s) (Int32.toNatClampNeg a1)))] [] (wR cs ad s) := by
          intro hf
          rw [← e_k5] at hf
          refine g_iload_n 0 dX3_signAt_49 rfl rfl ?_
          refine g_bipush (v := (59 : Int32)) dX3_signAt_50 (by decide) ?_
          refine g_icmp_ne (tgt := 59) dX3_signAt_52 (by decide) (fun h4 => ?_) (fun h4 => ?_)
          · have hf := iff_ h4 hf
            refine g_iconst (v := (4 : Int32)) dX3_signAt_59 (by decide) ?_
            obtain rfl := Option.some.inj hf
            exact hr _ _ dX3_signAt_60
          · have hf := ift h4 hf
            refine g_iconst (v := (3 : Int32)) dX3_signAt_55 (by decide) ?_
            refine g_goto (tgt := 60) dX3_signAt_56 (by decide) ?_
            obtain rfl := Option.some.inj hf
            exact hr _ _ dX3_signAt_60
        refine g_icmp_lt (tgt := 49) dX3_signAt_38 (by decide) (fun h6 => ?_) (fun h6 => ?_)
        · have hf := ift h6 hf
          exact g_sub [0] rfl (K_k5 hf)
        · have hf := iff_ h6 hf
          refine g_iload_n 0 dX3_signAt_41 rfl rfl ?_
          refine g_bipush (v := (57 : Int32)) dX3_signAt_42 (by decide) ?_
          refine g_icmp_gt (tgt := 49) dX3_signAt_44 (by decide) (fun h7 => ?_) (fun h7 => ?_)
          · have hf := ift h7 hf
            exact g_sub [0] rfl (K_k5 hf)
          · have hf := iff_ h7 hf
            refine g_iconst (v := (2 : Int32)) dX3_signAt_47 (by decide) ?_
            obtain rfl := Option.some.inj hf
            exact hr _ _ dX3_signAt_48
      refine g_icmp_lt (tgt := 35) dX3_signAt_24 (by decide) (fun h9 => ?_) (fun h9 => ?_)
      · have hf := ift h9 hf
        exact g_sub [0] rfl (K_k8 hf)
      · have hf := iff_ h9 hf
        refine g_iload_n 0 dX3_signAt_27 rfl rfl ?_
        refine g_bipush (v := (122 : Int32)) dX3_signAt_28 (by decide) ?_
        refine g_icmp_gt (tgt := 35) dX3_signAt_30 (by decide) (fun h10 => ?_) (fun h10 => ?_)
        · have hf := ift h10 hf
          exact g_sub [0] rfl (K_k8 hf)
        · have hf := iff_ h10 hf
          refine g_iconst (v := (1 : Int32)) dX3_signAt_33 (by decide) ?_
          obtain rfl := Option.some.inj hf
          exact hr _ _ dX3_signAt_34
    · have hf := iff_ h2 hf
      refine g_iconst (v := (0 : Int32)) dX3_signAt_12 (by decide) ?_
      obtain rfl := Option.some.inj hf
      exact hr _ _ dX3_signAt_13

-- ThumbScale$Reader valueNumber ()V
def rmX3_valueNumber : Room := { frames := 0, cells := 0, slots := 0, locals := 0 }
def kX3_valueNumber : MK := (cX3_valueNumber, 2, RX3, wsX3_valueNumber, none, rmX3_valueNumber)

set_option maxRecDepth 20000 in
theorem jX3_valueNumber_33 : Cond.fieldLink RX3 33 (TX3 6).1 (TX3 6).2.1 (TX3 6).2.2.1 ∈ wsX3_valueNumber := by decide +kernel
set_option maxRecDepth 20000 in
theorem iX3_valueNumber_X3 : ∀ x ∈ u_ws RX3 TX3 9, x ∈ wsX3_valueNumber := by decide +kernel
set_option maxRecDepth 20000 in
theorem jX3_valueNumber_51 : Cond.fieldLink RX3 51 (TX3 5).1 (TX3 5).2.1 (TX3 5).2.2.1 ∈ wsX3_valueNumber := by decide +kernel
set_option maxRecDepth 20000 in
theorem jX3_valueNumber_44 : Cond.fieldLink RX3 44 (TX3 4).1 (TX3 4).2.1 (TX3 4).2.2.1 ∈ wsX3_valueNumber := by decide +kernel
set_option maxRecDepth 20000 in
theorem jX3_valueNumber_9 : Cond.fieldLink RX3 9 (TX3 0).1 (TX3 0).2.1 (TX3 0).2.2.1 ∈ wsX3_valueNumber := by decide +kernel
set_option maxRecDepth 20000 in
theorem jX3_valueNumber_144 : Cond.fieldLink RX3 144 (TX3 7).1 (TX3 7).2.1 (TX3 7).2.2.1 ∈ wsX3_valueNumber := by decide +kernel
def f_X3_valueNumber (F : Nat) (s : SR) : Option SR :=
    (if ((R_after s) - (R_place s)) = (1 : Int32) then
    ochi (R_place s) 400 (
    olt (((R_text s) (Int32.toNatClampNeg (R_place s))) - (48 : Int32)) (fun z13 =>
    olt (uR_value s z13) (fun s14 =>
    some s14)))
    else
    olt (fun (s2 : SR) =>
    olt (uR_sign s2 (4 : Int32)) (fun s3 =>
    some s3)) (fun k4 =>
    (if ((R_after s) - (R_place s)) = (2 : Int32) then
    ochi (R_place s) 400 (
    (if ((R_text s) (Int32.toNatClampNeg (R_place s))) = (48 : Int32) then
    k4 s
    else
    ochi (R_place s) 400 (
    ochi ((R_place s) + (1 : Int32)) 400 (
    olt ((((((R_text s) (Int32.toNatClampNeg (R_place s))) - (48 : Int32)) * (10 : Int32)) + ((R_text s) (Int32.toNatClampNeg ((R_place s) + (1 : Int32))))) - (48 : Int32)) (fun z10 =>
    olt (uR_value s z10) (fun s11 =>
    some s11))))))
    else
    k4 s)))

set_option maxHeartbeats 4000000 in
set_option maxRecDepth 100000 in
theorem c_X3_valueNumber {l : Launch} {D : va_G} {tys : List (ClassId × FieldType)} {X : XT} {cs : CS} (ad : Nat → Nat) {F : Nat} {s : SR} {r : SR} (htyM : tys = tyA cs) (hf : f_X3_valueNumber F s = some r) : Cv l D tys X yX3_valueNumber wsX3_valueNumber rmX3_valueNumber [.ref (ad 0)] (wR cs ad s) (wR cs ad r) := by
  refine Cv_ofG (by decide +kernel) rfl (Nat.le_of_ble_eq_true rfl) (fun E _ _ hty0 hX0 hr => ?_)
  have hty := hty0.trans htyM
  have hr : Rv E kX3_valueNumber (wR cs ad r) := hr
  show G E kX3_valueNumber 0 0 0 [(0, .ref (ad 0))] [] (wR cs ad s)
  unfold f_X3_valueNumber at hf
  refine g_aload_n 0 dX3_valueNumber_0 rfl rfl ?_
  refine g_get (ci := 3) (T := TX3) (N := 9) 0 6 (.int (R_after s)) dX3_valueNumber_1 iX3_valueNumber_X3 rfl jX3_valueNumber_33 (by decide) wlaR_0 rfl ?_
  refine g_aload_n 0 dX3_valueNumber_4 rfl rfl ?_
  refine g_get (ci := 3) (T := TX3) (N := 9) 0 5 (.int (R_place s)) dX3_valueNumber_5 iX3_valueNumber_X3 rfl jX3_valueNumber_51 (by decide) wlaR_0 rfl ?_
  refine g_isub dX3_valueNumber_8 ?_
  refine g_istore_n (lv2 := [(1, .int ((R_after s) - (R_place s))), (0, .ref (ad 0))]) dX3_valueNumber_9 rfl (by decide) rfl ?_
  refine g_iload_n 0 dX3_valueNumber_10 rfl rfl ?_
  refine g_iconst (v := (1 : Int32)) dX3_valueNumber_11 (by decide) ?_
  refine g_icmp_ne (tgt := 34) dX3_valueNumber_12 (by decide) (fun h1 => ?_) (fun h1 => ?_)
  · have hf := iff_ h1 hf
    refine g_iload_n 0 dX3_valueNumber_34 rfl rfl ?_
    refine g_iconst (v := (2 : Int32)) dX3_valueNumber_35 (by decide) ?_
    obtain ⟨k4, e_k4, hf⟩ := olt_some hf
    have K_k4 : ∀ (s2 : SR), k4 s2 = some r → G E kX3_valueNumber 0 0 90 [(0, .ref (ad 0))] [] (wR cs ad s2) := by
      intro s2 hf
      rw [← e_k4] at hf
      refine g_aload_n 0 dX3_valueNumber_90 rfl rfl ?_
      refine g_iconst (v := (4 : Int32)) dX3_valueNumber_91 (by decide) ?_
      obtain ⟨s3, e_s3, hf⟩ := olt_some hf
      refine g_put (ci := 3) (T := TX3) (N := 9) (ty := .int) (w2 := (wR cs ad s3)) 0 4 (.int (4 : Int32)) tyX3 dX3_valueNumber_92 iX3_valueNumber_X3 tyX3_ok nmX3 rfl jX3_valueNumber_44 (by decide) rfl rfl rfl rfl wlaR_0 (Nat.le_of_ble_eq_true rfl) (wlpR_0_4.trans (congrArg (wR cs ad) e_s3)) ?_
      obtain rfl := Option.some.inj hf
      exact hr _ _ dX3_valueNumber_95
    refine g_icmp_ne (tgt := 90) dX3_valueNumber_36 (by decide) (fun h5 => ?_) (fun h5 => ?_)
    · have hf := iff_ h5 hf
      exact g_sub [1] rfl (K_k4 s hf)
    · have hf := ift h5 hf
      refine g_aload_n 1 dX3_valueNumber_39 rfl rfl ?_
      refine g_get (ci := 3) (T := TX3) (N := 9) 0 0 (.ref (ad 1)) dX3_valueNumber_40 iX3_valueNumber_X3 rfl jX3_valueNumber_9 (by decide) wlaR_0 rfl ?_
      refine g_aload_n 1 dX3_valueNumber_43 rfl rfl ?_
      refine g_get (ci := 3) (T := TX3) (N := 9) 0 5 (.int (R_place s)) dX3_valueNumber_44 iX3_valueNumber_X3 rfl jX3_valueNumber_51 (by decide) wlaR_0 rfl ?_
      obtain ⟨h6, hf⟩ := ochi_some hf
      refine g_iald 1 0 dX3_valueNumber_47 wlaR_1 (tI hty) h6 ?_
      refine g_bipush (v := (48 : Int32)) dX3_valueNumber_48 (by decide) ?_
      refine g_icmp_eq (tgt := 90) dX3_valueNumber_50 (by decide) (fun h7 => ?_) (fun h7 => ?_)
      · have hf := ift h7 hf
        exact g_sub [1] rfl (K_k4 s hf)
      · have hf := iff_ h7 hf
        refine g_aload_n 1 dX3_valueNumber_53 rfl rfl ?_
        refine g_aload_n 1 dX3_valueNumber_54 rfl rfl ?_
        refine g_get (ci := 3) (T := TX3) (N := 9) 0 0 (.ref (ad 1)) dX3_valueNumber_55 iX3_valueNumber_X3 rfl jX3_valueNumber_9 (by decide) wlaR_0 rfl ?_
        refine g_aload_n 1 dX3_valueNumber_58 rfl rfl ?_
        refine g_get (ci := 3) (T := TX3) (N := 9) 0 5 (.int (R_place s)) dX3_valueNumber_59 iX3_valueNumber_X3 rfl jX3_valueNumber_51 (by decide) wlaR_0 rfl ?_
        obtain ⟨h8, hf⟩ := ochi_some hf
        refine g_iald 1 0 dX3_valueNumber_62 wlaR_1 (tI hty) h8 ?_
        refine g_bipush (v := (48 : Int32)) dX3_valueNumber_63 (by decide) ?_
        refine g_isub dX3_valueNumber_65 ?_
        refine g_bipush (v := (10 : Int32)) dX3_valueNumber_66 (by decide) ?_
        refine g_imul dX3_valueNumber_68 ?_
        refine g_aload_n 1 dX3_valueNumber_69 rfl rfl ?_
        refine g_get (ci := 3) (T := TX3) (N := 9) 0 0 (.ref (ad 1)) dX3_valueNumber_70 iX3_valueNumber_X3 rfl jX3_valueNumber_9 (by decide) wlaR_0 rfl ?_
        refine g_aload_n 1 dX3_valueNumber_73 rfl rfl ?_
        refine g_get (ci := 3) (T := TX3) (N := 9) 0 5 (.int (R_place s)) dX3_valueNumber_74 iX3_valueNumber_X3 rfl jX3_valueNumber_51 (by decide) wlaR_0 rfl ?_
        refine g_iconst (v := (1 : Int32)) dX3_valueNumber_77 (by decide) ?_
        refine g_iadd dX3_valueNumber_78 ?_
        obtain ⟨h9, hf⟩ := ochi_some hf
        refine g_iald 1 0 dX3_valueNumber_79 wlaR_1 (tI hty) h9 ?_
        refine g_iadd dX3_valueNumber_80 ?_
        refine g_bipush (v := (48 : Int32)) dX3_valueNumber_81 (by decide) ?_
        refine g_isub dX3_valueNumber_83 ?_
        obtain ⟨z10, e_z10, hf⟩ := olt_some hf
        refine g_cast rfl rfl (congrArg (fun q => Value.int q :: [.ref (ad 0)]) e_z10) rfl ?_
        obtain ⟨s11, e_s11, hf⟩ := olt_some hf
        refine g_put (ci := 3) (T := TX3) (N := 9) (ty := .int) (w2 := (wR cs ad s11)) 0 7 (.int z10) tyX3 dX3_valueNumber_84 iX3_valueNumber_X3 tyX3_ok nmX3 rfl jX3_valueNumber_144 (by decide) rfl rfl rfl rfl wlaR_0 (Nat.le_of_ble_eq_true rfl) (wlpR_0_7.trans (congrArg (wR cs ad) e_s11)) ?_
        refine g_goto (tgt := 95) dX3_valueNumber_87 (by decide) ?_
        obtain rfl := Option.some.inj hf
        exact hr _ _ dX3_valueNumber_95
  · have hf := ift h1 hf
    refine g_aload_n 1 dX3_valueNumber_15 rfl rfl ?_
    refine g_aload_n 1 dX3_valueNumber_16 rfl rfl ?_
    refine g_get (ci := 3) (T := TX3) (N := 9) 0 0 (.ref (ad 1)) dX3_valueNumber_17 iX3_valueNumber_X3 rfl jX3_valueNumber_9 (by decide) wlaR_0 rfl ?_
    refine g_aload_n 1 dX3_valueNumber_20 rfl rfl ?_
    refine g_get (ci := 3) (T := TX3) (N := 9) 0 5 (.int (R_place s)) dX3_valueNumber_21 iX3_valueNumber_X3 rfl jX3_valueNumber_51 (by decide) wlaR_0 rfl ?_
    obtain ⟨h12, hf⟩ := ochi_some hf
    refine g_iald 1 0 dX3_valueNumber_24 wlaR_1 (tI hty) h12 ?_
    refine g_bipush (v := (48 : Int32)) dX3_valueNumber_25 (by decide) ?_
    refine g_isub dX3_valueNumber_27 ?_
    obtain ⟨z13, e_z13, hf⟩ := olt_some hf
    refine g_cast rfl rfl (congrArg (fun q => Value.int q :: [.ref (ad 0)]) e_z13) rfl ?_
    obtain ⟨s14, e_s14, hf⟩ := olt_some hf
    refine g_put (ci := 3) (T := TX3) (N := 9) (ty := .int) (w2 := (wR cs ad s14)) 0 7 (.int z13) tyX3 dX3_valueNumber_28 iX3_valueNumber_X3 tyX3_ok nmX3 rfl jX3_valueNumber_144 (by decide) rfl rfl rfl rfl wlaR_0 (Nat.le_of_ble_eq_true rfl) (wlpR_0_7.trans (congrArg (wR cs ad) e_s14)) ?_
    refine g_goto (tgt := 95) dX3_valueNumber_31 (by decide) ?_
    obtain rfl := Option.some.inj hf
    exact hr _ _ dX3_valueNumber_95

-- ThumbScale$Reader next ()V
def rmX3_next : Room := { frames := 1, cells := 0, slots := 0, locals := 22 }
def kX3_next : MK := (cX3_next, 1, RX3, wsX3_next, none, rmX3_next)

set_option maxRecDepth 20000 in
theorem jX3_next_33 : Cond.fieldLink RX3 33 (TX3 6).1 (TX3 6).2.1 (TX3 6).2.2.1 ∈ wsX3_next := by decide +kernel
set_option maxRecDepth 20000 in
theorem iX3_next_X3 : ∀ x ∈ u_ws RX3 TX3 9, x ∈ wsX3_next := by decide +kernel
set_option maxRecDepth 20000 in
theorem jX3_next_51 : Cond.fieldLink RX3 51 (TX3 5).1 (TX3 5).2.1 (TX3 5).2.2.1 ∈ wsX3_next := by decide +kernel
set_option maxRecDepth 20000 in
theorem jX3_next_25 : Cond.fieldLink RX3 25 (TX3 2).1 (TX3 2).2.1 (TX3 2).2.2.1 ∈ wsX3_next := by decide +kernel
set_option maxRecDepth 20000 in
theorem vX3_next_147 : KV kX3_next 147 RX3 yX3_signAt wsX3_signAt rmX3_signAt 1 := ⟨_, _, _, _, gX3_next_X3_signAt, rfl, rfl, rfl, by decide +kernel, ⟨by decide, by decide⟩⟩
set_option maxRecDepth 20000 in
theorem jX3_next_44 : Cond.fieldLink RX3 44 (TX3 4).1 (TX3 4).2.1 (TX3 4).2.2.1 ∈ wsX3_next := by decide +kernel
set_option maxRecDepth 20000 in
theorem vX3_next_151 : KV kX3_next 151 RX3 yX3_valueNumber wsX3_valueNumber rmX3_valueNumber 0 := ⟨_, _, _, _, gX3_next_X3_valueNumber, rfl, rfl, rfl, by decide +kernel, ⟨by decide, by decide⟩⟩
set_option maxRecDepth 20000 in
theorem jX3_next_9 : Cond.fieldLink RX3 9 (TX3 0).1 (TX3 0).2.1 (TX3 0).2.2.1 ∈ wsX3_next := by decide +kernel
def f_X3_next_L82 (F : Nat) (k138_ : SR → Option SR) : Nat → SR → Option SR
  | 0, _ => none
  | n + 1, s16 =>
    (if (R_length s16) ≤ (R_after s16) then
    k138_ s16
    else
    obd (f_X3_signAt F s16 (R_after s16)) (fun v18 =>
    (if v18 = (R_sign s16) then
    olt ((R_after s16) + (1 : Int32)) (fun z21 =>
    olt (uR_after s16 z21) (fun s22 =>
    f_X3_next_L82 F k138_ n s22))
    else
    k138_ s16)))

def f_X3_next_L8 (F : Nat) : Nat → SR → Option SR
  | 0, _ => none
  | n + 1, s3 =>
    olt (fun (s4 : SR) =>
    olt (R_place s4) (fun z5 =>
    olt (uR_after s4 z5) (fun s6 =>
    obd (f_X3_signAt F s6 (R_place s6)) (fun v7 =>
    olt (uR_sign s6 v7) (fun s9 =>
    olt (fun (s10 : SR) =>
    (if (R_sign s10) = (2 : Int32) then
    obd (f_X3_valueNumber F s10) (fun v12 =>
    some v12)
    else
    some s10)) (fun k14 =>
    (if (R_sign s9) = (1 : Int32) then
    f_X3_next_L82 F k14 F s9
    else
    (if (R_sign s9) = (2 : Int32) then
    f_X3_next_L82 F k14 F s9
    else
    (if (R_sign s9) = 0 then
    k14 s9
    else
    olt ((R_after s9) + (1 : Int32)) (fun z25 =>
    olt (uR_after s9 z25) (fun s26 =>
    k14 s26))))))))))) (fun k34 =>
    (if (R_length s3) ≤ (R_place s3) then
    k34 s3
    else
    ochi (R_place s3) 400 (
    (if ((R_text s3) (Int32.toNatClampNeg (R_place s3))) = (32 : Int32) then
    olt ((R_place s3) + (1 : Int32)) (fun z38 =>
    olt (uR_place s3 z38) (fun s39 =>
    f_X3_next_L8 F n s39))
    else
    k34 s3))))

def f_X3_next (F : Nat) (s : SR) : Option SR :=
    olt (R_after s) (fun z1 =>
    olt (uR_place s z1) (fun s2 =>
    f_X3_next_L8 F F s2))

set_option maxHeartbeats 4000000 in
set_option maxRecDepth 100000 in
theorem w_X3_next_L82 {E : GE} {cs : CS} {ad : Nat → Nat} {F : Nat} {k138_ : SR → Option SR} {r : SR} (hty : eT E = tyA cs) (hr : Rv E kX3_next (wR cs ad r)) (K138_ : ∀ (s10 : SR), k138_ s10 = some r → G E kX3_next 0 0 138 [(0, .ref (ad 0))] [] (wR cs ad s10)) : ∀ (n : Nat) (s16 : SR), f_X3_next_L82 F k138_ n s16 = some r → G E kX3_next 0 0 82 [(0, .ref (ad 0))] [] (wR cs ad s16) := by
  intro n
  induction n with
  | zero =>
    intro s16 hf
    cases (show (none : Option SR) = some r from hf)
  | succ n ih =>
    intro s16 hf
    rw [f_X3_next_L82] at hf
    refine g_aload_n 0 dX3_next_82 rfl rfl ?_
    refine g_get (ci := 3) (T := TX3) (N := 9) 0 6 (.int (R_after s16)) dX3_next_83 iX3_next_X3 rfl jX3_next_33 (by decide) wlaR_0 rfl ?_
    refine g_aload_n 0 dX3_next_86 rfl rfl ?_
    refine g_get (ci := 3) (T := TX3) (N := 9) 0 2 (.int (R_length s16)) dX3_next_87 iX3_next_X3 rfl jX3_next_25 (by decide) wlaR_0 rfl ?_
    refine g_icmp_ge (tgt := 138) dX3_next_90 (by decide) (fun h17 => ?_) (fun h17 => ?_)
    · have hf := ift h17 hf
      exact g_sub [0] rfl (K138_ s16 hf)
    · have hf := iff_ h17 hf
      refine g_aload_n 0 dX3_next_93 rfl rfl ?_
      refine g_aload_n 0 dX3_next_94 rfl rfl ?_
      refine g_get (ci := 3) (T := TX3) (N := 9) 0 6 (.int (R_after s16)) dX3_next_95 iX3_next_X3 rfl jX3_next_33 (by decide) wlaR_0 rfl ?_
      obtain ⟨v18, hc19, hf⟩ := obd_some hf
      refine g_callVi (ci := 3) (As := [.int (R_after s16)]) (rest := []) (w2 := (wR cs ad s16)) 0 dX3_next_98 vX3_next_147 (c_X3_signAt ad hty hc19) rfl (mid0 _) rfl rfl 0 wlaR_0 rfl (Nat.le_of_ble_eq_true rfl) ⟨Nat.zero_le _, Nat.zero_le _⟩ (mid2 _ _) ?_
      refine g_aload_n 0 dX3_next_101 rfl rfl ?_
      refine g_get (ci := 3) (T := TX3) (N := 9) 0 4 (.int (R_sign s16)) dX3_next_102 iX3_next_X3 rfl jX3_next_44 (by decide) wlaR_0 rfl ?_
      refine g_icmp_ne (tgt := 138) dX3_next_105 (by decide) (fun h20 => ?_) (fun h20 => ?_)
      · have hf := iff_ h20 hf
        exact g_sub [0] rfl (K138_ s16 hf)
      · have hf := ift h20 hf
        refine g_aload_n 0 dX3_next_108 rfl rfl ?_
        refine g_dup dX3_next_109 rfl ?_
        refine g_get (ci := 3) (T := TX3) (N := 9) 0 6 (.int (R_after s16)) dX3_next_110 iX3_next_X3 rfl jX3_next_33 (by decide) wlaR_0 rfl ?_
        refine g_iconst (v := (1 : Int32)) dX3_next_113 (by decide) ?_
        refine g_iadd dX3_next_114 ?_
        obtain ⟨z21, e_z21, hf⟩ := olt_some hf
        refine g_cast rfl rfl (congrArg (fun q => Value.int q :: [.ref (ad 0)]) e_z21) rfl ?_
        obtain ⟨s22, e_s22, hf⟩ := olt_some hf
        refine g_put (ci := 3) (T := TX3) (N := 9) (ty := .int) (w2 := (wR cs ad s22)) 0 6 (.int z21) tyX3 dX3_next_115 iX3_next_X3 tyX3_ok nmX3 rfl jX3_next_33 (by decide) rfl rfl rfl rfl wlaR_0 (Nat.le_of_ble_eq_true rfl) (wlpR_0_6.trans (congrArg (wR cs ad) e_s22)) ?_
        refine g_goto (tgt := 82) dX3_next_118 (by decide) ?_
        exact g_sub [0] rfl (ih s22 hf)

set_option maxHeartbeats 4000000 in
set_option maxRecDepth 100000 in
theorem w_X3_next_L8 {E : GE} {cs : CS} {ad : Nat → Nat} {F : Nat} {r : SR} (hty : eT E = tyA cs) (hr : Rv E kX3_next (wR cs ad r)) : ∀ (n : Nat) (s3 : SR), f_X3_next_L8 F n s3 = some r → G E kX3_next 0 0 8 [(0, .ref (ad 0))] [] (wR cs ad s3) := by
  intro n
  induction n with
  | zero =>
    intro s3 hf
    cases (show (none : Option SR) = some r from hf)
  | succ n ih =>
    intro s3 hf
    rw [f_X3_next_L8] at hf
    refine g_aload_n 0 dX3_next_8 rfl rfl ?_
    refine g_get (ci := 3) (T := TX3) (N := 9) 0 5 (.int (R_place s3)) dX3_next_9 iX3_next_X3 rfl jX3_next_51 (by decide) wlaR_0 rfl ?_
    refine g_aload_n 0 dX3_next_12 rfl rfl ?_
    refine g_get (ci := 3) (T := TX3) (N := 9) 0 2 (.int (R_length s3)) dX3_next_13 iX3_next_X3 rfl jX3_next_25 (by decide) wlaR_0 rfl ?_
    obtain ⟨k34, e_k34, hf⟩ := olt_some hf
    have K_k34 : ∀ (s4 : SR), k34 s4 = some r → G E kX3_next 0 0 46 [(0, .ref (ad 0))] [] (wR cs ad s4) := by
      intro s4 hf
      rw [← e_k34] at hf
      refine g_aload_n 0 dX3_next_46 rfl rfl ?_
      refine g_aload_n 0 dX3_next_47 rfl rfl ?_
      refine g_get (ci := 3) (T := TX3) (N := 9) 0 5 (.int (R_place s4)) dX3_next_48 iX3_next_X3 rfl jX3_next_51 (by decide) wlaR_0 rfl ?_
      obtain ⟨z5, e_z5, hf⟩ := olt_some hf
      refine g_cast rfl rfl (congrArg (fun q => Value.int q :: [.ref (ad 0)]) e_z5) rfl ?_
      obtain ⟨s6, e_s6, hf⟩ := olt_some hf
      refine g_put (ci := 3) (T := TX3) (N := 9) (ty := .int) (w2 := (wR cs ad s6)) 0 6 (.int z5) tyX3 dX3_next_51 iX3_next_X3 tyX3_ok nmX3 rfl jX3_next_33 (by decide) rfl rfl rfl rfl wlaR_0 (Nat.le_of_ble_eq_true rfl) (wlpR_0_6.trans (congrArg (wR cs ad) e_s6)) ?_
      refine g_aload_n 0 dX3_next_54 rfl rfl ?_
      refine g_aload_n 0 dX3_next_55 rfl rfl ?_
      refine g_aload_n 0 dX3_next_56 rfl rfl ?_
      refine g_get (ci := 3) (T := TX3) (N := 9) 0 5 (.int (R_place s6)) dX3_next_57 iX3_next_X3 rfl jX3_next_51 (by decide) wlaR_0 rfl ?_
      obtain ⟨v7, hc8, hf⟩ := obd_some hf
      refine g_callVi (ci := 3) (As := [.int (R_place s6)]) (rest := [.ref (ad 0)]) (w2 := (wR cs ad s6)) 0 dX3_next_60 vX3_next_147 (c_X3_signAt ad hty hc8) rfl (mid0 _) rfl rfl 0 wlaR_0 rfl (Nat.le_of_ble_eq_true rfl) ⟨Nat.zero_le _, Nat.zero_le _⟩ (mid2 _ _) ?_
      obtain ⟨s9, e_s9, hf⟩ := olt_some hf
      refine g_put (ci := 3) (T := TX3) (N := 9) (ty := .int) (w2 := (wR cs ad s9)) 0 4 (.int v7) tyX3 dX3_next_63 iX3_next_X3 tyX3_ok nmX3 rfl jX3_next_44 (by decide) rfl rfl rfl rfl wlaR_0 (Nat.le_of_ble_eq_true rfl) (wlpR_0_4.trans (congrArg (wR cs ad) e_s9)) ?_
      refine g_aload_n 0 dX3_next_66 rfl rfl ?_
      refine g_get (ci := 3) (T := TX3) (N := 9) 0 4 (.int (R_sign s9)) dX3_next_67 iX3_next_X3 rfl jX3_next_44 (by decide) wlaR_0 rfl ?_
      refine g_iconst (v := (1 : Int32)) dX3_next_70 (by decide) ?_
      obtain ⟨k14, e_k14, hf⟩ := olt_some hf
      have K_k14 : ∀ (s10 : SR), k14 s10 = some r → G E kX3_next 0 0 138 [(0, .ref (ad 0))] [] (wR cs ad s10) := by
        intro s10 hf
        rw [← e_k14] at hf
        refine g_aload_n 0 dX3_next_138 rfl rfl ?_
        refine g_get (ci := 3) (T := TX3) (N := 9) 0 4 (.int (R_sign s10)) dX3_next_139 iX3_next_X3 rfl jX3_next_44 (by decide) wlaR_0 rfl ?_
        refine g_iconst (v := (2 : Int32)) dX3_next_142 (by decide) ?_
        refine g_icmp_ne (tgt := 150) dX3_next_143 (by decide) (fun h11 => ?_) (fun h11 => ?_)
        · have hf := iff_ h11 hf
          obtain rfl := Option.some.inj hf
          exact hr _ _ dX3_next_150
        · have hf := ift h11 hf
          refine g_aload_n 0 dX3_next_146 rfl rfl ?_
          obtain ⟨v12, hc13, hf⟩ := obd_some hf
          refine g_callVv (ci := 3) (As := []) (rest := []) (w2 := (wR cs ad v12)) 0 dX3_next_147 vX3_next_151 (c_X3_valueNumber ad hty hc13) rfl (mid0 _) rfl rfl 0 wlaR_0 rfl (Nat.le_of_ble_eq_true rfl) ⟨Nat.zero_le _, Nat.zero_le _⟩ (mid2 _ _) ?_
          obtain rfl := Option.some.inj hf
          exact hr _ _ dX3_next_150
      refine g_icmp_eq (tgt := 82) dX3_next_71 (by decide) (fun h15 => ?_) (fun h15 => ?_)
      · have hf := ift h15 hf
        exact g_sub [0] rfl (w_X3_next_L82 hty hr K_k14 F s9 hf)
      · have hf := iff_ h15 hf
        refine g_aload_n 0 dX3_next_74 rfl rfl ?_
        refine g_get (ci := 3) (T := TX3) (N := 9) 0 4 (.int (R_sign s9)) dX3_next_75 iX3_next_X3 rfl jX3_next_44 (by decide) wlaR_0 rfl ?_
        refine g_iconst (v := (2 : Int32)) dX3_next_78 (by decide) ?_
        refine g_icmp_ne (tgt := 121) dX3_next_79 (by decide) (fun h23 => ?_) (fun h23 => ?_)
        · have hf := iff_ h23 hf
          refine g_aload_n 0 dX3_next_121 rfl rfl ?_
          refine g_get (ci := 3) (T := TX3) (N := 9) 0 4 (.int (R_sign s9)) dX3_next_122 iX3_next_X3 rfl jX3_next_44 (by decide) wlaR_0 rfl ?_
          refine g_if_eq (tgt := 138) dX3_next_125 (by decide) (fun h24 => ?_) (fun h24 => ?_)
          · have hf := ift h24 hf
            exact g_sub [0] rfl (K_k14 s9 hf)
          · have hf := iff_ h24 hf
            refine g_aload_n 0 dX3_next_128 rfl rfl ?_
            refine g_dup dX3_next_129 rfl ?_
            refine g_get (ci := 3) (T := TX3) (N := 9) 0 6 (.int (R_after s9)) dX3_next_130 iX3_next_X3 rfl jX3_next_33 (by decide) wlaR_0 rfl ?_
            refine g_iconst (v := (1 : Int32)) dX3_next_133 (by decide) ?_
            refine g_iadd dX3_next_134 ?_
            obtain ⟨z25, e_z25, hf⟩ := olt_some hf
            refine g_cast rfl rfl (congrArg (fun q => Value.int q :: [.ref (ad 0)]) e_z25) rfl ?_
            obtain ⟨s26, e_s26, hf⟩ := olt_some hf
            refine g_put (ci := 3) (T := TX3) (N := 9) (ty := .int) (w2 := (wR cs ad s26)) 0 6 (.int z25) tyX3 dX3_next_135 iX3_next_X3 tyX3_ok nmX3 rfl jX3_next_33 (by decide) rfl rfl rfl rfl wlaR_0 (Nat.le_of_ble_eq_true rfl) (wlpR_0_6.trans (congrArg (wR cs ad) e_s26)) ?_
            exact g_sub [0] rfl (K_k14 s26 hf)
        · have hf := ift h23 hf
          exact g_sub [0] rfl (w_X3_next_L82 hty hr K_k14 F s9 hf)
    refine g_icmp_ge (tgt := 46) dX3_next_16 (by decide) (fun h35 => ?_) (fun h35 => ?_)
    · have hf := ift h35 hf
      exact g_sub [0] rfl (K_k34 s3 hf)
    · have hf := iff_ h35 hf
      refine g_aload_n 0 dX3_next_19 rfl rfl ?_
      refine g_get (ci := 3) (T := TX3) (N := 9) 0 0 (.ref (ad 1)) dX3_next_20 iX3_next_X3 rfl jX3_next_9 (by decide) wlaR_0 rfl ?_
      refine g_aload_n 0 dX3_next_23 rfl rfl ?_
      refine g_get (ci := 3) (T := TX3) (N := 9) 0 5 (.int (R_place s3)) dX3_next_24 iX3_next_X3 rfl jX3_next_51 (by decide) wlaR_0 rfl ?_
      obtain ⟨h36, hf⟩ := ochi_some hf
      refine g_iald 1 0 dX3_next_27 wlaR_1 (tI hty) h36 ?_
      refine g_bipush (v := (32 : Int32)) dX3_next_28 (by decide) ?_
      refine g_icmp_ne (tgt := 46) dX3_next_30 (by decide) (fun h37 => ?_) (fun h37 => ?_)
      · have hf := iff_ h37 hf
        exact g_sub [0] rfl (K_k34 s3 hf)
      · have hf := ift h37 hf
        refine g_aload_n 0 dX3_next_33 rfl rfl ?_
        refine g_dup dX3_next_34 rfl ?_
        refine g_get (ci := 3) (T := TX3) (N := 9) 0 5 (.int (R_place s3)) dX3_next_35 iX3_next_X3 rfl jX3_next_51 (by decide) wlaR_0 rfl ?_
        refine g_iconst (v := (1 : Int32)) dX3_next_38 (by decide) ?_
        refine g_iadd dX3_next_39 ?_
        obtain ⟨z38, e_z38, hf⟩ := olt_some hf
        refine g_cast rfl rfl (congrArg (fun q => Value.int q :: [.ref (ad 0)]) e_z38) rfl ?_
        obtain ⟨s39, e_s39, hf⟩ := olt_some hf
        refine g_put (ci := 3) (T := TX3) (N := 9) (ty := .int) (w2 := (wR cs ad s39)) 0 5 (.int z38) tyX3 dX3_next_40 iX3_next_X3 tyX3_ok nmX3 rfl jX3_next_51 (by decide) rfl rfl rfl rfl wlaR_0 (Nat.le_of_ble_eq_true rfl) (wlpR_0_5.trans (congrArg (wR cs ad) e_s39)) ?_
        refine g_goto (tgt := 8) dX3_next_43 (by decide) ?_
        exact g_sub [0] rfl (ih s39 hf)

set_option maxHeartbeats 4000000 in
set_option maxRecDepth 100000 in
theorem c_X3_next {l : Launch} {D : va_G} {tys : List (ClassId × FieldType)} {X : XT} {cs : CS} (ad : Nat → Nat) {F : Nat} {s : SR} {r : SR} (htyM : tys = tyA cs) (hf : f_X3_next F s = some r) : Cv l D tys X yX3_next wsX3_next rmX3_next [.ref (ad 0)] (wR cs ad s) (wR cs ad r) := by
  refine Cv_ofG (by decide +kernel) rfl (Nat.le_of_ble_eq_true rfl) (fun E _ _ hty0 hX0 hr => ?_)
  have hty := hty0.trans htyM
  have hr : Rv E kX3_next (wR cs ad r) := hr
  show G E kX3_next 0 0 0 [(0, .ref (ad 0))] [] (wR cs ad s)
  unfold f_X3_next at hf
  refine g_aload_n 0 dX3_next_0 rfl rfl ?_
  refine g_aload_n 0 dX3_next_1 rfl rfl ?_
  refine g_get (ci := 3) (T := TX3) (N := 9) 0 6 (.int (R_after s)) dX3_next_2 iX3_next_X3 rfl jX3_next_33 (by decide) wlaR_0 rfl ?_
  obtain ⟨z1, e_z1, hf⟩ := olt_some hf
  refine g_cast rfl rfl (congrArg (fun q => Value.int q :: [.ref (ad 0)]) e_z1) rfl ?_
  obtain ⟨s2, e_s2, hf⟩ := olt_some hf
  refine g_put (ci := 3) (T := TX3) (N := 9) (ty := .int) (w2 := (wR cs ad s2)) 0 5 (.int z1) tyX3 dX3_next_5 iX3_next_X3 tyX3_ok nmX3 rfl jX3_next_51 (by decide) rfl rfl rfl rfl wlaR_0 (Nat.le_of_ble_eq_true rfl) (wlpR_0_5.trans (congrArg (wR cs ad) e_s2)) ?_
  exact g_sub [0] rfl (w_X3_next_L8 hty hr F s2 hf)

-- ThumbScale$Reader isWord (Ljava/lang/String;)Z
def rmX3_isWord : Room := { frames := 4, cells := 0, slots := 0, locals := 85 }
def kX3_isWord : MK := (cX3_isWord, 3, RX3, wsX3_isWord, (some .boolean), rmX3_isWord)

set_option maxRecDepth 20000 in
theorem jX3_isWord_44 : Cond.fieldLink RX3 44 (TX3 4).1 (TX3 4).2.1 (TX3 4).2.2.1 ∈ wsX3_isWord := by decide +kernel
set_option maxRecDepth 20000 in
theorem iX3_isWord_X3 : ∀ x ∈ u_ws RX3 TX3 9, x ∈ wsX3_isWord := by decide +kernel
set_option maxRecDepth 20000 in
theorem jX3_isWord_33 : Cond.fieldLink RX3 33 (TX3 6).1 (TX3 6).2.1 (TX3 6).2.2.1 ∈ wsX3_isWord := by decide +kernel
set_option maxRecDepth 20000 in
theorem jX3_isWord_51 : Cond.fieldLink RX3 51 (TX3 5).1 (TX3 5).2.1 (TX3 5).2.2.1 ∈ wsX3_isWord := by decide +kernel
set_option maxRecDepth 20000 in
theorem vX3_isWord_136 : KV kX3_isWord 136 RJ0 yJ0_length_8abf5 wsJ0_length_8abf5 rmJ0_length_8abf5 0 := ⟨_, _, _, _, gX3_isWord_J0_length_8abf5, rfl, rfl, rfl, by decide +kernel, ⟨by decide, by decide⟩⟩
set_option maxRecDepth 20000 in
theorem jX3_isWord_9 : Cond.fieldLink RX3 9 (TX3 0).1 (TX3 0).2.1 (TX3 0).2.2.1 ∈ wsX3_isWord := by decide +kernel
set_option maxRecDepth 20000 in
theorem vX3_isWord_140 : KV kX3_isWord 140 RJ0 yJ0_charAt_5068e wsJ0_charAt_5068e rmJ0_charAt_5068e 1 := ⟨_, _, _, _, gX3_isWord_J0_charAt_5068e, rfl, rfl, rfl, by decide +kernel, ⟨by decide, by decide⟩⟩
def f_X3_isWord_L28 (F : Nat) (s : SR) (a1 : Nat) : Nat → Int32 → Option Int32
  | 0, _ => none
  | n + 1, x3 =>
    (if (jlen a1) ≤ x3 then
    some (1 : Int32)
    else
    ochi ((R_place s) + x3) 400 (
    ochi x3 (sLen.getD a1 0) (
    (if ((R_text s) (Int32.toNatClampNeg ((R_place s) + x3))) = (jchr a1 (Int32.toNatClampNeg x3)) then
    f_X3_isWord_L28 F s a1 n (x3 + 1)
    else
    some (0 : Int32)))))

def f_X3_isWord (F : Nat) (s : SR) (a1 : Nat) : Option Int32 :=
    (if (R_sign s) = (1 : Int32) then
    (if ((R_after s) - (R_place s)) = (jlen a1) then
    f_X3_isWord_L28 F s a1 F (0 : Int32)
    else
    some (0 : Int32))
    else
    some (0 : Int32))

set_option maxHeartbeats 4000000 in
set_option maxRecDepth 100000 in
theorem w_X3_isWord_L28 {E : GE} {cs : CS} {ad : Nat → Nat} {F : Nat} {s : SR} {a1 : Nat} {r : Int32} (hty : eT E = tyA cs) {P : XP} (hN : eX E = XS P) (hq : a1 < 13) (hr : Rz E kX3_isWord r (wR cs ad s)) : ∀ (n : Nat) (x3 : Int32), f_X3_isWord_L28 F s a1 n x3 = some r → G E kX3_isWord 0 0 28 [(0, .ref (ad 0)), (1, .ref (P.2.1 a1)), (2, .int x3)] [] (wR cs ad s) := by
  intro n
  induction n with
  | zero =>
    intro x3 hf
    cases (show (none : Option Int32) = some r from hf)
  | succ n ih =>
    intro x3 hf
    rw [f_X3_isWord_L28] at hf
    refine g_iload_n 2 dX3_isWord_28 rfl rfl ?_
    refine g_aload_n 1 dX3_isWord_29 rfl rfl ?_
    refine g_callQi (As := []) (rest := [.int x3]) hN hq dX3_isWord_30 vX3_isWord_136 (c_J0_length_8abf5 hN hq) rfl rfl (Nat.le_of_ble_eq_true rfl) ⟨Nat.zero_le _, Nat.zero_le _⟩ ?_
    refine g_icmp_ge (tgt := 63) dX3_isWord_33 (by decide) (fun h4 => ?_) (fun h4 => ?_)
    · have hf := ift h4 hf
      refine g_iconst (v := (1 : Int32)) dX3_isWord_63 (by decide) ?_
      obtain rfl := Option.some.inj hf
      exact hr _ _ dX3_isWord_64 (Or.inr rfl)
    · have hf := iff_ h4 hf
      refine g_aload_n 0 dX3_isWord_36 rfl rfl ?_
      refine g_get (ci := 3) (T := TX3) (N := 9) 0 0 (.ref (ad 1)) dX3_isWord_37 iX3_isWord_X3 rfl jX3_isWord_9 (by decide) wlaR_0 rfl ?_
      refine g_aload_n 0 dX3_isWord_40 rfl rfl ?_
      refine g_get (ci := 3) (T := TX3) (N := 9) 0 5 (.int (R_place s)) dX3_isWord_41 iX3_isWord_X3 rfl jX3_isWord_51 (by decide) wlaR_0 rfl ?_
      refine g_iload_n 2 dX3_isWord_44 rfl rfl ?_
      refine g_iadd dX3_isWord_45 ?_
      obtain ⟨h5, hf⟩ := ochi_some hf
      refine g_iald 1 0 dX3_isWord_46 wlaR_1 (tI hty) h5 ?_
      refine g_aload_n 1 dX3_isWord_47 rfl rfl ?_
      refine g_iload_n 2 dX3_isWord_48 rfl rfl ?_
      obtain ⟨h6, hf⟩ := ochi_some hf
      refine g_callQi (As := [.int x3]) (rest := [.int ((R_text s) (Int32.toNatClampNeg ((R_place s) + x3)))]) hN hq dX3_isWord_49 vX3_isWord_140 (c_J0_charAt_5068e hN hq h6) rfl rfl (Nat.le_of_ble_eq_true rfl) ⟨Nat.zero_le _, Nat.zero_le _⟩ ?_
      refine g_icmp_eq (tgt := 57) dX3_isWord_52 (by decide) (fun h7 => ?_) (fun h7 => ?_)
      · have hf := ift h7 hf
        refine g_iinc (lv2 := [(2, .int (x3 + 1)), (0, .ref (ad 0)), (1, .ref (P.2.1 a1))]) 2 dX3_isWord_57 rfl (ii1 _) (by decide) rfl ?_
        refine g_goto (tgt := 28) dX3_isWord_60 (by decide) ?_
        exact g_sub [1, 2, 0] rfl (ih (x3 + 1) hf)
      · have hf := iff_ h7 hf
        refine g_iconst (v := (0 : Int32)) dX3_isWord_55 (by decide) ?_
        obtain rfl := Option.some.inj hf
        exact hr _ _ dX3_isWord_56 (Or.inl rfl)

set_option maxHeartbeats 4000000 in
set_option maxRecDepth 100000 in
theorem c_X3_isWord {l : Launch} {D : va_G} {tys : List (ClassId × FieldType)} {X : XT} {cs : CS} (ad : Nat → Nat) {F : Nat} {s : SR} {a1 : Nat} {r : Int32} (htyM : tys = tyA cs) {P : XP} (hNX : X = XS P) (hq : a1 < 13) (hf : f_X3_isWord F s a1 = some r) : Ci l D tys X yX3_isWord wsX3_isWord rmX3_isWord [.ref (ad 0), .ref (P.2.1 a1)] (wR cs ad s) r (wR cs ad s) := by
  refine Cz_ofG (by decide +kernel) rfl (Nat.le_of_ble_eq_true rfl) (fun E _ _ hty0 hX0 hr => ?_)
  have hty := hty0.trans htyM
  have hN := hX0.trans hNX
  have hr : Rz E kX3_isWord r (wR cs ad s) := hr
  show G E kX3_isWord 0 0 0 [(0, .ref (ad 0)), (1, .ref (P.2.1 a1))] [] (wR cs ad s)
  unfold f_X3_isWord at hf
  refine g_aload_n 0 dX3_isWord_0 rfl rfl ?_
  refine g_get (ci := 3) (T := TX3) (N := 9) 0 4 (.int (R_sign s)) dX3_isWord_1 iX3_isWord_X3 rfl jX3_isWord_44 (by decide) wlaR_0 rfl ?_
  refine g_iconst (v := (1 : Int32)) dX3_isWord_4 (by decide) ?_
  refine g_icmp_ne (tgt := 24) dX3_isWord_5 (by decide) (fun h1 => ?_) (fun h1 => ?_)
  · have hf := iff_ h1 hf
    refine g_iconst (v := (0 : Int32)) dX3_isWord_24 (by decide) ?_
    obtain rfl := Option.some.inj hf
    exact hr _ _ dX3_isWord_25 (Or.inl rfl)
  · have hf := ift h1 hf
    refine g_aload_n 0 dX3_isWord_8 rfl rfl ?_
    refine g_get (ci := 3) (T := TX3) (N := 9) 0 6 (.int (R_after s)) dX3_isWord_9 iX3_isWord_X3 rfl jX3_isWord_33 (by decide) wlaR_0 rfl ?_
    refine g_aload_n 0 dX3_isWord_12 rfl rfl ?_
    refine g_get (ci := 3) (T := TX3) (N := 9) 0 5 (.int (R_place s)) dX3_isWord_13 iX3_isWord_X3 rfl jX3_isWord_51 (by decide) wlaR_0 rfl ?_
    refine g_isub dX3_isWord_16 ?_
    refine g_aload_n 1 dX3_isWord_17 rfl rfl ?_
    refine g_callQi (As := []) (rest := [.int ((R_after s) - (R_place s))]) hN hq dX3_isWord_18 vX3_isWord_136 (c_J0_length_8abf5 hN hq) rfl rfl (Nat.le_of_ble_eq_true rfl) ⟨Nat.zero_le _, Nat.zero_le _⟩ ?_
    refine g_icmp_eq (tgt := 26) dX3_isWord_21 (by decide) (fun h2 => ?_) (fun h2 => ?_)
    · have hf := ift h2 hf
      refine g_iconst (v := (0 : Int32)) dX3_isWord_26 (by decide) ?_
      refine g_istore_n (lv2 := [(2, .int (0 : Int32)), (0, .ref (ad 0)), (1, .ref (P.2.1 a1))]) dX3_isWord_27 rfl (by decide) rfl ?_
      exact g_sub [1, 2, 0] rfl (w_X3_isWord_L28 hty hN hq hr F (0 : Int32) hf)
    · have hf := iff_ h2 hf
      refine g_iconst (v := (0 : Int32)) dX3_isWord_24 (by decide) ?_
      obtain rfl := Option.some.inj hf
      exact hr _ _ dX3_isWord_25 (Or.inl rfl)

-- ThumbScale$Reader takeWord (Ljava/lang/String;)Z
def rmX3_takeWord : Room := { frames := 5, cells := 0, slots := 0, locals := 107 }
def kX3_takeWord : MK := (cX3_takeWord, 2, RX3, wsX3_takeWord, (some .boolean), rmX3_takeWord)

set_option maxRecDepth 20000 in
theorem vX3_takeWord_127 : KV kX3_takeWord 127 RX3 yX3_isWord wsX3_isWord rmX3_isWord 1 := ⟨_, _, _, _, gX3_takeWord_X3_isWord, rfl, rfl, rfl, by decide +kernel, ⟨by decide, by decide⟩⟩
set_option maxRecDepth 20000 in
theorem vX3_takeWord_41 : KV kX3_takeWord 41 RX3 yX3_next wsX3_next rmX3_next 0 := ⟨_, _, _, _, gX3_takeWord_X3_next, rfl, rfl, rfl, by decide +kernel, ⟨by decide, by decide⟩⟩
def f_X3_takeWord (F : Nat) (s : SR) (a1 : Nat) : Option (Int32 × SR) :=
    obd (f_X3_isWord F s a1) (fun v1 =>
    (if v1 = 0 then
    some ((0 : Int32), s)
    else
    obd (f_X3_next F s) (fun v4 =>
    some ((1 : Int32), v4))))

set_option maxHeartbeats 4000000 in
set_option maxRecDepth 100000 in
theorem c_X3_takeWord {l : Launch} {D : va_G} {tys : List (ClassId × FieldType)} {X : XT} {cs : CS} (ad : Nat → Nat) {F : Nat} {s : SR} {a1 : Nat} {r : (Int32 × SR)} (htyM : tys = tyA cs) {P : XP} (hNX : X = XS P) (hq : a1 < 13) (hf : f_X3_takeWord F s a1 = some r) : Ci l D tys X yX3_takeWord wsX3_takeWord rmX3_takeWord [.ref (ad 0), .ref (P.2.1 a1)] (wR cs ad s) r.1 (wR cs ad r.2) := by
  refine Cz_ofG (by decide +kernel) rfl (Nat.le_of_ble_eq_true rfl) (fun E _ _ hty0 hX0 hr => ?_)
  have hty := hty0.trans htyM
  have hN := hX0.trans hNX
  have hr : Rz E kX3_takeWord r.1 (wR cs ad r.2) := hr
  show G E kX3_takeWord 0 0 0 [(0, .ref (ad 0)), (1, .ref (P.2.1 a1))] [] (wR cs ad s)
  unfold f_X3_takeWord at hf
  refine g_aload_n 0 dX3_takeWord_0 rfl rfl ?_
  refine g_aload_n 1 dX3_takeWord_1 rfl rfl ?_
  obtain ⟨v1, hc2, hf⟩ := obd_some hf
  refine g_callVi (ci := 3) (As := [.ref (P.2.1 a1)]) (rest := []) (w2 := (wR cs ad s)) 0 dX3_takeWord_2 vX3_takeWord_127 (c_X3_isWord ad hty hN hq hc2) rfl (mid0 _) rfl rfl 0 wlaR_0 rfl (Nat.le_of_ble_eq_true rfl) ⟨Nat.zero_le _, Nat.zero_le _⟩ (mid2 _ _) ?_
  refine g_if_ne (tgt := 10) dX3_takeWord_5 (by decide) (fun h3 => ?_) (fun h3 => ?_)
  · have hf := iff_ h3 hf
    refine g_aload_n 0 dX3_takeWord_10 rfl rfl ?_
    obtain ⟨v4, hc5, hf⟩ := obd_some hf
    refine g_callVv (ci := 3) (As := []) (rest := []) (w2 := (wR cs ad v4)) 0 dX3_takeWord_11 vX3_takeWord_41 (c_X3_next ad hty hc5) rfl (mid0 _) rfl rfl 0 wlaR_0 rfl (Nat.le_of_ble_eq_true rfl) ⟨Nat.zero_le _, Nat.zero_le _⟩ (mid2 _ _) ?_
    refine g_iconst (v := (1 : Int32)) dX3_takeWord_14 (by decide) ?_
    obtain rfl := Option.some.inj hf
    exact hr _ _ dX3_takeWord_15 (Or.inr rfl)
  · have hf := ift h3 hf
    refine g_iconst (v := (0 : Int32)) dX3_takeWord_8 (by decide) ?_
    obtain rfl := Option.some.inj hf
    exact hr _ _ dX3_takeWord_9 (Or.inl rfl)

-- ThumbScale$Reader takeNumber (II)Z
def rmX3_takeNumber : Room := { frames := 2, cells := 0, slots := 0, locals := 42 }
def kX3_takeNumber : MK := (cX3_takeNumber, 3, RX3, wsX3_takeNumber, (some .boolean), rmX3_takeNumber)

set_option maxRecDepth 20000 in
theorem jX3_takeNumber_44 : Cond.fieldLink RX3 44 (TX3 4).1 (TX3 4).2.1 (TX3 4).2.2.1 ∈ wsX3_takeNumber := by decide +kernel
set_option maxRecDepth 20000 in
theorem iX3_takeNumber_X3 : ∀ x ∈ u_ws RX3 TX3 9, x ∈ wsX3_takeNumber := by decide +kernel
set_option maxRecDepth 20000 in
theorem jX3_takeNumber_144 : Cond.fieldLink RX3 144 (TX3 7).1 (TX3 7).2.1 (TX3 7).2.2.1 ∈ wsX3_takeNumber := by decide +kernel
set_option maxRecDepth 20000 in
theorem jX3_takeNumber_88 : Cond.fieldLink RX3 88 (TX3 8).1 (TX3 8).2.1 (TX3 8).2.2.1 ∈ wsX3_takeNumber := by decide +kernel
set_option maxRecDepth 20000 in
theorem vX3_takeNumber_41 : KV kX3_takeNumber 41 RX3 yX3_next wsX3_next rmX3_next 0 := ⟨_, _, _, _, gX3_takeNumber_X3_next, rfl, rfl, rfl, by decide +kernel, ⟨by decide, by decide⟩⟩
def f_X3_takeNumber (F : Nat) (s : SR) (a1 : Int32) (a2 : Int32) : Option (Int32 × SR) :=
    (if (R_sign s) = (2 : Int32) then
    (if (R_value s) < a1 then
    some ((0 : Int32), s)
    else
    (if (R_value s) ≤ a2 then
    olt (R_value s) (fun z4 =>
    olt (uR_taken s z4) (fun s5 =>
    obd (f_X3_next F s5) (fun v6 =>
    some ((1 : Int32), v6))))
    else
    some ((0 : Int32), s)))
    else
    some ((0 : Int32), s))

set_option maxHeartbeats 4000000 in
set_option maxRecDepth 100000 in
theorem c_X3_takeNumber {l : Launch} {D : va_G} {tys : List (ClassId × FieldType)} {X : XT} {cs : CS} (ad : Nat → Nat) {F : Nat} {s : SR} {a1 : Int32} {a2 : Int32} {r : (Int32 × SR)} (htyM : tys = tyA cs) (hf : f_X3_takeNumber F s a1 a2 = some r) : Ci l D tys X yX3_takeNumber wsX3_takeNumber rmX3_takeNumber [.ref (ad 0), .int a1, .int a2] (wR cs ad s) r.1 (wR cs ad r.2) := by
  refine Cz_ofG (by decide +kernel) rfl (Nat.le_of_ble_eq_true rfl) (fun E _ _ hty0 hX0 hr => ?_)
  have hty := hty0.trans htyM
  have hr : Rz E kX3_takeNumber r.1 (wR cs ad r.2) := hr
  show G E kX3_takeNumber 0 0 0 [(0, .ref (ad 0)), (1, .int a1), (2, .int a2)] [] (wR cs ad s)
  unfold f_X3_takeNumber at hf
  refine g_aload_n 0 dX3_takeNumber_0 rfl rfl ?_
  refine g_get (ci := 3) (T := TX3) (N := 9) 0 4 (.int (R_sign s)) dX3_takeNumber_1 iX3_takeNumber_X3 rfl jX3_takeNumber_44 (by decide) wlaR_0 rfl ?_
  refine g_iconst (v := (2 : Int32)) dX3_takeNumber_4 (by decide) ?_
  refine g_icmp_ne (tgt := 24) dX3_takeNumber_5 (by decide) (fun h1 => ?_) (fun h1 => ?_)
  · have hf := iff_ h1 hf
    refine g_iconst (v := (0 : Int32)) dX3_takeNumber_24 (by decide) ?_
    obtain rfl := Option.some.inj hf
    exact hr _ _ dX3_takeNumber_25 (Or.inl rfl)
  · have hf := ift h1 hf
    refine g_aload_n 0 dX3_takeNumber_8 rfl rfl ?_
    refine g_get (ci := 3) (T := TX3) (N := 9) 0 7 (.int (R_value s)) dX3_takeNumber_9 iX3_takeNumber_X3 rfl jX3_takeNumber_144 (by decide) wlaR_0 rfl ?_
    refine g_iload_n 1 dX3_takeNumber_12 rfl rfl ?_
    refine g_icmp_lt (tgt := 24) dX3_takeNumber_13 (by decide) (fun h2 => ?_) (fun h2 => ?_)
    · have hf := ift h2 hf
      refine g_iconst (v := (0 : Int32)) dX3_takeNumber_24 (by decide) ?_
      obtain rfl := Option.some.inj hf
      exact hr _ _ dX3_takeNumber_25 (Or.inl rfl)
    · have hf := iff_ h2 hf
      refine g_aload_n 0 dX3_takeNumber_16 rfl rfl ?_
      refine g_get (ci := 3) (T := TX3) (N := 9) 0 7 (.int (R_value s)) dX3_takeNumber_17 iX3_takeNumber_X3 rfl jX3_takeNumber_144 (by decide) wlaR_0 rfl ?_
      refine g_iload_n 2 dX3_takeNumber_20 rfl rfl ?_
      refine g_icmp_le (tgt := 26) dX3_takeNumber_21 (by decide) (fun h3 => ?_) (fun h3 => ?_)
      · have hf := ift h3 hf
        refine g_aload_n 0 dX3_takeNumber_26 rfl rfl ?_
        refine g_aload_n 0 dX3_takeNumber_27 rfl rfl ?_
        refine g_get (ci := 3) (T := TX3) (N := 9) 0 7 (.int (R_value s)) dX3_takeNumber_28 iX3_takeNumber_X3 rfl jX3_takeNumber_144 (by decide) wlaR_0 rfl ?_
        obtain ⟨z4, e_z4, hf⟩ := olt_some hf
        refine g_cast rfl rfl (congrArg (fun q => Value.int q :: [.ref (ad 0)]) e_z4) rfl ?_
        obtain ⟨s5, e_s5, hf⟩ := olt_some hf
        refine g_put (ci := 3) (T := TX3) (N := 9) (ty := .int) (w2 := (wR cs ad s5)) 0 8 (.int z4) tyX3 dX3_takeNumber_31 iX3_takeNumber_X3 tyX3_ok nmX3 rfl jX3_takeNumber_88 (by decide) rfl rfl rfl rfl wlaR_0 (Nat.le_of_ble_eq_true rfl) (wlpR_0_8.trans (congrArg (wR cs ad) e_s5)) ?_
        refine g_aload_n 0 dX3_takeNumber_34 rfl rfl ?_
        obtain ⟨v6, hc7, hf⟩ := obd_some hf
        refine g_callVv (ci := 3) (As := []) (rest := []) (w2 := (wR cs ad v6)) 0 dX3_takeNumber_35 vX3_takeNumber_41 (c_X3_next ad hty hc7) rfl (mid0 _) rfl rfl 0 wlaR_0 rfl (Nat.le_of_ble_eq_true rfl) ⟨Nat.zero_le _, Nat.zero_le _⟩ (mid2 _ _) ?_
        refine g_iconst (v := (1 : Int32)) dX3_takeNumber_38 (by decide) ?_
        obtain rfl := Option.some.inj hf
        exact hr _ _ dX3_takeNumber_39 (Or.inr rfl)
      · have hf := iff_ h3 hf
        refine g_iconst (v := (0 : Int32)) dX3_takeNumber_24 (by decide) ?_
        obtain rfl := Option.some.inj hf
        exact hr _ _ dX3_takeNumber_25 (Or.inl rfl)

-- ThumbScale$Reader readLuck ()Z
def rmX3_readLuck : Room := { frames := 3, cells := 0, slots := 0, locals := 64 }
def kX3_readLuck : MK := (cX3_readLuck, 2, RX3, wsX3_readLuck, (some .boolean), rmX3_readLuck)

set_option maxRecDepth 20000 in
theorem jX3_readLuck_29 : Cond.fieldLink RX3 29 (TX3 3).1 (TX3 3).2.1 (TX3 3).2.2.1 ∈ wsX3_readLuck := by decide +kernel
set_option maxRecDepth 20000 in
theorem iX3_readLuck_X3 : ∀ x ∈ u_ws RX3 TX3 9, x ∈ wsX3_readLuck := by decide +kernel
set_option maxRecDepth 20000 in
theorem vX3_readLuck_84 : KV kX3_readLuck 84 RX3 yX3_takeNumber wsX3_takeNumber rmX3_takeNumber 2 := ⟨_, _, _, _, gX3_readLuck_X3_takeNumber, rfl, rfl, rfl, by decide +kernel, ⟨by decide, by decide⟩⟩
set_option maxRecDepth 20000 in
theorem jX3_readLuck_15 : Cond.fieldLink RX3 15 (TX3 1).1 (TX3 1).2.1 (TX3 1).2.2.1 ∈ wsX3_readLuck := by decide +kernel
set_option maxRecDepth 20000 in
theorem jX3_readLuck_88 : Cond.fieldLink RX3 88 (TX3 8).1 (TX3 8).2.1 (TX3 8).2.2.1 ∈ wsX3_readLuck := by decide +kernel
set_option maxRecDepth 20000 in
theorem jX3_readLuck_91 : Cond.fieldLink RX3 91 (TX2 0).1 (TX2 0).2.1 (TX2 0).2.2.1 ∈ wsX3_readLuck := by decide +kernel
set_option maxRecDepth 20000 in
theorem iX3_readLuck_X2 : ∀ x ∈ u_ws RX2 TX2 12, x ∈ wsX3_readLuck := by decide +kernel
set_option maxRecDepth 20000 in
theorem jX3_readLuck_94 : Cond.fieldLink RX3 94 (TX2 1).1 (TX2 1).2.1 (TX2 1).2.2.1 ∈ wsX3_readLuck := by decide +kernel
set_option maxRecDepth 20000 in
theorem jX3_readLuck_97 : Cond.fieldLink RX3 97 (TX2 2).1 (TX2 2).2.1 (TX2 2).2.2.1 ∈ wsX3_readLuck := by decide +kernel
def f_X3_readLuck (F : Nat) (s : SR) : Option (Int32 × SR) :=
    olt (uR_luckTold s (1 : Int32)) (fun s1 =>
    obd (f_X3_takeNumber F s1 (0 : Int32) (10 : Int32)) (fun v2 =>
    (if v2.1 = 0 then
    some ((0 : Int32), v2.2)
    else
    olt (R_taken v2.2) (fun z5 =>
    olt (uR_into v2.2 (uM_less (R_into v2.2) z5)) (fun s6 =>
    obd (f_X3_takeNumber F s6 (0 : Int32) (10 : Int32)) (fun v7 =>
    (if v7.1 = 0 then
    some ((0 : Int32), v7.2)
    else
    olt (R_taken v7.2) (fun z10 =>
    olt (uR_into v7.2 (uM_just (R_into v7.2) z10)) (fun s11 =>
    olt (((10 : Int32) - (M_less (R_into s11))) - (M_just (R_into s11))) (fun z12 =>
    obd (f_X3_takeNumber F s11 z12 z12) (fun v13 =>
    (if v13.1 = 0 then
    some ((0 : Int32), v13.2)
    else
    olt (R_taken v13.2) (fun z16 =>
    olt (uR_into v13.2 (uM_more (R_into v13.2) z16)) (fun s17 =>
    some ((1 : Int32), s17)))))))))))))))

set_option maxHeartbeats 4000000 in
set_option maxRecDepth 100000 in
theorem c_X3_readLuck {l : Launch} {D : va_G} {tys : List (ClassId × FieldType)} {X : XT} {cs : CS} (ad : Nat → Nat) {F : Nat} {s : SR} {r : (Int32 × SR)} (htyM : tys = tyA cs) (hf : f_X3_readLuck F s = some r) : Ci l D tys X yX3_readLuck wsX3_readLuck rmX3_readLuck [.ref (ad 0)] (wR cs ad s) r.1 (wR cs ad r.2) := by
  refine Cz_ofG (by decide +kernel) rfl (Nat.le_of_ble_eq_true rfl) (fun E _ _ hty0 hX0 hr => ?_)
  have hty := hty0.trans htyM
  have hr : Rz E kX3_readLuck r.1 (wR cs ad r.2) := hr
  show G E kX3_readLuck 0 0 0 [(0, .ref (ad 0))] [] (wR cs ad s)
  unfold f_X3_readLuck at hf
  refine g_aload_n 0 dX3_readLuck_0 rfl rfl ?_
  refine g_iconst (v := (1 : Int32)) dX3_readLuck_1 (by decide) ?_
  obtain ⟨s1, e_s1, hf⟩ := olt_some hf
  refine g_put (ci := 3) (T := TX3) (N := 9) (ty := .boolean) (w2 := (wR cs ad s1)) 0 3 (.int (1 : Int32)) tyX3 dX3_readLuck_2 iX3_readLuck_X3 tyX3_ok nmX3 rfl jX3_readLuck_29 (by decide) rfl rfl rfl rfl wlaR_0 (Nat.le_of_ble_eq_true rfl) (wlpR_0_3.trans (congrArg (wR cs ad) e_s1)) ?_
  refine g_aload_n 0 dX3_readLuck_5 rfl rfl ?_
  refine g_iconst (v := (0 : Int32)) dX3_readLuck_6 (by decide) ?_
  refine g_bipush (v := (10 : Int32)) dX3_readLuck_7 (by decide) ?_
  obtain ⟨v2, hc3, hf⟩ := obd_some hf
  refine g_callVi (ci := 3) (As := [.int (0 : Int32), .int (10 : Int32)]) (rest := []) (w2 := (wR cs ad v2.2)) 0 dX3_readLuck_9 vX3_readLuck_84 (c_X3_takeNumber ad hty hc3) rfl (mid0 _) rfl rfl 0 wlaR_0 rfl (Nat.le_of_ble_eq_true rfl) ⟨Nat.zero_le _, Nat.zero_le _⟩ (mid2 _ _) ?_
  refine g_if_ne (tgt := 17) dX3_readLuck_12 (by decide) (fun h4 => ?_) (fun h4 => ?_)
  · have hf := iff_ h4 hf
    refine g_aload_n 0 dX3_readLuck_17 rfl rfl ?_
    refine g_get (ci := 3) (T := TX3) (N := 9) 0 1 (.ref (ad 2)) dX3_readLuck_18 iX3_readLuck_X3 rfl jX3_readLuck_15 (by decide) wlaR_0 rfl ?_
    refine g_aload_n 0 dX3_readLuck_21 rfl rfl ?_
    refine g_get (ci := 3) (T := TX3) (N := 9) 0 8 (.int (R_taken v2.2)) dX3_readLuck_22 iX3_readLuck_X3 rfl jX3_readLuck_88 (by decide) wlaR_0 rfl ?_
    obtain ⟨z5, e_z5, hf⟩ := olt_some hf
    refine g_cast rfl rfl (congrArg (fun q => Value.int q :: [.ref (ad 2)]) e_z5) rfl ?_
    obtain ⟨s6, e_s6, hf⟩ := olt_some hf
    refine g_put (ci := 2) (T := TX2) (N := 12) (ty := .int) (w2 := (wR cs ad s6)) 2 0 (.int z5) tyX2 dX3_readLuck_25 iX3_readLuck_X2 tyX2_ok nmX2 rfl jX3_readLuck_91 (by decide) rfl rfl rfl rfl wlaR_2 (Nat.le_of_ble_eq_true rfl) (wlpR_2_0.trans (congrArg (wR cs ad) e_s6)) ?_
    refine g_aload_n 0 dX3_readLuck_28 rfl rfl ?_
    refine g_iconst (v := (0 : Int32)) dX3_readLuck_29 (by decide) ?_
    refine g_bipush (v := (10 : Int32)) dX3_readLuck_30 (by decide) ?_
    obtain ⟨v7, hc8, hf⟩ := obd_some hf
    refine g_callVi (ci := 3) (As := [.int (0 : Int32), .int (10 : Int32)]) (rest := []) (w2 := (wR cs ad v7.2)) 0 dX3_readLuck_32 vX3_readLuck_84 (c_X3_takeNumber ad hty hc8) rfl (mid0 _) rfl rfl 0 wlaR_0 rfl (Nat.le_of_ble_eq_true rfl) ⟨Nat.zero_le _, Nat.zero_le _⟩ (mid2 _ _) ?_
    refine g_if_ne (tgt := 40) dX3_readLuck_35 (by decide) (fun h9 => ?_) (fun h9 => ?_)
    · have hf := iff_ h9 hf
      refine g_aload_n 0 dX3_readLuck_40 rfl rfl ?_
      refine g_get (ci := 3) (T := TX3) (N := 9) 0 1 (.ref (ad 2)) dX3_readLuck_41 iX3_readLuck_X3 rfl jX3_readLuck_15 (by decide) wlaR_0 rfl ?_
      refine g_aload_n 0 dX3_readLuck_44 rfl rfl ?_
      refine g_get (ci := 3) (T := TX3) (N := 9) 0 8 (.int (R_taken v7.2)) dX3_readLuck_45 iX3_readLuck_X3 rfl jX3_readLuck_88 (by decide) wlaR_0 rfl ?_
      obtain ⟨z10, e_z10, hf⟩ := olt_some hf
      refine g_cast rfl rfl (congrArg (fun q => Value.int q :: [.ref (ad 2)]) e_z10) rfl ?_
      obtain ⟨s11, e_s11, hf⟩ := olt_some hf
      refine g_put (ci := 2) (T := TX2) (N := 12) (ty := .int) (w2 := (wR cs ad s11)) 2 1 (.int z10) tyX2 dX3_readLuck_48 iX3_readLuck_X2 tyX2_ok nmX2 rfl jX3_readLuck_94 (by decide) rfl rfl rfl rfl wlaR_2 (Nat.le_of_ble_eq_true rfl) (wlpR_2_1.trans (congrArg (wR cs ad) e_s11)) ?_
      refine g_bipush (v := (10 : Int32)) dX3_readLuck_51 (by decide) ?_
      refine g_aload_n 0 dX3_readLuck_53 rfl rfl ?_
      refine g_get (ci := 3) (T := TX3) (N := 9) 0 1 (.ref (ad 2)) dX3_readLuck_54 iX3_readLuck_X3 rfl jX3_readLuck_15 (by decide) wlaR_0 rfl ?_
      refine g_get (ci := 2) (T := TX2) (N := 12) 2 0 (.int (M_less (R_into s11))) dX3_readLuck_57 iX3_readLuck_X2 rfl jX3_readLuck_91 (by decide) wlaR_2 rfl ?_
      refine g_isub dX3_readLuck_60 ?_
      refine g_aload_n 0 dX3_readLuck_61 rfl rfl ?_
      refine g_get (ci := 3) (T := TX3) (N := 9) 0 1 (.ref (ad 2)) dX3_readLuck_62 iX3_readLuck_X3 rfl jX3_readLuck_15 (by decide) wlaR_0 rfl ?_
      refine g_get (ci := 2) (T := TX2) (N := 12) 2 1 (.int (M_just (R_into s11))) dX3_readLuck_65 iX3_readLuck_X2 rfl jX3_readLuck_94 (by decide) wlaR_2 rfl ?_
      refine g_isub dX3_readLuck_68 ?_
      obtain ⟨z12, e_z12, hf⟩ := olt_some hf
      refine g_cast rfl rfl (congrArg (fun q => Value.int q :: []) e_z12) rfl ?_
      refine g_istore_n (lv2 := [(1, .int z12), (0, .ref (ad 0))]) dX3_readLuck_69 rfl (by decide) rfl ?_
      refine g_aload_n 1 dX3_readLuck_70 rfl rfl ?_
      refine g_iload_n 0 dX3_readLuck_71 rfl rfl ?_
      refine g_iload_n 0 dX3_readLuck_72 rfl rfl ?_
      obtain ⟨v13, hc14, hf⟩ := obd_some hf
      refine g_callVi (ci := 3) (As := [.int z12, .int z12]) (rest := []) (w2 := (wR cs ad v13.2)) 0 dX3_readLuck_73 vX3_readLuck_84 (c_X3_takeNumber ad hty hc14) rfl (mid0 _) rfl rfl 0 wlaR_0 rfl (Nat.le_of_ble_eq_true rfl) ⟨Nat.zero_le _, Nat.zero_le _⟩ (mid2 _ _) ?_
      refine g_if_ne (tgt := 81) dX3_readLuck_76 (by decide) (fun h15 => ?_) (fun h15 => ?_)
      · have hf := iff_ h15 hf
        refine g_aload_n 1 dX3_readLuck_81 rfl rfl ?_
        refine g_get (ci := 3) (T := TX3) (N := 9) 0 1 (.ref (ad 2)) dX3_readLuck_82 iX3_readLuck_X3 rfl jX3_readLuck_15 (by decide) wlaR_0 rfl ?_
        refine g_aload_n 1 dX3_readLuck_85 rfl rfl ?_
        refine g_get (ci := 3) (T := TX3) (N := 9) 0 8 (.int (R_taken v13.2)) dX3_readLuck_86 iX3_readLuck_X3 rfl jX3_readLuck_88 (by decide) wlaR_0 rfl ?_
        obtain ⟨z16, e_z16, hf⟩ := olt_some hf
        refine g_cast rfl rfl (congrArg (fun q => Value.int q :: [.ref (ad 2)]) e_z16) rfl ?_
        obtain ⟨s17, e_s17, hf⟩ := olt_some hf
        refine g_put (ci := 2) (T := TX2) (N := 12) (ty := .int) (w2 := (wR cs ad s17)) 2 2 (.int z16) tyX2 dX3_readLuck_89 iX3_readLuck_X2 tyX2_ok nmX2 rfl jX3_readLuck_97 (by decide) rfl rfl rfl rfl wlaR_2 (Nat.le_of_ble_eq_true rfl) (wlpR_2_2.trans (congrArg (wR cs ad) e_s17)) ?_
        refine g_iconst (v := (1 : Int32)) dX3_readLuck_92 (by decide) ?_
        obtain rfl := Option.some.inj hf
        exact hr _ _ dX3_readLuck_93 (Or.inr rfl)
      · have hf := ift h15 hf
        refine g_iconst (v := (0 : Int32)) dX3_readLuck_79 (by decide) ?_
        obtain rfl := Option.some.inj hf
        exact hr _ _ dX3_readLuck_80 (Or.inl rfl)
    · have hf := ift h9 hf
      refine g_iconst (v := (0 : Int32)) dX3_readLuck_38 (by decide) ?_
      obtain rfl := Option.some.inj hf
      exact hr _ _ dX3_readLuck_39 (Or.inl rfl)
  · have hf := ift h4 hf
    refine g_iconst (v := (0 : Int32)) dX3_readLuck_15 (by decide) ?_
    obtain rfl := Option.some.inj hf
    exact hr _ _ dX3_readLuck_16 (Or.inl rfl)

-- ThumbScale$Reader readStall ()Z
def rmX3_readStall : Room := { frames := 3, cells := 0, slots := 0, locals := 64 }
def kX3_readStall : MK := (cX3_readStall, 3, RX3, wsX3_readStall, (some .boolean), rmX3_readStall)

set_option maxRecDepth 20000 in
theorem vX3_readStall_84 : KV kX3_readStall 84 RX3 yX3_takeNumber wsX3_takeNumber rmX3_takeNumber 2 := ⟨_, _, _, _, gX3_readStall_X3_takeNumber, rfl, rfl, rfl, by decide +kernel, ⟨by decide, by decide⟩⟩
set_option maxRecDepth 20000 in
theorem jX3_readStall_88 : Cond.fieldLink RX3 88 (TX3 8).1 (TX3 8).2.1 (TX3 8).2.2.1 ∈ wsX3_readStall := by decide +kernel
set_option maxRecDepth 20000 in
theorem iX3_readStall_X3 : ∀ x ∈ u_ws RX3 TX3 9, x ∈ wsX3_readStall := by decide +kernel
set_option maxRecDepth 20000 in
theorem jX3_readStall_15 : Cond.fieldLink RX3 15 (TX3 1).1 (TX3 1).2.1 (TX3 1).2.2.1 ∈ wsX3_readStall := by decide +kernel
set_option maxRecDepth 20000 in
theorem vX3_readStall_100 : KV kX3_readStall 100 RX2 yX2_addStall wsX2_addStall rmX2_addStall 3 := ⟨_, _, _, _, gX3_readStall_X2_addStall, rfl, rfl, rfl, by decide +kernel, ⟨by decide, by decide⟩⟩
def f_X3_readStall (F : Nat) (s : SR) : Option (Int32 × SR) :=
    obd (f_X3_takeNumber F s (1 : Int32) (20 : Int32)) (fun v1 =>
    (if v1.1 = 0 then
    some ((0 : Int32), v1.2)
    else
    obd (f_X3_takeNumber F v1.2 (0 : Int32) (9 : Int32)) (fun v4 =>
    (if v4.1 = 0 then
    some ((0 : Int32), v4.2)
    else
    obd (f_X3_takeNumber F v4.2 (0 : Int32) (99 : Int32)) (fun v7 =>
    (if v7.1 = 0 then
    some ((0 : Int32), v7.2)
    else
    obd (f_X2_addStall F (R_into v7.2) (R_taken v1.2) (R_taken v4.2) (R_taken v7.2)) (fun v10 =>
    olt (uR_into v7.2 v10) (fun s12 =>
    some ((1 : Int32), s12)))))))))

set_option maxHeartbeats 4000000 in
set_option maxRecDepth 100000 in
theorem c_X3_readStall {l : Launch} {D : va_G} {tys : List (ClassId × FieldType)} {X : XT} {cs : CS} (ad : Nat → Nat) {F : Nat} {s : SR} {r : (Int32 × SR)} (htyM : tys = tyA cs) (hf : f_X3_readStall F s = some r) : Ci l D tys X yX3_readStall wsX3_readStall rmX3_readStall [.ref (ad 0)] (wR cs ad s) r.1 (wR cs ad r.2) := by
  refine Cz_ofG (by decide +kernel) rfl (Nat.le_of_ble_eq_true rfl) (fun E _ _ hty0 hX0 hr => ?_)
  have hty := hty0.trans htyM
  have hr : Rz E kX3_readStall r.1 (wR cs ad r.2) := hr
  show G E kX3_readStall 0 0 0 [(0, .ref (ad 0))] [] (wR cs ad s)
  unfold f_X3_readStall at hf
  refine g_aload_n 0 dX3_readStall_0 rfl rfl ?_
  refine g_iconst (v := (1 : Int32)) dX3_readStall_1 (by decide) ?_
  refine g_bipush (v := (20 : Int32)) dX3_readStall_2 (by decide) ?_
  obtain ⟨v1, hc2, hf⟩ := obd_some hf
  refine g_callVi (ci := 3) (As := [.int (1 : Int32), .int (20 : Int32)]) (rest := []) (w2 := (wR cs ad v1.2)) 0 dX3_readStall_4 vX3_readStall_84 (c_X3_takeNumber ad hty hc2) rfl (mid0 _) rfl rfl 0 wlaR_0 rfl (Nat.le_of_ble_eq_true rfl) ⟨Nat.zero_le _, Nat.zero_le _⟩ (mid2 _ _) ?_
  refine g_if_ne (tgt := 12) dX3_readStall_7 (by decide) (fun h3 => ?_) (fun h3 => ?_)
  · have hf := iff_ h3 hf
    refine g_aload_n 0 dX3_readStall_12 rfl rfl ?_
    refine g_get (ci := 3) (T := TX3) (N := 9) 0 8 (.int (R_taken v1.2)) dX3_readStall_13 iX3_readStall_X3 rfl jX3_readStall_88 (by decide) wlaR_0 rfl ?_
    refine g_istore_n (lv2 := [(1, .int (R_taken v1.2)), (0, .ref (ad 0))]) dX3_readStall_16 rfl (by decide) rfl ?_
    refine g_aload_n 1 dX3_readStall_17 rfl rfl ?_
    refine g_iconst (v := (0 : Int32)) dX3_readStall_18 (by decide) ?_
    refine g_bipush (v := (9 : Int32)) dX3_readStall_19 (by decide) ?_
    obtain ⟨v4, hc5, hf⟩ := obd_some hf
    refine g_callVi (ci := 3) (As := [.int (0 : Int32), .int (9 : Int32)]) (rest := []) (w2 := (wR cs ad v4.2)) 0 dX3_readStall_21 vX3_readStall_84 (c_X3_takeNumber ad hty hc5) rfl (mid0 _) rfl rfl 0 wlaR_0 rfl (Nat.le_of_ble_eq_true rfl) ⟨Nat.zero_le _, Nat.zero_le _⟩ (mid2 _ _) ?_
    refine g_if_ne (tgt := 29) dX3_readStall_24 (by decide) (fun h6 => ?_) (fun h6 => ?_)
    · have hf := iff_ h6 hf
      refine g_aload_n 1 dX3_readStall_29 rfl rfl ?_
      refine g_get (ci := 3) (T := TX3) (N := 9) 0 8 (.int (R_taken v4.2)) dX3_readStall_30 iX3_readStall_X3 rfl jX3_readStall_88 (by decide) wlaR_0 rfl ?_
      refine g_istore_n (lv2 := [(2, .int (R_taken v4.2)), (1, .int (R_taken v1.2)), (0, .ref (ad 0))]) dX3_readStall_33 rfl (by decide) rfl ?_
      refine g_aload_n 2 dX3_readStall_34 rfl rfl ?_
      refine g_iconst (v := (0 : Int32)) dX3_readStall_35 (by decide) ?_
      refine g_bipush (v := (99 : Int32)) dX3_readStall_36 (by decide) ?_
      obtain ⟨v7, hc8, hf⟩ := obd_some hf
      refine g_callVi (ci := 3) (As := [.int (0 : Int32), .int (99 : Int32)]) (rest := []) (w2 := (wR cs ad v7.2)) 0 dX3_readStall_38 vX3_readStall_84 (c_X3_takeNumber ad hty hc8) rfl (mid0 _) rfl rfl 0 wlaR_0 rfl (Nat.le_of_ble_eq_true rfl) ⟨Nat.zero_le _, Nat.zero_le _⟩ (mid2 _ _) ?_
      refine g_if_ne (tgt := 46) dX3_readStall_41 (by decide) (fun h9 => ?_) (fun h9 => ?_)
      · have hf := iff_ h9 hf
        refine g_aload_n 2 dX3_readStall_46 rfl rfl ?_
        refine g_get (ci := 3) (T := TX3) (N := 9) 0 1 (.ref (ad 2)) dX3_readStall_47 iX3_readStall_X3 rfl jX3_readStall_15 (by decide) wlaR_0 rfl ?_
        refine g_iload_n 1 dX3_readStall_50 rfl rfl ?_
        refine g_iload_n 0 dX3_readStall_51 rfl rfl ?_
        refine g_aload_n 2 dX3_readStall_52 rfl rfl ?_
        refine g_get (ci := 3) (T := TX3) (N := 9) 0 8 (.int (R_taken v7.2)) dX3_readStall_53 iX3_readStall_X3 rfl jX3_readStall_88 (by decide) wlaR_0 rfl ?_
        obtain ⟨v10, hc11, hf⟩ := obd_some hf
        obtain ⟨s12, e_s12, hf⟩ := olt_some hf
        refine g_callVv (ci := 2) (As := [.int (R_taken v1.2), .int (R_taken v4.2), .int (R_taken v7.2)]) (rest := []) (w2 := (wR cs ad s12)) 2 dX3_readStall_56 vX3_readStall_100 (c_X2_addStall (fun k => ad (2 + k)) hty hc11) rfl wlhR_2 rfl rfl 0 wlaM_0 rfl (Nat.le_of_ble_eq_true rfl) ⟨Nat.zero_le _, Nat.zero_le _⟩ (wlcR_2.trans (congrArg (wR cs ad) e_s12)) ?_
        refine g_iconst (v := (1 : Int32)) dX3_readStall_59 (by decide) ?_
        obtain rfl := Option.some.inj hf
        exact hr _ _ dX3_readStall_60 (Or.inr rfl)
      · have hf := ift h9 hf
        refine g_iconst (v := (0 : Int32)) dX3_readStall_44 (by decide) ?_
        obtain rfl := Option.some.inj hf
        exact hr _ _ dX3_readStall_45 (Or.inl rfl)
    · have hf := ift h6 hf
      refine g_iconst (v := (0 : Int32)) dX3_readStall_27 (by decide) ?_
      obtain rfl := Option.some.inj hf
      exact hr _ _ dX3_readStall_28 (Or.inl rfl)
  · have hf := ift h3 hf
    refine g_iconst (v := (0 : Int32)) dX3_readStall_10 (by decide) ?_
    obtain rfl := Option.some.inj hf
    exact hr _ _ dX3_readStall_11 (Or.inl rfl)

-- ThumbScale$Reader sortHere ()I
def rmX3_sortHere : Room := { frames := 5, cells := 0, slots := 0, locals := 107 }
def kX3_sortHere : MK := (cX3_sortHere, 1, RX3, wsX3_sortHere, (some .int), rmX3_sortHere)

set_option maxRecDepth 20000 in
theorem vX3_sortHere_127 : KV kX3_sortHere 127 RX3 yX3_isWord wsX3_isWord rmX3_isWord 1 := ⟨_, _, _, _, gX3_sortHere_X3_isWord, rfl, rfl, rfl, by decide +kernel, ⟨by decide, by decide⟩⟩
def f_X3_sortHere (F : Nat) (s : SR) : Option Int32 :=
    obd (f_X3_isWord F s q_old) (fun v1 =>
    (if v1 = 0 then
    obd (f_X3_isWord F s q_young) (fun v4 =>
    (if v4 = 0 then
    obd (f_X3_isWord F s q_friend) (fun v7 =>
    (if v7 = 0 then
    obd (f_X3_isWord F s q_stranger) (fun v10 =>
    (if v10 = 0 then
    some (-1 : Int32)
    else
    some (3 : Int32)))
    else
    some (2 : Int32)))
    else
    some (1 : Int32)))
    else
    some (0 : Int32)))

set_option maxHeartbeats 4000000 in
set_option maxRecDepth 100000 in
theorem c_X3_sortHere {l : Launch} {D : va_G} {tys : List (ClassId × FieldType)} {X : XT} {cs : CS} (ad : Nat → Nat) {F : Nat} {s : SR} {r : Int32} (htyM : tys = tyA cs) {P : XP} (hNX : X = XS P) (hf : f_X3_sortHere F s = some r) : Ci l D tys X yX3_sortHere wsX3_sortHere rmX3_sortHere [.ref (ad 0)] (wR cs ad s) r (wR cs ad s) := by
  refine Ci_ofG (by decide +kernel) rfl (Nat.le_of_ble_eq_true rfl) .int rfl (vp_nar_int _) (fun E _ _ hty0 hX0 hr => ?_)
  have hty := hty0.trans htyM
  have hN := hX0.trans hNX
  have hr : Ri E kX3_sortHere r (wR cs ad s) := hr
  show G E kX3_sortHere 0 0 0 [(0, .ref (ad 0))] [] (wR cs ad s)
  unfold f_X3_sortHere at hf
  refine g_aload_n 0 dX3_sortHere_0 rfl rfl ?_
  refine g_ldcS (i := q_old) hN (by decide) rfl rfl dX3_sortHere_1 ?_
  obtain ⟨v1, hc2, hf⟩ := obd_some hf
  refine g_callVi (ci := 3) (As := [.ref (P.2.1 q_old)]) (rest := []) (w2 := (wR cs ad s)) 0 dX3_sortHere_3 vX3_sortHere_127 (c_X3_isWord ad hty hN (by decide) hc2) rfl (mid0 _) rfl rfl 0 wlaR_0 rfl (Nat.le_of_ble_eq_true rfl) ⟨Nat.zero_le _, Nat.zero_le _⟩ (mid2 _ _) ?_
  refine g_if_eq (tgt := 11) dX3_sortHere_6 (by decide) (fun h3 => ?_) (fun h3 => ?_)
  · have hf := ift h3 hf
    refine g_aload_n 0 dX3_sortHere_11 rfl rfl ?_
    refine g_ldcS (i := q_young) hN (by decide) rfl rfl dX3_sortHere_12 ?_
    obtain ⟨v4, hc5, hf⟩ := obd_some hf
    refine g_callVi (ci := 3) (As := [.ref (P.2.1 q_young)]) (rest := []) (w2 := (wR cs ad s)) 0 dX3_sortHere_14 vX3_sortHere_127 (c_X3_isWord ad hty hN (by decide) hc5) rfl (mid0 _) rfl rfl 0 wlaR_0 rfl (Nat.le_of_ble_eq_true rfl) ⟨Nat.zero_le _, Nat.zero_le _⟩ (mid2 _ _) ?_
    refine g_if_eq (tgt := 22) dX3_sortHere_17 (by decide) (fun h6 => ?_) (fun h6 => ?_)
    · have hf := ift h6 hf
      refine g_aload_n 0 dX3_sortHere_22 rfl rfl ?_
      refine g_ldcS (i := q_friend) hN (by decide) rfl rfl dX3_sortHere_23 ?_
      obtain ⟨v7, hc8, hf⟩ := obd_some hf
      refine g_callVi (ci := 3) (As := [.ref (P.2.1 q_friend)]) (rest := []) (w2 := (wR cs ad s)) 0 dX3_sortHere_25 vX3_sortHere_127 (c_X3_isWord ad hty hN (by decide) hc8) rfl (mid0 _) rfl rfl 0 wlaR_0 rfl (Nat.le_of_ble_eq_true rfl) ⟨Nat.zero_le _, Nat.zero_le _⟩ (mid2 _ _) ?_
      refine g_if_eq (tgt := 33) dX3_sortHere_28 (by decide) (fun h9 => ?_) (fun h9 => ?_)
      · have hf := ift h9 hf
        refine g_aload_n 0 dX3_sortHere_33 rfl rfl ?_
        refine g_ldcS (i := q_stranger) hN (by decide) rfl rfl dX3_sortHere_34 ?_
        obtain ⟨v10, hc11, hf⟩ := obd_some hf
        refine g_callVi (ci := 3) (As := [.ref (P.2.1 q_stranger)]) (rest := []) (w2 := (wR cs ad s)) 0 dX3_sortHere_36 vX3_sortHere_127 (c_X3_isWord ad hty hN (by decide) hc11) rfl (mid0 _) rfl rfl 0 wlaR_0 rfl (Nat.le_of_ble_eq_true rfl) ⟨Nat.zero_le _, Nat.zero_le _⟩ (mid2 _ _) ?_
        refine g_if_eq (tgt := 46) dX3_sortHere_39 (by decide) (fun h12 => ?_) (fun h12 => ?_)
        · have hf := ift h12 hf
          refine g_iconst (v := (-1 : Int32)) dX3_sortHere_46 (by decide) ?_
          obtain rfl := Option.some.inj hf
          exact hr _ _ dX3_sortHere_47
        · have hf := iff_ h12 hf
          refine g_iconst (v := (3 : Int32)) dX3_sortHere_42 (by decide) ?_
          refine g_goto (tgt := 47) dX3_sortHere_43 (by decide) ?_
          obtain rfl := Option.some.inj hf
          exact hr _ _ dX3_sortHere_47
      · have hf := iff_ h9 hf
        refine g_iconst (v := (2 : Int32)) dX3_sortHere_31 (by decide) ?_
        obtain rfl := Option.some.inj hf
        exact hr _ _ dX3_sortHere_32
    · have hf := iff_ h6 hf
      refine g_iconst (v := (1 : Int32)) dX3_sortHere_20 (by decide) ?_
      obtain rfl := Option.some.inj hf
      exact hr _ _ dX3_sortHere_21
  · have hf := iff_ h3 hf
    refine g_iconst (v := (0 : Int32)) dX3_sortHere_9 (by decide) ?_
    obtain rfl := Option.some.inj hf
    exact hr _ _ dX3_sortHere_10

-- ThumbScale$Reader readSorts ()I
def rmX3_readSorts : Room := { frames := 6, cells := 0, slots := 0, locals := 127 }
def kX3_readSorts : MK := (cX3_readSorts, 4, RX3, wsX3_readSorts, (some .int), rmX3_readSorts)

set_option maxRecDepth 20000 in
theorem vX3_readSorts_122 : KV kX3_readSorts 122 RX3 yX3_sortHere wsX3_sortHere rmX3_sortHere 0 := ⟨_, _, _, _, gX3_readSorts_X3_sortHere, rfl, rfl, rfl, by decide +kernel, ⟨by decide, by decide⟩⟩
set_option maxRecDepth 20000 in
theorem vX3_readSorts_41 : KV kX3_readSorts 41 RX3 yX3_next wsX3_next rmX3_next 0 := ⟨_, _, _, _, gX3_readSorts_X3_next, rfl, rfl, rfl, by decide +kernel, ⟨by decide, by decide⟩⟩
def f_X3_readSorts_L4 (F : Nat) : Nat → Int32 → Int32 → SR → Option (Int32 × SR)
  | 0, _, _, _ => none
  | n + 1, x1, x2, s3 =>
    (if (4 : Int32) < x2 then
    some (x1, s3)
    else
    obd (f_X3_sortHere F s3) (fun v5 =>
    (if 0 ≤ v5 then
    (if ((x1 >>> (v5 &&& 31)) &&& (1 : Int32)) = (1 : Int32) then
    some ((0 : Int32), s3)
    else
    obd (f_X3_next F s3) (fun v9 =>
    f_X3_readSorts_L4 F n (x1 ||| ((1 : Int32) <<< (v5 &&& 31))) (x2 + 1) v9))
    else
    some (x1, s3))))

def f_X3_readSorts (F : Nat) (s : SR) : Option (Int32 × SR) :=
    f_X3_readSorts_L4 F F (0 : Int32) (0 : Int32) s

set_option maxHeartbeats 4000000 in
set_option maxRecDepth 100000 in
theorem w_X3_readSorts_L4 {E : GE} {cs : CS} {ad : Nat → Nat} {F : Nat} {r : (Int32 × SR)} (hty : eT E = tyA cs) {P : XP} (hN : eX E = XS P) (hr : Ri E kX3_readSorts r.1 (wR cs ad r.2)) : ∀ (n : Nat) (x1 : Int32) (x2 : Int32) (s3 : SR), f_X3_readSorts_L4 F n x1 x2 s3 = some r → G E kX3_readSorts 0 0 4 [(0, .ref (ad 0)), (1, .int x1), (2, .int x2)] [] (wR cs ad s3) := by
  intro n
  induction n with
  | zero =>
    intro x1 x2 s3 hf
    cases (show (none : Option (Int32 × SR)) = some r from hf)
  | succ n ih =>
    intro x1 x2 s3 hf
    rw [f_X3_readSorts_L4] at hf
    refine g_iload_n 2 dX3_readSorts_4 rfl rfl ?_
    refine g_iconst (v := (4 : Int32)) dX3_readSorts_5 (by decide) ?_
    refine g_icmp_gt (tgt := 47) dX3_readSorts_6 (by decide) (fun h4 => ?_) (fun h4 => ?_)
    · have hf := ift h4 hf
      refine g_iload_n 1 dX3_readSorts_47 rfl rfl ?_
      obtain rfl := Option.some.inj hf
      exact hr _ _ dX3_readSorts_48
    · have hf := iff_ h4 hf
      refine g_aload_n 0 dX3_readSorts_9 rfl rfl ?_
      obtain ⟨v5, hc6, hf⟩ := obd_some hf
      refine g_callVi (ci := 3) (As := []) (rest := []) (w2 := (wR cs ad s3)) 0 dX3_readSorts_10 vX3_readSorts_122 (c_X3_sortHere ad hty hN hc6) rfl (mid0 _) rfl rfl 0 wlaR_0 rfl (Nat.le_of_ble_eq_true rfl) ⟨Nat.zero_le _, Nat.zero_le _⟩ (mid2 _ _) ?_
      refine g_istore_n (lv2 := [(3, .int v5), (0, .ref (ad 0)), (1, .int x1), (2, .int x2)]) dX3_readSorts_13 rfl (by decide) rfl ?_
      refine g_iload_n 0 dX3_readSorts_14 rfl rfl ?_
      refine g_if_ge (tgt := 20) dX3_readSorts_15 (by decide) (fun h7 => ?_) (fun h7 => ?_)
      · have hf := ift h7 hf
        refine g_iload_n 2 dX3_readSorts_20 rfl rfl ?_
        refine g_iload_n 0 dX3_readSorts_21 rfl rfl ?_
        refine g_ishr dX3_readSorts_22 ?_
        refine g_iconst (v := (1 : Int32)) dX3_readSorts_23 (by decide) ?_
        refine g_iand dX3_readSorts_24 ?_
        refine g_iconst (v := (1 : Int32)) dX3_readSorts_25 (by decide) ?_
        refine g_icmp_ne (tgt := 31) dX3_readSorts_26 (by decide) (fun h8 => ?_) (fun h8 => ?_)
        · have hf := iff_ h8 hf
          refine g_iload_n 2 dX3_readSorts_31 rfl rfl ?_
          refine g_iconst (v := (1 : Int32)) dX3_readSorts_32 (by decide) ?_
          refine g_iload_n 0 dX3_readSorts_33 rfl rfl ?_
          refine g_ishl dX3_readSorts_34 ?_
          refine g_ior dX3_readSorts_35 ?_
          refine g_istore_n (lv2 := [(1, .int (x1 ||| ((1 : Int32) <<< (v5 &&& 31)))), (3, .int v5), (0, .ref (ad 0)), (2, .int x2)]) dX3_readSorts_36 rfl (by decide) rfl ?_
          refine g_aload_n 2 dX3_readSorts_37 rfl rfl ?_
          obtain ⟨v9, hc10, hf⟩ := obd_some hf
          refine g_callVv (ci := 3) (As := []) (rest := []) (w2 := (wR cs ad v9)) 0 dX3_readSorts_38 vX3_readSorts_41 (c_X3_next ad hty hc10) rfl (mid0 _) rfl rfl 0 wlaR_0 rfl (Nat.le_of_ble_eq_true rfl) ⟨Nat.zero_le _, Nat.zero_le _⟩ (mid2 _ _) ?_
          refine g_iinc (lv2 := [(2, .int (x2 + 1)), (1, .int (x1 ||| ((1 : Int32) <<< (v5 &&& 31)))), (3, .int v5), (0, .ref (ad 0))]) 3 dX3_readSorts_41 rfl (ii1 _) (by decide) rfl ?_
          refine g_goto (tgt := 4) dX3_readSorts_44 (by decide) ?_
          exact g_sub [3, 1, 0] rfl (ih (x1 ||| ((1 : Int32) <<< (v5 &&& 31))) (x2 + 1) v9 hf)
        · have hf := ift h8 hf
          refine g_iconst (v := (0 : Int32)) dX3_readSorts_29 (by decide) ?_
          obtain rfl := Option.some.inj hf
          exact hr _ _ dX3_readSorts_30
      · have hf := iff_ h7 hf
        refine g_iload_n 2 dX3_readSorts_18 rfl rfl ?_
        obtain rfl := Option.some.inj hf
        exact hr _ _ dX3_readSorts_19

set_option maxHeartbeats 4000000 in
set_option maxRecDepth 100000 in
theorem c_X3_readSorts {l : Launch} {D : va_G} {tys : List (ClassId × FieldType)} {X : XT} {cs : CS} (ad : Nat → Nat) {F : Nat} {s : SR} {r : (Int32 × SR)} (htyM : tys = tyA cs) {P : XP} (hNX : X = XS P) (hf : f_X3_readSorts F s = some r) : Ci l D tys X yX3_readSorts wsX3_readSorts rmX3_readSorts [.ref (ad 0)] (wR cs ad s) r.1 (wR cs ad r.2) := by
  refine Ci_ofG (by decide +kernel) rfl (Nat.le_of_ble_eq_true rfl) .int rfl (vp_nar_int _) (fun E _ _ hty0 hX0 hr => ?_)
  have hty := hty0.trans htyM
  have hN := hX0.trans hNX
  have hr : Ri E kX3_readSorts r.1 (wR cs ad r.2) := hr
  show G E kX3_readSorts 0 0 0 [(0, .ref (ad 0))] [] (wR cs ad s)
  unfold f_X3_readSorts at hf
  refine g_iconst (v := (0 : Int32)) dX3_readSorts_0 (by decide) ?_
  refine g_istore_n (lv2 := [(1, .int (0 : Int32)), (0, .ref (ad 0))]) dX3_readSorts_1 rfl (by decide) rfl ?_
  refine g_iconst (v := (0 : Int32)) dX3_readSorts_2 (by decide) ?_
  refine g_istore_n (lv2 := [(2, .int (0 : Int32)), (1, .int (0 : Int32)), (0, .ref (ad 0))]) dX3_readSorts_3 rfl (by decide) rfl ?_
  exact g_sub [2, 1, 0] rfl (w_X3_readSorts_L4 hty hN hr F (0 : Int32) (0 : Int32) s hf)

-- ThumbScale$Reader readThumb ()Z
def rmX3_readThumb : Room := { frames := 7, cells := 0, slots := 0, locals := 150 }
def kX3_readThumb : MK := (cX3_readThumb, 4, RX3, wsX3_readThumb, (some .boolean), rmX3_readThumb)

set_option maxRecDepth 20000 in
theorem vX3_readThumb_84 : KV kX3_readThumb 84 RX3 yX3_takeNumber wsX3_takeNumber rmX3_takeNumber 2 := ⟨_, _, _, _, gX3_readThumb_X3_takeNumber, rfl, rfl, rfl, by decide +kernel, ⟨by decide, by decide⟩⟩
set_option maxRecDepth 20000 in
theorem jX3_readThumb_88 : Cond.fieldLink RX3 88 (TX3 8).1 (TX3 8).2.1 (TX3 8).2.2.1 ∈ wsX3_readThumb := by decide +kernel
set_option maxRecDepth 20000 in
theorem iX3_readThumb_X3 : ∀ x ∈ u_ws RX3 TX3 9, x ∈ wsX3_readThumb := by decide +kernel
set_option maxRecDepth 20000 in
theorem vX3_readThumb_56 : KV kX3_readThumb 56 RX3 yX3_takeWord wsX3_takeWord rmX3_takeWord 1 := ⟨_, _, _, _, gX3_readThumb_X3_takeWord, rfl, rfl, rfl, by decide +kernel, ⟨by decide, by decide⟩⟩
set_option maxRecDepth 20000 in
theorem vX3_readThumb_118 : KV kX3_readThumb 118 RX3 yX3_readSorts wsX3_readSorts rmX3_readSorts 0 := ⟨_, _, _, _, gX3_readThumb_X3_readSorts, rfl, rfl, rfl, by decide +kernel, ⟨by decide, by decide⟩⟩
set_option maxRecDepth 20000 in
theorem jX3_readThumb_15 : Cond.fieldLink RX3 15 (TX3 1).1 (TX3 1).2.1 (TX3 1).2.2.1 ∈ wsX3_readThumb := by decide +kernel
set_option maxRecDepth 20000 in
theorem vX3_readThumb_106 : KV kX3_readThumb 106 RX2 yX2_addWay wsX2_addWay rmX2_addWay 4 := ⟨_, _, _, _, gX3_readThumb_X2_addWay, rfl, rfl, rfl, by decide +kernel, ⟨by decide, by decide⟩⟩
def f_X3_readThumb (F : Nat) (s : SR) : Option (Int32 × SR) :=
    obd (f_X3_takeNumber F s (1 : Int32) (99 : Int32)) (fun v1 =>
    (if v1.1 = 0 then
    some ((0 : Int32), v1.2)
    else
    obd (f_X3_takeWord F v1.2 q_in) (fun v4 =>
    (if v4.1 = 0 then
    some ((0 : Int32), v4.2)
    else
    obd (f_X3_takeNumber F v4.2 (1 : Int32) (5 : Int32)) (fun v7 =>
    (if v7.1 = 0 then
    some ((0 : Int32), v7.2)
    else
    obd (f_X3_takeWord F v7.2 q_to) (fun v10 =>
    obd ((if v10.1 = 0 then
    some ((15 : Int32), v10.2)
    else
    obd (f_X3_readSorts F v10.2) (fun v17 =>
    some (v17.1, v17.2)))) (fun v15 =>
    (if v15.1 = 0 then
    some ((0 : Int32), v15.2)
    else
    obd (f_X2_addWay F (R_into v15.2) (2 : Int32) (R_taken v1.2) (R_taken v7.2) v15.1) (fun v20 =>
    olt (uR_into v15.2 v20) (fun s22 =>
    some ((1 : Int32), s22))))))))))))

set_option maxHeartbeats 4000000 in
set_option maxRecDepth 100000 in
theorem c_X3_readThumb {l : Launch} {D : va_G} {tys : List (ClassId × FieldType)} {X : XT} {cs : CS} (ad : Nat → Nat) {F : Nat} {s : SR} {r : (Int32 × SR)} (htyM : tys = tyA cs) {P : XP} (hNX : X = XS P) (hf : f_X3_readThumb F s = some r) : Ci l D tys X yX3_readThumb wsX3_readThumb rmX3_readThumb [.ref (ad 0)] (wR cs ad s) r.1 (wR cs ad r.2) := by
  refine Cz_ofG (by decide +kernel) rfl (Nat.le_of_ble_eq_true rfl) (fun E _ _ hty0 hX0 hr => ?_)
  have hty := hty0.trans htyM
  have hN := hX0.trans hNX
  have hr : Rz E kX3_readThumb r.1 (wR cs ad r.2) := hr
  show G E kX3_readThumb 0 0 0 [(0, .ref (ad 0))] [] (wR cs ad s)
  unfold f_X3_readThumb at hf
  refine g_aload_n 0 dX3_readThumb_0 rfl rfl ?_
  refine g_iconst (v := (1 : Int32)) dX3_readThumb_1 (by decide) ?_
  refine g_bipush (v := (99 : Int32)) dX3_readThumb_2 (by decide) ?_
  obtain ⟨v1, hc2, hf⟩ := obd_some hf
  refine g_callVi (ci := 3) (As := [.int (1 : Int32), .int (99 : Int32)]) (rest := []) (w2 := (wR cs ad v1.2)) 0 dX3_readThumb_4 vX3_readThumb_84 (c_X3_takeNumber ad hty hc2) rfl (mid0 _) rfl rfl 0 wlaR_0 rfl (Nat.le_of_ble_eq_true rfl) ⟨Nat.zero_le _, Nat.zero_le _⟩ (mid2 _ _) ?_
  refine g_if_ne (tgt := 12) dX3_readThumb_7 (by decide) (fun h3 => ?_) (fun h3 => ?_)
  · have hf := iff_ h3 hf
    refine g_aload_n 0 dX3_readThumb_12 rfl rfl ?_
    refine g_get (ci := 3) (T := TX3) (N := 9) 0 8 (.int (R_taken v1.2)) dX3_readThumb_13 iX3_readThumb_X3 rfl jX3_readThumb_88 (by decide) wlaR_0 rfl ?_
    refine g_istore_n (lv2 := [(1, .int (R_taken v1.2)), (0, .ref (ad 0))]) dX3_readThumb_16 rfl (by decide) rfl ?_
    refine g_aload_n 1 dX3_readThumb_17 rfl rfl ?_
    refine g_ldcS (i := q_in) hN (by decide) rfl rfl dX3_readThumb_18 ?_
    obtain ⟨v4, hc5, hf⟩ := obd_some hf
    refine g_callVi (ci := 3) (As := [.ref (P.2.1 q_in)]) (rest := []) (w2 := (wR cs ad v4.2)) 0 dX3_readThumb_20 vX3_readThumb_56 (c_X3_takeWord ad hty hN (by decide) hc5) rfl (mid0 _) rfl rfl 0 wlaR_0 rfl (Nat.le_of_ble_eq_true rfl) ⟨Nat.zero_le _, Nat.zero_le _⟩ (mid2 _ _) ?_
    refine g_if_eq (tgt := 35) dX3_readThumb_23 (by decide) (fun h6 => ?_) (fun h6 => ?_)
    · have hf := ift h6 hf
      refine g_iconst (v := (0 : Int32)) dX3_readThumb_35 (by decide) ?_
      obtain rfl := Option.some.inj hf
      exact hr _ _ dX3_readThumb_36 (Or.inl rfl)
    · have hf := iff_ h6 hf
      refine g_aload_n 1 dX3_readThumb_26 rfl rfl ?_
      refine g_iconst (v := (1 : Int32)) dX3_readThumb_27 (by decide) ?_
      refine g_iconst (v := (5 : Int32)) dX3_readThumb_28 (by decide) ?_
      obtain ⟨v7, hc8, hf⟩ := obd_some hf
      refine g_callVi (ci := 3) (As := [.int (1 : Int32), .int (5 : Int32)]) (rest := []) (w2 := (wR cs ad v7.2)) 0 dX3_readThumb_29 vX3_readThumb_84 (c_X3_takeNumber ad hty hc8) rfl (mid0 _) rfl rfl 0 wlaR_0 rfl (Nat.le_of_ble_eq_true rfl) ⟨Nat.zero_le _, Nat.zero_le _⟩ (mid2 _ _) ?_
      refine g_if_ne (tgt := 37) dX3_readThumb_32 (by decide) (fun h9 => ?_) (fun h9 => ?_)
      · have hf := iff_ h9 hf
        refine g_aload_n 1 dX3_readThumb_37 rfl rfl ?_
        refine g_get (ci := 3) (T := TX3) (N := 9) 0 8 (.int (R_taken v7.2)) dX3_readThumb_38 iX3_readThumb_X3 rfl jX3_readThumb_88 (by decide) wlaR_0 rfl ?_
        refine g_istore_n (lv2 := [(2, .int (R_taken v7.2)), (1, .int (R_taken v1.2)), (0, .ref (ad 0))]) dX3_readThumb_41 rfl (by decide) rfl ?_
        refine g_aload_n 2 dX3_readThumb_42 rfl rfl ?_
        refine g_ldcS (i := q_to) hN (by decide) rfl rfl dX3_readThumb_43 ?_
        obtain ⟨v10, hc11, hf⟩ := obd_some hf
        refine g_callVi (ci := 3) (As := [.ref (P.2.1 q_to)]) (rest := []) (w2 := (wR cs ad v10.2)) 0 dX3_readThumb_45 vX3_readThumb_56 (c_X3_takeWord ad hty hN (by decide) hc11) rfl (mid0 _) rfl rfl 0 wlaR_0 rfl (Nat.le_of_ble_eq_true rfl) ⟨Nat.zero_le _, Nat.zero_le _⟩ (mid2 _ _) ?_
        obtain ⟨v15, hE_v15, hf⟩ := obd_some hf
        have J_v15 : G E kX3_readThumb 0 0 60 [(0, .ref (ad 0)), (1, .int (R_taken v1.2)), (2, .int (R_taken v7.2))] [.int v15.1] (wR cs ad v15.2) := by
          refine g_istore_n (lv2 := [(3, .int v15.1), (0, .ref (ad 0)), (1, .int (R_taken v1.2)), (2, .int (R_taken v7.2))]) dX3_readThumb_60 rfl (by decide) rfl ?_
          refine g_iload_n 0 dX3_readThumb_61 rfl rfl ?_
          refine g_if_ne (tgt := 67) dX3_readThumb_62 (by decide) (fun h19 => ?_) (fun h19 => ?_)
          · have hf := iff_ h19 hf
            refine g_aload_n 1 dX3_readThumb_67 rfl rfl ?_
            refine g_get (ci := 3) (T := TX3) (N := 9) 0 1 (.ref (ad 2)) dX3_readThumb_68 iX3_readThumb_X3 rfl jX3_readThumb_15 (by decide) wlaR_0 rfl ?_
            refine g_iconst (v := (2 : Int32)) dX3_readThumb_71 (by decide) ?_
            refine g_iload_n 2 dX3_readThumb_72 rfl rfl ?_
            refine g_iload_n 3 dX3_readThumb_73 rfl rfl ?_
            refine g_iload_n 0 dX3_readThumb_74 rfl rfl ?_
            obtain ⟨v20, hc21, hf⟩ := obd_some hf
            obtain ⟨s22, e_s22, hf⟩ := olt_some hf
            refine g_callVv (ci := 2) (As := [.int (2 : Int32), .int (R_taken v1.2), .int (R_taken v7.2), .int v15.1]) (rest := []) (w2 := (wR cs ad s22)) 2 dX3_readThumb_75 vX3_readThumb_106 (c_X2_addWay (fun k => ad (2 + k)) hty hc21) rfl wlhR_2 rfl rfl 0 wlaM_0 rfl (Nat.le_of_ble_eq_true rfl) ⟨Nat.zero_le _, Nat.zero_le _⟩ (wlcR_2.trans (congrArg (wR cs ad) e_s22)) ?_
            refine g_iconst (v := (1 : Int32)) dX3_readThumb_78 (by decide) ?_
            obtain rfl := Option.some.inj hf
            exact hr _ _ dX3_readThumb_79 (Or.inr rfl)
          · have hf := ift h19 hf
            refine g_iconst (v := (0 : Int32)) dX3_readThumb_65 (by decide) ?_
            obtain rfl := Option.some.inj hf
            exact hr _ _ dX3_readThumb_66 (Or.inl rfl)
        have hf := hE_v15
        refine g_if_eq (tgt := 58) dX3_readThumb_48 (by decide) (fun h16 => ?_) (fun h16 => ?_)
        · have hf := ift h16 hf
          refine g_bipush (v := (15 : Int32)) dX3_readThumb_58 (by decide) ?_
          obtain rfl := Option.some.inj hf
          exact g_sub [2, 1, 0] rfl J_v15
        · have hf := iff_ h16 hf
          refine g_aload_n 2 dX3_readThumb_51 rfl rfl ?_
          obtain ⟨v17, hc18, hf⟩ := obd_some hf
          refine g_callVi (ci := 3) (As := []) (rest := []) (w2 := (wR cs ad v17.2)) 0 dX3_readThumb_52 vX3_readThumb_118 (c_X3_readSorts ad hty hN hc18) rfl (mid0 _) rfl rfl 0 wlaR_0 rfl (Nat.le_of_ble_eq_true rfl) ⟨Nat.zero_le _, Nat.zero_le _⟩ (mid2 _ _) ?_
          refine g_goto (tgt := 60) dX3_readThumb_55 (by decide) ?_
          obtain rfl := Option.some.inj hf
          exact g_sub [2, 1, 0] rfl J_v15
      · have hf := ift h9 hf
        refine g_iconst (v := (0 : Int32)) dX3_readThumb_35 (by decide) ?_
        obtain rfl := Option.some.inj hf
        exact hr _ _ dX3_readThumb_36 (Or.inl rfl)
  · have hf := ift h3 hf
    refine g_iconst (v := (0 : Int32)) dX3_readThumb_10 (by decide) ?_
    obtain rfl := Option.some.inj hf
    exact hr _ _ dX3_readThumb_11 (Or.inl rfl)

-- ThumbScale$Reader readOtherWay ()Z
def rmX3_readOtherWay : Room := { frames := 6, cells := 0, slots := 0, locals := 128 }
def kX3_readOtherWay : MK := (cX3_readOtherWay, 1, RX3, wsX3_readOtherWay, (some .boolean), rmX3_readOtherWay)

set_option maxRecDepth 20000 in
theorem vX3_readOtherWay_56 : KV kX3_readOtherWay 56 RX3 yX3_takeWord wsX3_takeWord rmX3_takeWord 1 := ⟨_, _, _, _, gX3_readOtherWay_X3_takeWord, rfl, rfl, rfl, by decide +kernel, ⟨by decide, by decide⟩⟩
set_option maxRecDepth 20000 in
theorem vX3_readOtherWay_84 : KV kX3_readOtherWay 84 RX3 yX3_takeNumber wsX3_takeNumber rmX3_takeNumber 2 := ⟨_, _, _, _, gX3_readOtherWay_X3_takeNumber, rfl, rfl, rfl, by decide +kernel, ⟨by decide, by decide⟩⟩
set_option maxRecDepth 20000 in
theorem jX3_readOtherWay_15 : Cond.fieldLink RX3 15 (TX3 1).1 (TX3 1).2.1 (TX3 1).2.2.1 ∈ wsX3_readOtherWay := by decide +kernel
set_option maxRecDepth 20000 in
theorem iX3_readOtherWay_X3 : ∀ x ∈ u_ws RX3 TX3 9, x ∈ wsX3_readOtherWay := by decide +kernel
set_option maxRecDepth 20000 in
theorem jX3_readOtherWay_88 : Cond.fieldLink RX3 88 (TX3 8).1 (TX3 8).2.1 (TX3 8).2.2.1 ∈ wsX3_readOtherWay := by decide +kernel
set_option maxRecDepth 20000 in
theorem vX3_readOtherWay_106 : KV kX3_readOtherWay 106 RX2 yX2_addWay wsX2_addWay rmX2_addWay 4 := ⟨_, _, _, _, gX3_readOtherWay_X2_addWay, rfl, rfl, rfl, by decide +kernel, ⟨by decide, by decide⟩⟩
def f_X3_readOtherWay (F : Nat) (s : SR) : Option (Int32 × SR) :=
    obd (f_X3_takeWord F s q_honest) (fun v1 =>
    (if v1.1 = 0 then
    obd (f_X3_takeWord F v1.2 q_round) (fun v4 =>
    (if v4.1 = 0 then
    obd (f_X3_takeWord F v4.2 q_scale) (fun v7 =>
    (if v7.1 = 0 then
    some ((0 : Int32), v7.2)
    else
    obd (f_X3_takeNumber F v7.2 (1 : Int32) (99 : Int32)) (fun v10 =>
    (if v10.1 = 0 then
    some ((0 : Int32), v10.2)
    else
    obd (f_X2_addWay F (R_into v10.2) (1 : Int32) (R_taken v10.2) (1 : Int32) (15 : Int32)) (fun v13 =>
    olt (uR_into v10.2 v13) (fun s15 =>
    some ((1 : Int32), s15)))))))
    else
    obd (f_X2_addWay F (R_into v4.2) (3 : Int32) (0 : Int32) (1 : Int32) (15 : Int32)) (fun v16 =>
    olt (uR_into v4.2 v16) (fun s18 =>
    some ((1 : Int32), s18)))))
    else
    obd (f_X2_addWay F (R_into v1.2) (0 : Int32) (0 : Int32) (1 : Int32) (15 : Int32)) (fun v19 =>
    olt (uR_into v1.2 v19) (fun s21 =>
    some ((1 : Int32), s21)))))

set_option maxHeartbeats 4000000 in
set_option maxRecDepth 100000 in
theorem c_X3_readOtherWay {l : Launch} {D : va_G} {tys : List (ClassId × FieldType)} {X : XT} {cs : CS} (ad : Nat → Nat) {F : Nat} {s : SR} {r : (Int32 × SR)} (htyM : tys = tyA cs) {P : XP} (hNX : X = XS P) (hf : f_X3_readOtherWay F s = some r) : Ci l D tys X yX3_readOtherWay wsX3_readOtherWay rmX3_readOtherWay [.ref (ad 0)] (wR cs ad s) r.1 (wR cs ad r.2) := by
  refine Cz_ofG (by decide +kernel) rfl (Nat.le_of_ble_eq_true rfl) (fun E _ _ hty0 hX0 hr => ?_)
  have hty := hty0.trans htyM
  have hN := hX0.trans hNX
  have hr : Rz E kX3_readOtherWay r.1 (wR cs ad r.2) := hr
  show G E kX3_readOtherWay 0 0 0 [(0, .ref (ad 0))] [] (wR cs ad s)
  unfold f_X3_readOtherWay at hf
  refine g_aload_n 0 dX3_readOtherWay_0 rfl rfl ?_
  refine g_ldcS (i := q_honest) hN (by decide) rfl rfl dX3_readOtherWay_1 ?_
  obtain ⟨v1, hc2, hf⟩ := obd_some hf
  refine g_callVi (ci := 3) (As := [.ref (P.2.1 q_honest)]) (rest := []) (w2 := (wR cs ad v1.2)) 0 dX3_readOtherWay_3 vX3_readOtherWay_56 (c_X3_takeWord ad hty hN (by decide) hc2) rfl (mid0 _) rfl rfl 0 wlaR_0 rfl (Nat.le_of_ble_eq_true rfl) ⟨Nat.zero_le _, Nat.zero_le _⟩ (mid2 _ _) ?_
  refine g_if_eq (tgt := 23) dX3_readOtherWay_6 (by decide) (fun h3 => ?_) (fun h3 => ?_)
  · have hf := ift h3 hf
    refine g_aload_n 0 dX3_readOtherWay_23 rfl rfl ?_
    refine g_ldcS (i := q_round) hN (by decide) rfl rfl dX3_readOtherWay_24 ?_
    obtain ⟨v4, hc5, hf⟩ := obd_some hf
    refine g_callVi (ci := 3) (As := [.ref (P.2.1 q_round)]) (rest := []) (w2 := (wR cs ad v4.2)) 0 dX3_readOtherWay_26 vX3_readOtherWay_56 (c_X3_takeWord ad hty hN (by decide) hc5) rfl (mid0 _) rfl rfl 0 wlaR_0 rfl (Nat.le_of_ble_eq_true rfl) ⟨Nat.zero_le _, Nat.zero_le _⟩ (mid2 _ _) ?_
    refine g_if_eq (tgt := 46) dX3_readOtherWay_29 (by decide) (fun h6 => ?_) (fun h6 => ?_)
    · have hf := ift h6 hf
      refine g_aload_n 0 dX3_readOtherWay_46 rfl rfl ?_
      refine g_ldcS (i := q_scale) hN (by decide) rfl rfl dX3_readOtherWay_47 ?_
      obtain ⟨v7, hc8, hf⟩ := obd_some hf
      refine g_callVi (ci := 3) (As := [.ref (P.2.1 q_scale)]) (rest := []) (w2 := (wR cs ad v7.2)) 0 dX3_readOtherWay_49 vX3_readOtherWay_56 (c_X3_takeWord ad hty hN (by decide) hc8) rfl (mid0 _) rfl rfl 0 wlaR_0 rfl (Nat.le_of_ble_eq_true rfl) ⟨Nat.zero_le _, Nat.zero_le _⟩ (mid2 _ _) ?_
      refine g_if_eq (tgt := 65) dX3_readOtherWay_52 (by decide) (fun h9 => ?_) (fun h9 => ?_)
      · have hf := ift h9 hf
        refine g_iconst (v := (0 : Int32)) dX3_readOtherWay_65 (by decide) ?_
        obtain rfl := Option.some.inj hf
        exact hr _ _ dX3_readOtherWay_66 (Or.inl rfl)
      · have hf := iff_ h9 hf
        refine g_aload_n 0 dX3_readOtherWay_55 rfl rfl ?_
        refine g_iconst (v := (1 : Int32)) dX3_readOtherWay_56 (by decide) ?_
        refine g_bipush (v := (99 : Int32)) dX3_readOtherWay_57 (by decide) ?_
        obtain ⟨v10, hc11, hf⟩ := obd_some hf
        refine g_callVi (ci := 3) (As := [.int (1 : Int32), .int (99 : Int32)]) (rest := []) (w2 := (wR cs ad v10.2)) 0 dX3_readOtherWay_59 vX3_readOtherWay_84 (c_X3_takeNumber ad hty hc11) rfl (mid0 _) rfl rfl 0 wlaR_0 rfl (Nat.le_of_ble_eq_true rfl) ⟨Nat.zero_le _, Nat.zero_le _⟩ (mid2 _ _) ?_
        refine g_if_ne (tgt := 67) dX3_readOtherWay_62 (by decide) (fun h12 => ?_) (fun h12 => ?_)
        · have hf := iff_ h12 hf
          refine g_aload_n 0 dX3_readOtherWay_67 rfl rfl ?_
          refine g_get (ci := 3) (T := TX3) (N := 9) 0 1 (.ref (ad 2)) dX3_readOtherWay_68 iX3_readOtherWay_X3 rfl jX3_readOtherWay_15 (by decide) wlaR_0 rfl ?_
          refine g_iconst (v := (1 : Int32)) dX3_readOtherWay_71 (by decide) ?_
          refine g_aload_n 0 dX3_readOtherWay_72 rfl rfl ?_
          refine g_get (ci := 3) (T := TX3) (N := 9) 0 8 (.int (R_taken v10.2)) dX3_readOtherWay_73 iX3_readOtherWay_X3 rfl jX3_readOtherWay_88 (by decide) wlaR_0 rfl ?_
          refine g_iconst (v := (1 : Int32)) dX3_readOtherWay_76 (by decide) ?_
          refine g_bipush (v := (15 : Int32)) dX3_readOtherWay_77 (by decide) ?_
          obtain ⟨v13, hc14, hf⟩ := obd_some hf
          obtain ⟨s15, e_s15, hf⟩ := olt_some hf
          refine g_callVv (ci := 2) (As := [.int (1 : Int32), .int (R_taken v10.2), .int (1 : Int32), .int (15 : Int32)]) (rest := []) (w2 := (wR cs ad s15)) 2 dX3_readOtherWay_79 vX3_readOtherWay_106 (c_X2_addWay (fun k => ad (2 + k)) hty hc14) rfl wlhR_2 rfl rfl 0 wlaM_0 rfl (Nat.le_of_ble_eq_true rfl) ⟨Nat.zero_le _, Nat.zero_le _⟩ (wlcR_2.trans (congrArg (wR cs ad) e_s15)) ?_
          refine g_iconst (v := (1 : Int32)) dX3_readOtherWay_82 (by decide) ?_
          obtain rfl := Option.some.inj hf
          exact hr _ _ dX3_readOtherWay_83 (Or.inr rfl)
        · have hf := ift h12 hf
          refine g_iconst (v := (0 : Int32)) dX3_readOtherWay_65 (by decide) ?_
          obtain rfl := Option.some.inj hf
          exact hr _ _ dX3_readOtherWay_66 (Or.inl rfl)
    · have hf := iff_ h6 hf
      refine g_aload_n 0 dX3_readOtherWay_32 rfl rfl ?_
      refine g_get (ci := 3) (T := TX3) (N := 9) 0 1 (.ref (ad 2)) dX3_readOtherWay_33 iX3_readOtherWay_X3 rfl jX3_readOtherWay_15 (by decide) wlaR_0 rfl ?_
      refine g_iconst (v := (3 : Int32)) dX3_readOtherWay_36 (by decide) ?_
      refine g_iconst (v := (0 : Int32)) dX3_readOtherWay_37 (by decide) ?_
      refine g_iconst (v := (1 : Int32)) dX3_readOtherWay_38 (by decide) ?_
      refine g_bipush (v := (15 : Int32)) dX3_readOtherWay_39 (by decide) ?_
      obtain ⟨v16, hc17, hf⟩ := obd_some hf
      obtain ⟨s18, e_s18, hf⟩ := olt_some hf
      refine g_callVv (ci := 2) (As := [.int (3 : Int32), .int (0 : Int32), .int (1 : Int32), .int (15 : Int32)]) (rest := []) (w2 := (wR cs ad s18)) 2 dX3_readOtherWay_41 vX3_readOtherWay_106 (c_X2_addWay (fun k => ad (2 + k)) hty hc17) rfl wlhR_2 rfl rfl 0 wlaM_0 rfl (Nat.le_of_ble_eq_true rfl) ⟨Nat.zero_le _, Nat.zero_le _⟩ (wlcR_2.trans (congrArg (wR cs ad) e_s18)) ?_
      refine g_iconst (v := (1 : Int32)) dX3_readOtherWay_44 (by decide) ?_
      obtain rfl := Option.some.inj hf
      exact hr _ _ dX3_readOtherWay_45 (Or.inr rfl)
  · have hf := iff_ h3 hf
    refine g_aload_n 0 dX3_readOtherWay_9 rfl rfl ?_
    refine g_get (ci := 3) (T := TX3) (N := 9) 0 1 (.ref (ad 2)) dX3_readOtherWay_10 iX3_readOtherWay_X3 rfl jX3_readOtherWay_15 (by decide) wlaR_0 rfl ?_
    refine g_iconst (v := (0 : Int32)) dX3_readOtherWay_13 (by decide) ?_
    refine g_iconst (v := (0 : Int32)) dX3_readOtherWay_14 (by decide) ?_
    refine g_iconst (v := (1 : Int32)) dX3_readOtherWay_15 (by decide) ?_
    refine g_bipush (v := (15 : Int32)) dX3_readOtherWay_16 (by decide) ?_
    obtain ⟨v19, hc20, hf⟩ := obd_some hf
    obtain ⟨s21, e_s21, hf⟩ := olt_some hf
    refine g_callVv (ci := 2) (As := [.int (0 : Int32), .int (0 : Int32), .int (1 : Int32), .int (15 : Int32)]) (rest := []) (w2 := (wR cs ad s21)) 2 dX3_readOtherWay_18 vX3_readOtherWay_106 (c_X2_addWay (fun k => ad (2 + k)) hty hc20) rfl wlhR_2 rfl rfl 0 wlaM_0 rfl (Nat.le_of_ble_eq_true rfl) ⟨Nat.zero_le _, Nat.zero_le _⟩ (wlcR_2.trans (congrArg (wR cs ad) e_s21)) ?_
    refine g_iconst (v := (1 : Int32)) dX3_readOtherWay_21 (by decide) ?_
    obtain rfl := Option.some.inj hf
    exact hr _ _ dX3_readOtherWay_22 (Or.inr rfl)

-- ThumbScale$Reader readItem ()Z
def rmX3_readItem : Room := { frames := 8, cells := 0, slots := 0, locals := 173 }
def kX3_readItem : MK := (cX3_readItem, 2, RX3, wsX3_readItem, (some .boolean), rmX3_readItem)

set_option maxRecDepth 20000 in
theorem jX3_readItem_29 : Cond.fieldLink RX3 29 (TX3 3).1 (TX3 3).2.1 (TX3 3).2.2.1 ∈ wsX3_readItem := by decide +kernel
set_option maxRecDepth 20000 in
theorem iX3_readItem_X3 : ∀ x ∈ u_ws RX3 TX3 9, x ∈ wsX3_readItem := by decide +kernel
set_option maxRecDepth 20000 in
theorem jX3_readItem_15 : Cond.fieldLink RX3 15 (TX3 1).1 (TX3 1).2.1 (TX3 1).2.2.1 ∈ wsX3_readItem := by decide +kernel
set_option maxRecDepth 20000 in
theorem jX3_readItem_63 : Cond.fieldLink RX3 63 (TX2 3).1 (TX2 3).2.1 (TX2 3).2.2.1 ∈ wsX3_readItem := by decide +kernel
set_option maxRecDepth 20000 in
theorem iX3_readItem_X2 : ∀ x ∈ u_ws RX2 TX2 12, x ∈ wsX3_readItem := by decide +kernel
set_option maxRecDepth 20000 in
theorem jX3_readItem_71 : Cond.fieldLink RX3 71 (TX2 7).1 (TX2 7).2.1 (TX2 7).2.2.1 ∈ wsX3_readItem := by decide +kernel
set_option maxRecDepth 20000 in
theorem vX3_readItem_56 : KV kX3_readItem 56 RX3 yX3_takeWord wsX3_takeWord rmX3_takeWord 1 := ⟨_, _, _, _, gX3_readItem_X3_takeWord, rfl, rfl, rfl, by decide +kernel, ⟨by decide, by decide⟩⟩
set_option maxRecDepth 20000 in
theorem vX3_readItem_81 : KV kX3_readItem 81 RX3 yX3_readOtherWay wsX3_readOtherWay rmX3_readOtherWay 0 := ⟨_, _, _, _, gX3_readItem_X3_readOtherWay, rfl, rfl, rfl, by decide +kernel, ⟨by decide, by decide⟩⟩
set_option maxRecDepth 20000 in
theorem vX3_readItem_78 : KV kX3_readItem 78 RX3 yX3_readThumb wsX3_readThumb rmX3_readThumb 0 := ⟨_, _, _, _, gX3_readItem_X3_readThumb, rfl, rfl, rfl, by decide +kernel, ⟨by decide, by decide⟩⟩
set_option maxRecDepth 20000 in
theorem vX3_readItem_68 : KV kX3_readItem 68 RX3 yX3_readStall wsX3_readStall rmX3_readStall 0 := ⟨_, _, _, _, gX3_readItem_X3_readStall, rfl, rfl, rfl, by decide +kernel, ⟨by decide, by decide⟩⟩
set_option maxRecDepth 20000 in
theorem vX3_readItem_60 : KV kX3_readItem 60 RX3 yX3_readLuck wsX3_readLuck rmX3_readLuck 0 := ⟨_, _, _, _, gX3_readItem_X3_readLuck, rfl, rfl, rfl, by decide +kernel, ⟨by decide, by decide⟩⟩
set_option maxRecDepth 20000 in
theorem jX3_readItem_44 : Cond.fieldLink RX3 44 (TX3 4).1 (TX3 4).2.1 (TX3 4).2.2.1 ∈ wsX3_readItem := by decide +kernel
set_option maxRecDepth 20000 in
theorem vX3_readItem_41 : KV kX3_readItem 41 RX3 yX3_next wsX3_next rmX3_next 0 := ⟨_, _, _, _, gX3_readItem_X3_next, rfl, rfl, rfl, by decide +kernel, ⟨by decide, by decide⟩⟩
def f_X3_readItem (F : Nat) (s : SR) : Option (Int32 × SR) :=
    obd (olt (fun (x31 : Int32) (s32 : SR) =>
    olt (fun (x33 : Int32) (s34 : SR) =>
    (if (6 : Int32) ≤ (M_ways (R_into s34)) then
    some (x33, s34)
    else
    obd (f_X3_takeWord F s34 q_way) (fun v36 =>
    (if v36.1 = 0 then
    some (x33, v36.2)
    else
    obd (f_X3_takeWord F v36.2 q_thumb) (fun v39 =>
    (if v39.1 = 0 then
    obd (f_X3_readOtherWay F v39.2) (fun v42 =>
    some (v42.1, v42.2))
    else
    obd (f_X3_readThumb F v39.2) (fun v44 =>
    some (v44.1, v44.2)))))))) (fun k46 =>
    (if (6 : Int32) ≤ (M_stalls (R_into s32)) then
    k46 x31 s32
    else
    obd (f_X3_takeWord F s32 q_stall) (fun v48 =>
    (if v48.1 = 0 then
    k46 x31 v48.2
    else
    obd (f_X3_readStall F v48.2) (fun v51 =>
    some (v51.1, v51.2))))))) (fun k53 =>
    (if (R_luckTold s) = 0 then
    obd (f_X3_takeWord F s q_luck) (fun v55 =>
    (if v55.1 = 0 then
    k53 (0 : Int32) v55.2
    else
    obd (f_X3_readLuck F v55.2) (fun v58 =>
    some (v58.1, v58.2))))
    else
    k53 (0 : Int32) s))) (fun v30 =>
    (if v30.1 = 0 then
    some ((0 : Int32), v30.2)
    else
    (if (R_sign v30.2) = (3 : Int32) then
    obd (f_X3_next F v30.2) (fun v62 =>
    some ((1 : Int32), v62))
    else
    some ((0 : Int32), v30.2))))

set_option maxHeartbeats 4000000 in
set_option maxRecDepth 100000 in
theorem c_X3_readItem {l : Launch} {D : va_G} {tys : List (ClassId × FieldType)} {X : XT} {cs : CS} (ad : Nat → Nat) {F : Nat} {s : SR} {r : (Int32 × SR)} (htyM : tys = tyA cs) {P : XP} (hNX : X = XS P) (hf : f_X3_readItem F s = some r) : Ci l D tys X yX3_readItem wsX3_readItem rmX3_readItem [.ref (ad 0)] (wR cs ad s) r.1 (wR cs ad r.2) := by
  refine Cz_ofG (by decide +kernel) rfl (Nat.le_of_ble_eq_true rfl) (fun E _ _ hty0 hX0 hr => ?_)
  have hty := hty0.trans htyM
  have hN := hX0.trans hNX
  have hr : Rz E kX3_readItem r.1 (wR cs ad r.2) := hr
  show G E kX3_readItem 0 0 0 [(0, .ref (ad 0))] [] (wR cs ad s)
  unfold f_X3_readItem at hf
  refine g_iconst (v := (0 : Int32)) dX3_readItem_0 (by decide) ?_
  refine g_istore_n (lv2 := [(1, .int (0 : Int32)), (0, .ref (ad 0))]) dX3_readItem_1 rfl (by decide) rfl ?_
  refine g_aload_n 1 dX3_readItem_2 rfl rfl ?_
  refine g_get (ci := 3) (T := TX3) (N := 9) 0 3 (.int (R_luckTold s)) dX3_readItem_3 iX3_readItem_X3 rfl jX3_readItem_29 (by decide) wlaR_0 rfl ?_
  obtain ⟨v30, hE_v30, hf⟩ := obd_some hf
  have J_v30 : G E kX3_readItem 0 0 97 [(0, .ref (ad 0)), (1, .int v30.1)] [] (wR cs ad v30.2) := by
    refine g_iload_n 1 dX3_readItem_97 rfl rfl ?_
    refine g_if_eq (tgt := 109) dX3_readItem_98 (by decide) (fun h60 => ?_) (fun h60 => ?_)
    · have hf := ift h60 hf
      refine g_iconst (v := (0 : Int32)) dX3_readItem_109 (by decide) ?_
      obtain rfl := Option.some.inj hf
      exact hr _ _ dX3_readItem_110 (Or.inl rfl)
    · have hf := iff_ h60 hf
      refine g_aload_n 0 dX3_readItem_101 rfl rfl ?_
      refine g_get (ci := 3) (T := TX3) (N := 9) 0 4 (.int (R_sign v30.2)) dX3_readItem_102 iX3_readItem_X3 rfl jX3_readItem_44 (by decide) wlaR_0 rfl ?_
      refine g_iconst (v := (3 : Int32)) dX3_readItem_105 (by decide) ?_
      refine g_icmp_eq (tgt := 111) dX3_readItem_106 (by decide) (fun h61 => ?_) (fun h61 => ?_)
      · have hf := ift h61 hf
        refine g_aload_n 0 dX3_readItem_111 rfl rfl ?_
        obtain ⟨v62, hc63, hf⟩ := obd_some hf
        refine g_callVv (ci := 3) (As := []) (rest := []) (w2 := (wR cs ad v62)) 0 dX3_readItem_112 vX3_readItem_41 (c_X3_next ad hty hc63) rfl (mid0 _) rfl rfl 0 wlaR_0 rfl (Nat.le_of_ble_eq_true rfl) ⟨Nat.zero_le _, Nat.zero_le _⟩ (mid2 _ _) ?_
        refine g_iconst (v := (1 : Int32)) dX3_readItem_115 (by decide) ?_
        obtain rfl := Option.some.inj hf
        exact hr _ _ dX3_readItem_116 (Or.inr rfl)
      · have hf := iff_ h61 hf
        refine g_iconst (v := (0 : Int32)) dX3_readItem_109 (by decide) ?_
        obtain rfl := Option.some.inj hf
        exact hr _ _ dX3_readItem_110 (Or.inl rfl)
  have hf := hE_v30
  obtain ⟨k53, e_k53, hf⟩ := olt_some hf
  have K_k53 : ∀ (x31 : Int32) (s32 : SR), k53 x31 s32 = some v30 → G E kX3_readItem 0 0 26 [(0, .ref (ad 0)), (1, .int x31)] [] (wR cs ad s32) := by
    intro x31 s32 hf
    rw [← e_k53] at hf
    refine g_aload_n 0 dX3_readItem_26 rfl rfl ?_
    refine g_get (ci := 3) (T := TX3) (N := 9) 0 1 (.ref (ad 2)) dX3_readItem_27 iX3_readItem_X3 rfl jX3_readItem_15 (by decide) wlaR_0 rfl ?_
    refine g_get (ci := 2) (T := TX2) (N := 12) 2 3 (.int (M_stalls (R_into s32))) dX3_readItem_30 iX3_readItem_X2 rfl jX3_readItem_63 (by decide) wlaR_2 rfl ?_
    refine g_bipush (v := (6 : Int32)) dX3_readItem_33 (by decide) ?_
    obtain ⟨k46, e_k46, hf⟩ := olt_some hf
    have K_k46 : ∀ (x33 : Int32) (s34 : SR), k46 x33 s34 = some v30 → G E kX3_readItem 0 0 55 [(0, .ref (ad 0)), (1, .int x33)] [] (wR cs ad s34) := by
      intro x33 s34 hf
      rw [← e_k46] at hf
      refine g_aload_n 0 dX3_readItem_55 rfl rfl ?_
      refine g_get (ci := 3) (T := TX3) (N := 9) 0 1 (.ref (ad 2)) dX3_readItem_56 iX3_readItem_X3 rfl jX3_readItem_15 (by decide) wlaR_0 rfl ?_
      refine g_get (ci := 2) (T := TX2) (N := 12) 2 7 (.int (M_ways (R_into s34))) dX3_readItem_59 iX3_readItem_X2 rfl jX3_readItem_71 (by decide) wlaR_2 rfl ?_
      refine g_bipush (v := (6 : Int32)) dX3_readItem_62 (by decide) ?_
      refine g_icmp_ge (tgt := 97) dX3_readItem_64 (by decide) (fun h35 => ?_) (fun h35 => ?_)
      · have hf := ift h35 hf
        obtain rfl := Option.some.inj hf
        exact g_sub [0, 1] rfl J_v30
      · have hf := iff_ h35 hf
        refine g_aload_n 0 dX3_readItem_67 rfl rfl ?_
        refine g_ldcS (i := q_way) hN (by decide) rfl rfl dX3_readItem_68 ?_
        obtain ⟨v36, hc37, hf⟩ := obd_some hf
        refine g_callVi (ci := 3) (As := [.ref (P.2.1 q_way)]) (rest := []) (w2 := (wR cs ad v36.2)) 0 dX3_readItem_70 vX3_readItem_56 (c_X3_takeWord ad hty hN (by decide) hc37) rfl (mid0 _) rfl rfl 0 wlaR_0 rfl (Nat.le_of_ble_eq_true rfl) ⟨Nat.zero_le _, Nat.zero_le _⟩ (mid2 _ _) ?_
        refine g_if_eq (tgt := 97) dX3_readItem_73 (by decide) (fun h38 => ?_) (fun h38 => ?_)
        · have hf := ift h38 hf
          obtain rfl := Option.some.inj hf
          exact g_sub [0, 1] rfl J_v30
        · have hf := iff_ h38 hf
          refine g_aload_n 0 dX3_readItem_76 rfl rfl ?_
          refine g_ldcS (i := q_thumb) hN (by decide) rfl rfl dX3_readItem_77 ?_
          obtain ⟨v39, hc40, hf⟩ := obd_some hf
          refine g_callVi (ci := 3) (As := [.ref (P.2.1 q_thumb)]) (rest := []) (w2 := (wR cs ad v39.2)) 0 dX3_readItem_79 vX3_readItem_56 (c_X3_takeWord ad hty hN (by decide) hc40) rfl (mid0 _) rfl rfl 0 wlaR_0 rfl (Nat.le_of_ble_eq_true rfl) ⟨Nat.zero_le _, Nat.zero_le _⟩ (mid2 _ _) ?_
          refine g_if_eq (tgt := 92) dX3_readItem_82 (by decide) (fun h41 => ?_) (fun h41 => ?_)
          · have hf := ift h41 hf
            refine g_aload_n 0 dX3_readItem_92 rfl rfl ?_
            obtain ⟨v42, hc43, hf⟩ := obd_some hf
            refine g_callVi (ci := 3) (As := []) (rest := []) (w2 := (wR cs ad v42.2)) 0 dX3_readItem_93 vX3_readItem_81 (c_X3_readOtherWay ad hty hN hc43) rfl (mid0 _) rfl rfl 0 wlaR_0 rfl (Nat.le_of_ble_eq_true rfl) ⟨Nat.zero_le _, Nat.zero_le _⟩ (mid2 _ _) ?_
            refine g_istore_n (lv2 := [(1, .int v42.1), (0, .ref (ad 0))]) dX3_readItem_96 rfl (by decide) rfl ?_
            obtain rfl := Option.some.inj hf
            exact g_sub [1, 0] rfl J_v30
          · have hf := iff_ h41 hf
            refine g_aload_n 0 dX3_readItem_85 rfl rfl ?_
            obtain ⟨v44, hc45, hf⟩ := obd_some hf
            refine g_callVi (ci := 3) (As := []) (rest := []) (w2 := (wR cs ad v44.2)) 0 dX3_readItem_86 vX3_readItem_78 (c_X3_readThumb ad hty hN hc45) rfl (mid0 _) rfl rfl 0 wlaR_0 rfl (Nat.le_of_ble_eq_true rfl) ⟨Nat.zero_le _, Nat.zero_le _⟩ (mid2 _ _) ?_
            refine g_goto (tgt := 96) dX3_readItem_89 (by decide) ?_
            refine g_istore_n (lv2 := [(1, .int v44.1), (0, .ref (ad 0))]) dX3_readItem_96 rfl (by decide) rfl ?_
            obtain rfl := Option.some.inj hf
            exact g_sub [1, 0] rfl J_v30
    refine g_icmp_ge (tgt := 55) dX3_readItem_35 (by decide) (fun h47 => ?_) (fun h47 => ?_)
    · have hf := ift h47 hf
      exact g_sub [0, 1] rfl (K_k46 x31 s32 hf)
    · have hf := iff_ h47 hf
      refine g_aload_n 0 dX3_readItem_38 rfl rfl ?_
      refine g_ldcS (i := q_stall) hN (by decide) rfl rfl dX3_readItem_39 ?_
      obtain ⟨v48, hc49, hf⟩ := obd_some hf
      refine g_callVi (ci := 3) (As := [.ref (P.2.1 q_stall)]) (rest := []) (w2 := (wR cs ad v48.2)) 0 dX3_readItem_41 vX3_readItem_56 (c_X3_takeWord ad hty hN (by decide) hc49) rfl (mid0 _) rfl rfl 0 wlaR_0 rfl (Nat.le_of_ble_eq_true rfl) ⟨Nat.zero_le _, Nat.zero_le _⟩ (mid2 _ _) ?_
      refine g_if_eq (tgt := 55) dX3_readItem_44 (by decide) (fun h50 => ?_) (fun h50 => ?_)
      · have hf := ift h50 hf
        exact g_sub [0, 1] rfl (K_k46 x31 v48.2 hf)
      · have hf := iff_ h50 hf
        refine g_aload_n 0 dX3_readItem_47 rfl rfl ?_
        obtain ⟨v51, hc52, hf⟩ := obd_some hf
        refine g_callVi (ci := 3) (As := []) (rest := []) (w2 := (wR cs ad v51.2)) 0 dX3_readItem_48 vX3_readItem_68 (c_X3_readStall ad hty hc52) rfl (mid0 _) rfl rfl 0 wlaR_0 rfl (Nat.le_of_ble_eq_true rfl) ⟨Nat.zero_le _, Nat.zero_le _⟩ (mid2 _ _) ?_
        refine g_istore_n (lv2 := [(1, .int v51.1), (0, .ref (ad 0))]) dX3_readItem_51 rfl (by decide) rfl ?_
        refine g_goto (tgt := 97) dX3_readItem_52 (by decide) ?_
        obtain rfl := Option.some.inj hf
        exact g_sub [1, 0] rfl J_v30
  refine g_if_ne (tgt := 26) dX3_readItem_6 (by decide) (fun h54 => ?_) (fun h54 => ?_)
  · have hf := iff_ h54 hf
    exact g_sub [1, 0] rfl (K_k53 (0 : Int32) s hf)
  · have hf := ift h54 hf
    refine g_aload_n 1 dX3_readItem_9 rfl rfl ?_
    refine g_ldcS (i := q_luck) hN (by decide) rfl rfl dX3_readItem_10 ?_
    obtain ⟨v55, hc56, hf⟩ := obd_some hf
    refine g_callVi (ci := 3) (As := [.ref (P.2.1 q_luck)]) (rest := []) (w2 := (wR cs ad v55.2)) 0 dX3_readItem_12 vX3_readItem_56 (c_X3_takeWord ad hty hN (by decide) hc56) rfl (mid0 _) rfl rfl 0 wlaR_0 rfl (Nat.le_of_ble_eq_true rfl) ⟨Nat.zero_le _, Nat.zero_le _⟩ (mid2 _ _) ?_
    refine g_if_eq (tgt := 26) dX3_readItem_15 (by decide) (fun h57 => ?_) (fun h57 => ?_)
    · have hf := ift h57 hf
      exact g_sub [1, 0] rfl (K_k53 (0 : Int32) v55.2 hf)
    · have hf := iff_ h57 hf
      refine g_aload_n 1 dX3_readItem_18 rfl rfl ?_
      obtain ⟨v58, hc59, hf⟩ := obd_some hf
      refine g_callVi (ci := 3) (As := []) (rest := []) (w2 := (wR cs ad v58.2)) 0 dX3_readItem_19 vX3_readItem_60 (c_X3_readLuck ad hty hc59) rfl (mid0 _) rfl rfl 0 wlaR_0 rfl (Nat.le_of_ble_eq_true rfl) ⟨Nat.zero_le _, Nat.zero_le _⟩ (mid2 _ _) ?_
      refine g_istore_n (lv2 := [(1, .int v58.1), (0, .ref (ad 0))]) dX3_readItem_22 rfl (by decide) rfl ?_
      refine g_goto (tgt := 97) dX3_readItem_23 (by decide) ?_
      obtain rfl := Option.some.inj hf
      exact g_sub [1, 0] rfl J_v30

-- ThumbScale$Reader read (I)I
def rmX3_read : Room := { frames := 9, cells := 0, slots := 0, locals := 194 }
def kX3_read : MK := (cX3_read, 3, RX3, wsX3_read, (some .int), rmX3_read)

set_option maxRecDepth 20000 in
theorem jX3_read_9 : Cond.fieldLink RX3 9 (TX3 0).1 (TX3 0).2.1 (TX3 0).2.2.1 ∈ wsX3_read := by decide +kernel
set_option maxRecDepth 20000 in
theorem iX3_read_X3 : ∀ x ∈ u_ws RX3 TX3 9, x ∈ wsX3_read := by decide +kernel
set_option maxRecDepth 20000 in
theorem mX3_read_19 : (Cond.methodLink RX3 19 Lib.Math.min.name ∈ wsX3_read ∧ Cond.static Lib.Math.min.name ∈ wsX3_read) ∧ (Cond.initialized "java/lang/Math" ∈ wsX3_read ∧ Cond.code Lib.Math.min.name Lib.Math.min.code 2 (some .int) ∈ wsX3_read) := ⟨⟨by decide +kernel, by decide +kernel⟩, ⟨by decide +kernel, by decide +kernel⟩⟩
set_option maxRecDepth 20000 in
theorem jX3_read_25 : Cond.fieldLink RX3 25 (TX3 2).1 (TX3 2).2.1 (TX3 2).2.2.1 ∈ wsX3_read := by decide +kernel
set_option maxRecDepth 20000 in
theorem jX3_read_29 : Cond.fieldLink RX3 29 (TX3 3).1 (TX3 3).2.1 (TX3 3).2.2.1 ∈ wsX3_read := by decide +kernel
set_option maxRecDepth 20000 in
theorem jX3_read_33 : Cond.fieldLink RX3 33 (TX3 6).1 (TX3 6).2.1 (TX3 6).2.2.1 ∈ wsX3_read := by decide +kernel
set_option maxRecDepth 20000 in
theorem jX3_read_15 : Cond.fieldLink RX3 15 (TX3 1).1 (TX3 1).2.1 (TX3 1).2.2.1 ∈ wsX3_read := by decide +kernel
set_option maxRecDepth 20000 in
theorem vX3_read_36 : KV kX3_read 36 RX2 yX2_empty wsX2_empty rmX2_empty 0 := ⟨_, _, _, _, gX3_read_X2_empty, rfl, rfl, rfl, by decide +kernel, ⟨by decide, by decide⟩⟩
set_option maxRecDepth 20000 in
theorem vX3_read_41 : KV kX3_read 41 RX3 yX3_next wsX3_next rmX3_next 0 := ⟨_, _, _, _, gX3_read_X3_next, rfl, rfl, rfl, by decide +kernel, ⟨by decide, by decide⟩⟩
set_option maxRecDepth 20000 in
theorem jX3_read_44 : Cond.fieldLink RX3 44 (TX3 4).1 (TX3 4).2.1 (TX3 4).2.2.1 ∈ wsX3_read := by decide +kernel
set_option maxRecDepth 20000 in
theorem vX3_read_47 : KV kX3_read 47 RX3 yX3_readItem wsX3_readItem rmX3_readItem 0 := ⟨_, _, _, _, gX3_read_X3_readItem, rfl, rfl, rfl, by decide +kernel, ⟨by decide, by decide⟩⟩
set_option maxRecDepth 20000 in
theorem jX3_read_51 : Cond.fieldLink RX3 51 (TX3 5).1 (TX3 5).2.1 (TX3 5).2.2.1 ∈ wsX3_read := by decide +kernel
def f_X3_read_L36 (F : Nat) (a1 : Int32) : Nat → Int32 → SR → Option (Int32 × SR)
  | 0, _, _ => none
  | n + 1, x10, s11 =>
    (if (R_length s11) ≤ x10 then
    some (x10, s11)
    else
    (if (R_sign s11) = 0 then
    some (x10, s11)
    else
    obd (f_X3_readItem F s11) (fun v14 =>
    (if v14.1 = 0 then
    some (((-10 : Int32) - (R_place v14.2)), v14.2)
    else
    f_X3_read_L36 F a1 n (x10 + 1) v14.2))))

def f_X3_read (F : Nat) (s : SR) (a1 : Int32) : Option (Int32 × SR) :=
    olt (if (400 : Int32) < a1 then (400 : Int32) else a1) (fun z1 =>
    olt (uR_length s z1) (fun s2 =>
    olt (uR_luckTold s2 (0 : Int32)) (fun s3 =>
    olt (uR_after s3 (0 : Int32)) (fun s4 =>
    obd (f_X2_empty F (R_into s4)) (fun v5 =>
    olt (uR_into s4 v5) (fun s7 =>
    obd (f_X3_next F s7) (fun v8 =>
    f_X3_read_L36 F a1 F (0 : Int32) v8)))))))

set_option maxHeartbeats 4000000 in
set_option maxRecDepth 100000 in
theorem w_X3_read_L36 {E : GE} {cs : CS} {ad : Nat → Nat} {F : Nat} {a1 : Int32} {r : (Int32 × SR)} (hty : eT E = tyA cs) {P : XP} (hN : eX E = XS P) (hr : Ri E kX3_read r.1 (wR cs ad r.2)) : ∀ (n : Nat) (x10 : Int32) (s11 : SR), f_X3_read_L36 F a1 n x10 s11 = some r → G E kX3_read 0 0 36 [(0, .ref (ad 0)), (2, .int x10)] [] (wR cs ad s11) := by
  intro n
  induction n with
  | zero =>
    intro x10 s11 hf
    cases (show (none : Option (Int32 × SR)) = some r from hf)
  | succ n ih =>
    intro x10 s11 hf
    rw [f_X3_read_L36] at hf
    refine g_iload_n 1 dX3_read_36 rfl rfl ?_
    refine g_aload_n 0 dX3_read_37 rfl rfl ?_
    refine g_get (ci := 3) (T := TX3) (N := 9) 0 2 (.int (R_length s11)) dX3_read_38 iX3_read_X3 rfl jX3_read_25 (by decide) wlaR_0 rfl ?_
    refine g_icmp_ge (tgt := 72) dX3_read_41 (by decide) (fun h12 => ?_) (fun h12 => ?_)
    · have hf := ift h12 hf
      refine g_iload_n 1 dX3_read_72 rfl rfl ?_
      obtain rfl := Option.some.inj hf
      exact hr _ _ dX3_read_73
    · have hf := iff_ h12 hf
      refine g_aload_n 0 dX3_read_44 rfl rfl ?_
      refine g_get (ci := 3) (T := TX3) (N := 9) 0 4 (.int (R_sign s11)) dX3_read_45 iX3_read_X3 rfl jX3_read_44 (by decide) wlaR_0 rfl ?_
      refine g_if_eq (tgt := 72) dX3_read_48 (by decide) (fun h13 => ?_) (fun h13 => ?_)
      · have hf := ift h13 hf
        refine g_iload_n 1 dX3_read_72 rfl rfl ?_
        obtain rfl := Option.some.inj hf
        exact hr _ _ dX3_read_73
      · have hf := iff_ h13 hf
        refine g_aload_n 0 dX3_read_51 rfl rfl ?_
        obtain ⟨v14, hc15, hf⟩ := obd_some hf
        refine g_callVi (ci := 3) (As := []) (rest := []) (w2 := (wR cs ad v14.2)) 0 dX3_read_52 vX3_read_47 (c_X3_readItem ad hty hN hc15) rfl (mid0 _) rfl rfl 0 wlaR_0 rfl (Nat.le_of_ble_eq_true rfl) ⟨Nat.zero_le _, Nat.zero_le _⟩ (mid2 _ _) ?_
        refine g_if_ne (tgt := 66) dX3_read_55 (by decide) (fun h16 => ?_) (fun h16 => ?_)
        · have hf := iff_ h16 hf
          refine g_iinc (lv2 := [(2, .int (x10 + 1)), (0, .ref (ad 0))]) 1 dX3_read_66 rfl (ii1 _) (by decide) rfl ?_
          refine g_goto (tgt := 36) dX3_read_69 (by decide) ?_
          exact g_sub [1, 0] rfl (ih (x10 + 1) v14.2 hf)
        · have hf := ift h16 hf
          refine g_bipush (v := (-10 : Int32)) dX3_read_58 (by decide) ?_
          refine g_aload_n 0 dX3_read_60 rfl rfl ?_
          refine g_get (ci := 3) (T := TX3) (N := 9) 0 5 (.int (R_place v14.2)) dX3_read_61 iX3_read_X3 rfl jX3_read_51 (by decide) wlaR_0 rfl ?_
          refine g_isub dX3_read_64 ?_
          obtain rfl := Option.some.inj hf
          exact hr _ _ dX3_read_65

set_option maxHeartbeats 4000000 in
set_option maxRecDepth 100000 in
theorem c_X3_read {l : Launch} {D : va_G} {tys : List (ClassId × FieldType)} {X : XT} {cs : CS} (ad : Nat → Nat) {F : Nat} {s : SR} {a1 : Int32} {r : (Int32 × SR)} (htyM : tys = tyA cs) {P : XP} (hNX : X = XS P) (hf : f_X3_read F s a1 = some r) : Ci l D tys X yX3_read wsX3_read rmX3_read [.ref (ad 0), .int a1] (wR cs ad s) r.1 (wR cs ad r.2) := by
  refine Ci_ofG (by decide +kernel) rfl (Nat.le_of_ble_eq_true rfl) .int rfl (vp_nar_int _) (fun E _ _ hty0 hX0 hr => ?_)
  have hty := hty0.trans htyM
  have hN := hX0.trans hNX
  have hr : Ri E kX3_read r.1 (wR cs ad r.2) := hr
  show G E kX3_read 0 0 0 [(0, .ref (ad 0)), (1, .int a1)] [] (wR cs ad s)
  unfold f_X3_read at hf
  refine g_aload_n 0 dX3_read_0 rfl rfl ?_
  refine g_iload_n 1 dX3_read_1 rfl rfl ?_
  refine g_aload_n 0 dX3_read_2 rfl rfl ?_
  refine g_get (ci := 3) (T := TX3) (N := 9) 0 0 (.ref (ad 1)) dX3_read_3 iX3_read_X3 rfl jX3_read_9 (by decide) wlaR_0 rfl ?_
  refine g_alen (v := 400) 1 0 dX3_read_6 wlaR_1 (tI hty) rfl ?_
  refine g_mmin dX3_read_7 mX3_read_19.1.1 mX3_read_19.1.2 mX3_read_19.2.1 mX3_read_19.2.2 ⟨by decide, Nat.le_of_ble_eq_true rfl, Nat.zero_le _, Nat.zero_le _⟩ ?_
  obtain ⟨z1, e_z1, hf⟩ := olt_some hf
  refine g_cast rfl rfl (congrArg (fun q => Value.int q :: [.ref (ad 0)]) e_z1) rfl ?_
  obtain ⟨s2, e_s2, hf⟩ := olt_some hf
  refine g_put (ci := 3) (T := TX3) (N := 9) (ty := .int) (w2 := (wR cs ad s2)) 0 2 (.int z1) tyX3 dX3_read_10 iX3_read_X3 tyX3_ok nmX3 rfl jX3_read_25 (by decide) rfl rfl rfl rfl wlaR_0 (Nat.le_of_ble_eq_true rfl) (wlpR_0_2.trans (congrArg (wR cs ad) e_s2)) ?_
  refine g_aload_n 0 dX3_read_13 rfl rfl ?_
  refine g_iconst (v := (0 : Int32)) dX3_read_14 (by decide) ?_
  obtain ⟨s3, e_s3, hf⟩ := olt_some hf
  refine g_put (ci := 3) (T := TX3) (N := 9) (ty := .boolean) (w2 := (wR cs ad s3)) 0 3 (.int (0 : Int32)) tyX3 dX3_read_15 iX3_read_X3 tyX3_ok nmX3 rfl jX3_read_29 (by decide) rfl rfl rfl rfl wlaR_0 (Nat.le_of_ble_eq_true rfl) (wlpR_0_3.trans (congrArg (wR cs ad) e_s3)) ?_
  refine g_aload_n 0 dX3_read_18 rfl rfl ?_
  refine g_iconst (v := (0 : Int32)) dX3_read_19 (by decide) ?_
  obtain ⟨s4, e_s4, hf⟩ := olt_some hf
  refine g_put (ci := 3) (T := TX3) (N := 9) (ty := .int) (w2 := (wR cs ad s4)) 0 6 (.int (0 : Int32)) tyX3 dX3_read_20 iX3_read_X3 tyX3_ok nmX3 rfl jX3_read_33 (by decide) rfl rfl rfl rfl wlaR_0 (Nat.le_of_ble_eq_true rfl) (wlpR_0_6.trans (congrArg (wR cs ad) e_s4)) ?_
  refine g_aload_n 0 dX3_read_23 rfl rfl ?_
  refine g_get (ci := 3) (T := TX3) (N := 9) 0 1 (.ref (ad 2)) dX3_read_24 iX3_read_X3 rfl jX3_read_15 (by decide) wlaR_0 rfl ?_
  obtain ⟨v5, hc6, hf⟩ := obd_some hf
  obtain ⟨s7, e_s7, hf⟩ := olt_some hf
  refine g_callVv (ci := 2) (As := []) (rest := []) (w2 := (wR cs ad s7)) 2 dX3_read_27 vX3_read_36 (c_X2_empty (fun k => ad (2 + k)) hty hc6) rfl wlhR_2 rfl rfl 0 wlaM_0 rfl (Nat.le_of_ble_eq_true rfl) ⟨Nat.zero_le _, Nat.zero_le _⟩ (wlcR_2.trans (congrArg (wR cs ad) e_s7)) ?_
  refine g_aload_n 0 dX3_read_30 rfl rfl ?_
  obtain ⟨v8, hc9, hf⟩ := obd_some hf
  refine g_callVv (ci := 3) (As := []) (rest := []) (w2 := (wR cs ad v8)) 0 dX3_read_31 vX3_read_41 (c_X3_next ad hty hc9) rfl (mid0 _) rfl rfl 0 wlaR_0 rfl (Nat.le_of_ble_eq_true rfl) ⟨Nat.zero_le _, Nat.zero_le _⟩ (mid2 _ _) ?_
  refine g_iconst (v := (0 : Int32)) dX3_read_34 (by decide) ?_
  refine g_istore_n (lv2 := [(2, .int (0 : Int32)), (0, .ref (ad 0)), (1, .int a1)]) dX3_read_35 rfl (by decide) rfl ?_
  exact g_sub [1, 0] rfl (w_X3_read_L36 hty hN hr F (0 : Int32) v8 hf)
