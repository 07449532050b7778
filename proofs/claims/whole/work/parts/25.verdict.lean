-- ThumbScale$Verdict mayBe (II)Z
def rmX4_mayBe : Room := { frames := 0, cells := 0, slots := 0, locals := 0 }
def kX4_mayBe : MK := (cX4_mayBe, 3, RX4, wsX4_mayBe, (some .boolean), rmX4_mayBe)

set_option maxRecDepth 20000 in
theorem jX4_mayBe_28 : Cond.fieldLink RX4 28 RX4 "LEAST" "[I" ∈ wsX4_mayBe := by decide +kernel
set_option maxRecDepth 20000 in
theorem jX4_mayBe_31 : Cond.fieldLink RX4 31 RX4 "MOST" "[I" ∈ wsX4_mayBe := by decide +kernel
def f_X4_mayBe (F : Nat) (s : SV) (a1 : Int32) (a2 : Int32) : Option Int32 :=
    (if a1 < 0 then
    some (0 : Int32)
    else
    (if (8 : Int32) ≤ a1 then
    some (0 : Int32)
    else
    ochi a1 8 (
    (if a2 < (aLEAST (Int32.toNatClampNeg a1)) then
    some (0 : Int32)
    else
    ochi a1 8 (
    (if (aMOST (Int32.toNatClampNeg a1)) < a2 then
    some (0 : Int32)
    else
    some (1 : Int32)))))))

set_option maxHeartbeats 4000000 in
set_option maxRecDepth 100000 in
theorem c_X4_mayBe {l : Launch} {D : va_G} {tys : List (ClassId × FieldType)} {X : XT} {cs : CS} (ad : Nat → Nat) {F : Nat} {s : SV} {a1 : Int32} {a2 : Int32} {r : Int32} (htyM : tys = tyA cs) {P : XP} (hNX : X = XS P) (hf : f_X4_mayBe F s a1 a2 = some r) : Ci l D tys X yX4_mayBe wsX4_mayBe rmX4_mayBe [.ref (ad 0), .int a1, .int a2] (wV cs ad s) r (wV cs ad s) := by
  refine Cz_ofG (by decide +kernel) rfl (Nat.le_of_ble_eq_true rfl) (fun E _ _ hty0 hX0 hr => ?_)
  have hty := hty0.trans htyM
  have hN := hX0.trans hNX
  have hr : Rz E kX4_mayBe r (wV cs ad s) := hr
  show G E kX4_mayBe 0 0 0 [(0, .ref (ad 0)), (1, .int a1), (2, .int a2)] [] (wV cs ad s)
  unfold f_X4_mayBe at hf
  refine g_iload_n 1 dX4_mayBe_0 rfl rfl ?_
  refine g_if_lt (tgt := 32) dX4_mayBe_1 (by decide) (fun h1 => ?_) (fun h1 => ?_)
  · have hf := ift h1 hf
    refine g_iconst (v := (0 : Int32)) dX4_mayBe_32 (by decide) ?_
    obtain rfl := Option.some.inj hf
    exact hr _ _ dX4_mayBe_33 (Or.inl rfl)
  · have hf := iff_ h1 hf
    refine g_iload_n 1 dX4_mayBe_4 rfl rfl ?_
    refine g_bipush (v := (8 : Int32)) dX4_mayBe_5 (by decide) ?_
    refine g_icmp_ge (tgt := 32) dX4_mayBe_7 (by decide) (fun h2 => ?_) (fun h2 => ?_)
    · have hf := ift h2 hf
      refine g_iconst (v := (0 : Int32)) dX4_mayBe_32 (by decide) ?_
      obtain rfl := Option.some.inj hf
      exact hr _ _ dX4_mayBe_33 (Or.inl rfl)
    · have hf := iff_ h2 hf
      refine g_iload_n 2 dX4_mayBe_10 rfl rfl ?_
      refine g_gets (v := .ref P.1.1) hN (fun _ _ _ h => h.2.1.1) dX4_mayBe_11 jX4_mayBe_28 ?_
      refine g_iload_n 1 dX4_mayBe_14 rfl rfl ?_
      obtain ⟨h3, hf⟩ := ochi_some hf
      refine g_ti hN (fun _ _ _ h => h.2.1.2) dX4_mayBe_15 h3 ?_
      refine g_icmp_lt (tgt := 32) dX4_mayBe_16 (by decide) (fun h4 => ?_) (fun h4 => ?_)
      · have hf := ift h4 hf
        refine g_iconst (v := (0 : Int32)) dX4_mayBe_32 (by decide) ?_
        obtain rfl := Option.some.inj hf
        exact hr _ _ dX4_mayBe_33 (Or.inl rfl)
      · have hf := iff_ h4 hf
        refine g_iload_n 2 dX4_mayBe_19 rfl rfl ?_
        refine g_gets (v := .ref P.1.2.1) hN (fun _ _ _ h => h.2.2.1.1) dX4_mayBe_20 jX4_mayBe_31 ?_
        refine g_iload_n 1 dX4_mayBe_23 rfl rfl ?_
        obtain ⟨h5, hf⟩ := ochi_some hf
        refine g_ti hN (fun _ _ _ h => h.2.2.1.2) dX4_mayBe_24 h5 ?_
        refine g_icmp_gt (tgt := 32) dX4_mayBe_25 (by decide) (fun h6 => ?_) (fun h6 => ?_)
        · have hf := ift h6 hf
          refine g_iconst (v := (0 : Int32)) dX4_mayBe_32 (by decide) ?_
          obtain rfl := Option.some.inj hf
          exact hr _ _ dX4_mayBe_33 (Or.inl rfl)
        · have hf := iff_ h6 hf
          refine g_iconst (v := (1 : Int32)) dX4_mayBe_28 (by decide) ?_
          refine g_goto (tgt := 33) dX4_mayBe_29 (by decide) ?_
          obtain rfl := Option.some.inj hf
          exact hr _ _ dX4_mayBe_33 (Or.inr rfl)

-- ThumbScale$Verdict weight (IIII)J
def rmX4_weight : Room := { frames := 1, cells := 0, slots := 0, locals := 25 }
def kX4_weight : MK := (cX4_weight, 4, RX4, wsX4_weight, (some .long), rmX4_weight)

set_option maxRecDepth 20000 in
theorem vX4_weight_44 : KSN kX4_weight 44 yX5_power wsX5_power rmX5_power 2 := ⟨_, _, _, _, gX4_weight_X5_power_n44, rfl, rfl, rfl, ⟨by decide +kernel, by decide +kernel⟩, by decide +kernel, ⟨by decide, by decide⟩⟩
def f_X4_weight (F : Nat) (a0 : Int32) (a1 : Int32) (a2 : Int32) (a3 : Int32) : Option Int64 :=
    obd (f_X5_power F (Int32.toInt64 a1) a3) (fun v1 =>
    obd (f_X5_power F (Int32.toInt64 ((10 : Int32) - a1)) (a2 - a3)) (fun v3 =>
    some (((Int32.toInt64 a0) * v1) * v3)))

set_option maxHeartbeats 4000000 in
set_option maxRecDepth 100000 in
theorem c_X4_weight {l : Launch} {D : va_G} {tys : List (ClassId × FieldType)} {X : XT} {cs : CS} {F : Nat} {a0 : Int32} {a1 : Int32} {a2 : Int32} {a3 : Int32} {r : Int64} (htyM : tys = tyA cs) {P : XP} (hNX : X = XS P) (hf : f_X4_weight F a0 a1 a2 a3 = some r) : Cl l D tys X yX4_weight wsX4_weight rmX4_weight [.int a0, .int a1, .int a2, .int a3] [] r [] := by
  refine Cl_ofG (by decide +kernel) rfl (Nat.le_of_ble_eq_true rfl) (fun E _ _ hty0 hX0 hr => ?_)
  have hty := hty0.trans htyM
  have hN := hX0.trans hNX
  have hr : Rl E kX4_weight r [] := hr
  show G E kX4_weight 0 0 0 [(0, .int a0), (1, .int a1), (2, .int a2), (3, .int a3)] [] []
  unfold f_X4_weight at hf
  refine g_iload_n 0 dX4_weight_0 rfl rfl ?_
  refine g_i2l dX4_weight_1 ?_
  refine g_iload_n 1 dX4_weight_2 rfl rfl ?_
  refine g_i2l dX4_weight_3 ?_
  refine g_iload_n 3 dX4_weight_4 rfl rfl ?_
  obtain ⟨v1, hc2, hf⟩ := obd_some hf
  refine g_callSNl hN (As := [.long (Int32.toInt64 a1), .int a3]) (rest := [.long (Int32.toInt64 a0)]) (w2 := []) 0 dX4_weight_5 vX4_weight_44 ⟨rfl, rfl, rfl⟩ (c_X5_power hty hc2) rfl rfl rfl (Nat.le_of_ble_eq_true rfl) ⟨Nat.zero_le _, Nat.zero_le _⟩ rfl ?_
  refine g_lmul dX4_weight_8 ?_
  refine g_bipush (v := (10 : Int32)) dX4_weight_9 (by decide) ?_
  refine g_iload_n 1 dX4_weight_11 rfl rfl ?_
  refine g_isub dX4_weight_12 ?_
  refine g_i2l dX4_weight_13 ?_
  refine g_iload_n 2 dX4_weight_14 rfl rfl ?_
  refine g_iload_n 3 dX4_weight_15 rfl rfl ?_
  refine g_isub dX4_weight_16 ?_
  obtain ⟨v3, hc4, hf⟩ := obd_some hf
  refine g_callSNl hN (As := [.long (Int32.toInt64 ((10 : Int32) - a1)), .int (a2 - a3)]) (rest := [.long ((Int32.toInt64 a0) * v1)]) (w2 := []) 0 dX4_weight_17 vX4_weight_44 ⟨rfl, rfl, rfl⟩ (c_X5_power hty hc4) rfl rfl rfl (Nat.le_of_ble_eq_true rfl) ⟨Nat.zero_le _, Nat.zero_le _⟩ rfl ?_
  refine g_lmul dX4_weight_20 ?_
  obtain rfl := Option.some.inj hf
  exact hr _ _ dX4_weight_21

-- ThumbScale$Verdict leastAt (II)J
def rmX4_leastAt : Room := { frames := 0, cells := 0, slots := 0, locals := 0 }
def kX4_leastAt : MK := (cX4_leastAt, 3, RX4, wsX4_leastAt, (some .long), rmX4_leastAt)

set_option maxRecDepth 20000 in
theorem jX4_leastAt_18 : Cond.fieldLink RX4 18 (TX4 1).1 (TX4 1).2.1 (TX4 1).2.2.1 ∈ wsX4_leastAt := by decide +kernel
set_option maxRecDepth 20000 in
theorem iX4_leastAt_X4 : ∀ x ∈ u_ws RX4 TX4 3, x ∈ wsX4_leastAt := by decide +kernel
def f_X4_leastAt (F : Nat) (s : SV) (a1 : Int32) (a2 : Int32) : Option Int64 :=
    ochi ((a1 * (9 : Int32)) + a2) 81 (
    some ((V_leastCost s) (Int32.toNatClampNeg ((a1 * (9 : Int32)) + a2))))

set_option maxHeartbeats 4000000 in
set_option maxRecDepth 100000 in
theorem c_X4_leastAt {l : Launch} {D : va_G} {tys : List (ClassId × FieldType)} {X : XT} {cs : CS} (ad : Nat → Nat) {F : Nat} {s : SV} {a1 : Int32} {a2 : Int32} {r : Int64} (htyM : tys = tyA cs) (hf : f_X4_leastAt F s a1 a2 = some r) : Cl l D tys X yX4_leastAt wsX4_leastAt rmX4_leastAt [.ref (ad 0), .int a1, .int a2] (wV cs ad s) r (wV cs ad s) := by
  refine Cl_ofG (by decide +kernel) rfl (Nat.le_of_ble_eq_true rfl) (fun E _ _ hty0 hX0 hr => ?_)
  have hty := hty0.trans htyM
  have hr : Rl E kX4_leastAt r (wV cs ad s) := hr
  show G E kX4_leastAt 0 0 0 [(0, .ref (ad 0)), (1, .int a1), (2, .int a2)] [] (wV cs ad s)
  unfold f_X4_leastAt at hf
  refine g_aload_n 0 dX4_leastAt_0 rfl rfl ?_
  refine g_get (ci := 4) (T := TX4) (N := 3) 0 1 (.ref (ad 2)) dX4_leastAt_1 iX4_leastAt_X4 rfl jX4_leastAt_18 (by decide) wlaV_0 rfl ?_
  refine g_iload_n 1 dX4_leastAt_4 rfl rfl ?_
  refine g_bipush (v := (9 : Int32)) dX4_leastAt_5 (by decide) ?_
  refine g_imul dX4_leastAt_7 ?_
  refine g_iload_n 2 dX4_leastAt_8 rfl rfl ?_
  refine g_iadd dX4_leastAt_9 ?_
  obtain ⟨h1, hf⟩ := ochi_some hf
  refine g_lald 2 1 dX4_leastAt_10 wlaV_2 (tJ hty) h1 ?_
  obtain rfl := Option.some.inj hf
  exact hr _ _ dX4_leastAt_11

-- ThumbScale$Verdict decide (II)V
def rmX4_decide : Room := { frames := 2, cells := 0, slots := 0, locals := 48 }
def kX4_decide : MK := (cX4_decide, 16, RX4, wsX4_decide, none, rmX4_decide)

set_option maxRecDepth 20000 in
theorem qX4_decide_42 : Cond.constantLong RX4 42 (10 : Int64) ∈ wsX4_decide := by decide +kernel
set_option maxRecDepth 20000 in
theorem jX4_decide_11 : Cond.fieldLink RX4 11 (TX4 0).1 (TX4 0).2.1 (TX4 0).2.2.1 ∈ wsX4_decide := by decide +kernel
set_option maxRecDepth 20000 in
theorem iX4_decide_X4 : ∀ x ∈ u_ws RX4 TX4 3, x ∈ wsX4_decide := by decide +kernel
set_option maxRecDepth 20000 in
theorem vX4_decide_44 : KSN kX4_decide 44 yX5_power wsX5_power rmX5_power 2 := ⟨_, _, _, _, gX4_decide_X5_power_n44, rfl, rfl, rfl, ⟨by decide +kernel, by decide +kernel⟩, by decide +kernel, ⟨by decide, by decide⟩⟩
set_option maxRecDepth 20000 in
theorem vX4_decide_48 : KS kX4_decide 48 yX4_weight wsX4_weight rmX4_weight 4 := ⟨_, _, _, _, gX4_decide_X4_weight, rfl, rfl, rfl, by decide +kernel, ⟨by decide, by decide⟩⟩
set_option maxRecDepth 20000 in
theorem vX4_decide_52 : KV kX4_decide 52 RX4 yX4_leastAt wsX4_leastAt rmX4_leastAt 2 := ⟨_, _, _, _, gX4_decide_X4_leastAt, rfl, rfl, rfl, by decide +kernel, ⟨by decide, by decide⟩⟩
set_option maxRecDepth 20000 in
theorem jX4_decide_22 : Cond.fieldLink RX4 22 (TX4 2).1 (TX4 2).2.1 (TX4 2).2.2.1 ∈ wsX4_decide := by decide +kernel
set_option maxRecDepth 20000 in
theorem jX4_decide_18 : Cond.fieldLink RX4 18 (TX4 1).1 (TX4 1).2.1 (TX4 1).2.2.1 ∈ wsX4_decide := by decide +kernel
def f_X4_decide (F : Nat) (s : SV) (a1 : Int32) (a2 : Int32) : Option SV :=
    ochi (7 : Int32) 8 (
    obd (f_X5_power F (10 : Int64) (((V_bars s) (Int32.toNatClampNeg (7 : Int32))) - a1)) (fun v2 =>
    ochi (2 : Int32) 8 (
    ochi (0 : Int32) 8 (
    obd (f_X4_weight F ((V_bars s) (Int32.toNatClampNeg (2 : Int32))) ((V_bars s) (Int32.toNatClampNeg (0 : Int32))) a1 a2) (fun v6 =>
    ochi (3 : Int32) 8 (
    ochi (1 : Int32) 8 (
    obd (f_X4_weight F ((V_bars s) (Int32.toNatClampNeg (3 : Int32))) ((V_bars s) (Int32.toNatClampNeg (1 : Int32))) a1 a2) (fun v10 =>
    ochi (4 : Int32) 8 (
    olt (((Int32.toInt64 ((V_bars s) (Int32.toNatClampNeg (4 : Int32)))) * v6) * v2) (fun z13 =>
    ochi (5 : Int32) 8 (
    olt (((Int32.toInt64 ((V_bars s) (Int32.toNatClampNeg (5 : Int32)))) * v10) * v2) (fun z15 =>
    obd ((if 0 ≤ (lg_cmp z15 z13) then
    some ((0 : Int32), z13)
    else
    some ((1 : Int32), z15))) (fun v17 =>
    ochi (7 : Int32) 8 (
    obd ((if ((V_bars s) (Int32.toNatClampNeg (7 : Int32))) ≤ a1 then
    some (v17.1, v17.2)
    else
    ochi (6 : Int32) 8 (
    obd (f_X4_leastAt F s (a1 + (1 : Int32)) (a2 + (1 : Int32))) (fun v31 =>
    obd (f_X4_leastAt F s (a1 + (1 : Int32)) a2) (fun v33 =>
    olt (((((Int32.toInt64 ((V_bars s) (Int32.toNatClampNeg (6 : Int32)))) * (v6 + v10)) * v2) + v31) + v33) (fun z35 =>
    (if 0 ≤ (lg_cmp z35 v17.2) then
    some (v17.1, v17.2)
    else
    some ((2 : Int32), z35)))))))) (fun v28 =>
    ochi ((a1 * (9 : Int32)) + a2) 81 (olt (uV_choice s (upd (V_choice s) (Int32.toNatClampNeg ((a1 * (9 : Int32)) + a2)) v28.1)) (fun s38 =>
    ochi ((a1 * (9 : Int32)) + a2) 81 (olt (uV_leastCost s38 (vp_updL (V_leastCost s38) (Int32.toNatClampNeg ((a1 * (9 : Int32)) + a2)) v28.2)) (fun s40 =>
    some s40)))))))))))))))))))

set_option maxHeartbeats 4000000 in
set_option maxRecDepth 100000 in
theorem c_X4_decide {l : Launch} {D : va_G} {tys : List (ClassId × FieldType)} {X : XT} {cs : CS} (ad : Nat → Nat) {F : Nat} {s : SV} {a1 : Int32} {a2 : Int32} {r : SV} (htyM : tys = tyA cs) {P : XP} (hNX : X = XS P) (hf : f_X4_decide F s a1 a2 = some r) : Cv l D tys X yX4_decide wsX4_decide rmX4_decide [.ref (ad 0), .int a1, .int a2] (wV cs ad s) (wV cs ad r) := by
  refine Cv_ofG (by decide +kernel) rfl (Nat.le_of_ble_eq_true rfl) (fun E _ _ hty0 hX0 hr => ?_)
  have hty := hty0.trans htyM
  have hN := hX0.trans hNX
  have hr : Rv E kX4_decide (wV cs ad r) := hr
  show G E kX4_decide 0 0 0 [(0, .ref (ad 0)), (1, .int a1), (2, .int a2)] [] (wV cs ad s)
  unfold f_X4_decide at hf
  refine g_ldc2 (v := (10 : Int64)) dX4_decide_0 qX4_decide_42 ?_
  refine g_aload_n 0 dX4_decide_3 rfl rfl ?_
  refine g_get (ci := 4) (T := TX4) (N := 3) 0 0 (.ref (ad 1)) dX4_decide_4 iX4_decide_X4 rfl jX4_decide_11 (by decide) wlaV_0 rfl ?_
  refine g_bipush (v := (7 : Int32)) dX4_decide_7 (by decide) ?_
  obtain ⟨h1, hf⟩ := ochi_some hf
  refine g_iald 1 0 dX4_decide_9 wlaV_1 (tI hty) h1 ?_
  refine g_iload_n 1 dX4_decide_10 rfl rfl ?_
  refine g_isub dX4_decide_11 ?_
  obtain ⟨v2, hc3, hf⟩ := obd_some hf
  refine g_callSNl hN (As := [.long (10 : Int64), .int (((V_bars s) (Int32.toNatClampNeg (7 : Int32))) - a1)]) (rest := []) (w2 := (wV cs ad s)) 0 dX4_decide_12 vX4_decide_44 ⟨rfl, rfl, rfl⟩ (c_X5_power hty hc3) rfl (midm _) rfl (Nat.le_of_ble_eq_true rfl) ⟨Nat.zero_le _, Nat.zero_le _⟩ (midn _) ?_
  refine g_lstore_n (lv2 := [(3, .long v2), (0, .ref (ad 0)), (1, .int a1), (2, .int a2)]) dX4_decide_15 rfl (by decide) rfl ?_
  refine g_aload_n 1 dX4_decide_16 rfl rfl ?_
  refine g_get (ci := 4) (T := TX4) (N := 3) 0 0 (.ref (ad 1)) dX4_decide_17 iX4_decide_X4 rfl jX4_decide_11 (by decide) wlaV_0 rfl ?_
  refine g_iconst (v := (2 : Int32)) dX4_decide_20 (by decide) ?_
  obtain ⟨h4, hf⟩ := ochi_some hf
  refine g_iald 1 0 dX4_decide_21 wlaV_1 (tI hty) h4 ?_
  refine g_aload_n 1 dX4_decide_22 rfl rfl ?_
  refine g_get (ci := 4) (T := TX4) (N := 3) 0 0 (.ref (ad 1)) dX4_decide_23 iX4_decide_X4 rfl jX4_decide_11 (by decide) wlaV_0 rfl ?_
  refine g_iconst (v := (0 : Int32)) dX4_decide_26 (by decide) ?_
  obtain ⟨h5, hf⟩ := ochi_some hf
  refine g_iald 1 0 dX4_decide_27 wlaV_1 (tI hty) h5 ?_
  refine g_iload_n 2 dX4_decide_28 rfl rfl ?_
  refine g_iload_n 3 dX4_decide_29 rfl rfl ?_
  obtain ⟨v6, hc7, hf⟩ := obd_some hf
  refine g_callSl (As := [.int ((V_bars s) (Int32.toNatClampNeg (2 : Int32))), .int ((V_bars s) (Int32.toNatClampNeg (0 : Int32))), .int a1, .int a2]) (rest := []) (w2 := (wV cs ad s)) 0 dX4_decide_30 vX4_decide_48 (c_X4_weight hty hN hc7) rfl (midm _) rfl (Nat.le_of_ble_eq_true rfl) ⟨Nat.zero_le _, Nat.zero_le _⟩ (midn _) ?_
  refine g_lstore (lv2 := [(5, .long v6), (3, .long v2), (0, .ref (ad 0)), (1, .int a1), (2, .int a2)]) dX4_decide_33 (by decide) rfl ?_
  refine g_aload_n 2 dX4_decide_35 rfl rfl ?_
  refine g_get (ci := 4) (T := TX4) (N := 3) 0 0 (.ref (ad 1)) dX4_decide_36 iX4_decide_X4 rfl jX4_decide_11 (by decide) wlaV_0 rfl ?_
  refine g_iconst (v := (3 : Int32)) dX4_decide_39 (by decide) ?_
  obtain ⟨h8, hf⟩ := ochi_some hf
  refine g_iald 1 0 dX4_decide_40 wlaV_1 (tI hty) h8 ?_
  refine g_aload_n 2 dX4_decide_41 rfl rfl ?_
  refine g_get (ci := 4) (T := TX4) (N := 3) 0 0 (.ref (ad 1)) dX4_decide_42 iX4_decide_X4 rfl jX4_decide_11 (by decide) wlaV_0 rfl ?_
  refine g_iconst (v := (1 : Int32)) dX4_decide_45 (by decide) ?_
  obtain ⟨h9, hf⟩ := ochi_some hf
  refine g_iald 1 0 dX4_decide_46 wlaV_1 (tI hty) h9 ?_
  refine g_iload_n 3 dX4_decide_47 rfl rfl ?_
  refine g_iload_n 4 dX4_decide_48 rfl rfl ?_
  obtain ⟨v10, hc11, hf⟩ := obd_some hf
  refine g_callSl (As := [.int ((V_bars s) (Int32.toNatClampNeg (3 : Int32))), .int ((V_bars s) (Int32.toNatClampNeg (1 : Int32))), .int a1, .int a2]) (rest := []) (w2 := (wV cs ad s)) 0 dX4_decide_49 vX4_decide_48 (c_X4_weight hty hN hc11) rfl (midm _) rfl (Nat.le_of_ble_eq_true rfl) ⟨Nat.zero_le _, Nat.zero_le _⟩ (midn _) ?_
  refine g_lstore (lv2 := [(7, .long v10), (5, .long v6), (3, .long v2), (0, .ref (ad 0)), (1, .int a1), (2, .int a2)]) dX4_decide_52 (by decide) rfl ?_
  refine g_iconst (v := (0 : Int32)) dX4_decide_54 (by decide) ?_
  refine g_istore (lv2 := [(9, .int (0 : Int32)), (7, .long v10), (5, .long v6), (3, .long v2), (0, .ref (ad 0)), (1, .int a1), (2, .int a2)]) dX4_decide_55 (by decide) rfl ?_
  refine g_aload_n 4 dX4_decide_57 rfl rfl ?_
  refine g_get (ci := 4) (T := TX4) (N := 3) 0 0 (.ref (ad 1)) dX4_decide_58 iX4_decide_X4 rfl jX4_decide_11 (by decide) wlaV_0 rfl ?_
  refine g_iconst (v := (4 : Int32)) dX4_decide_61 (by decide) ?_
  obtain ⟨h12, hf⟩ := ochi_some hf
  refine g_iald 1 0 dX4_decide_62 wlaV_1 (tI hty) h12 ?_
  refine g_i2l dX4_decide_63 ?_
  refine g_lload 2 dX4_decide_64 rfl ?_
  refine g_lmul dX4_decide_66 ?_
  refine g_lload_n 3 dX4_decide_67 rfl rfl ?_
  refine g_lmul dX4_decide_68 ?_
  obtain ⟨z13, e_z13, hf⟩ := olt_some hf
  refine g_cast rfl rfl (congrArg (fun q => Value.long q :: []) e_z13) rfl ?_
  refine g_lstore (lv2 := [(10, .long z13), (9, .int (0 : Int32)), (7, .long v10), (5, .long v6), (3, .long v2), (0, .ref (ad 0)), (1, .int a1), (2, .int a2)]) dX4_decide_69 (by decide) rfl ?_
  refine g_aload_n 5 dX4_decide_71 rfl rfl ?_
  refine g_get (ci := 4) (T := TX4) (N := 3) 0 0 (.ref (ad 1)) dX4_decide_72 iX4_decide_X4 rfl jX4_decide_11 (by decide) wlaV_0 rfl ?_
  refine g_iconst (v := (5 : Int32)) dX4_decide_75 (by decide) ?_
  obtain ⟨h14, hf⟩ := ochi_some hf
  refine g_iald 1 0 dX4_decide_76 wlaV_1 (tI hty) h14 ?_
  refine g_i2l dX4_decide_77 ?_
  refine g_lload 2 dX4_decide_78 rfl ?_
  refine g_lmul dX4_decide_80 ?_
  refine g_lload_n 4 dX4_decide_81 rfl rfl ?_
  refine g_lmul dX4_decide_82 ?_
  obtain ⟨z15, e_z15, hf⟩ := olt_some hf
  refine g_cast rfl rfl (congrArg (fun q => Value.long q :: []) e_z15) rfl ?_
  refine g_lstore (lv2 := [(12, .long z15), (10, .long z13), (9, .int (0 : Int32)), (7, .long v10), (5, .long v6), (3, .long v2), (0, .ref (ad 0)), (1, .int a1), (2, .int a2)]) dX4_decide_83 (by decide) rfl ?_
  refine g_lload 0 dX4_decide_85 rfl ?_
  refine g_lload 1 dX4_decide_87 rfl ?_
  refine g_lcmp dX4_decide_89 ?_
  obtain ⟨v17, hE_v17, hf⟩ := obd_some hf
  have J_v17 : G E kX4_decide 0 0 100 [(0, .ref (ad 0)), (1, .int a1), (2, .int a2), (3, .long v2), (5, .long v6), (7, .long v10), (9, .int v17.1), (10, .long v17.2)] [] (wV cs ad s) := by
    refine g_iload_n 1 dX4_decide_100 rfl rfl ?_
    refine g_aload_n 0 dX4_decide_101 rfl rfl ?_
    refine g_get (ci := 4) (T := TX4) (N := 3) 0 0 (.ref (ad 1)) dX4_decide_102 iX4_decide_X4 rfl jX4_decide_11 (by decide) wlaV_0 rfl ?_
    refine g_bipush (v := (7 : Int32)) dX4_decide_105 (by decide) ?_
    obtain ⟨h19, hf⟩ := ochi_some hf
    refine g_iald 1 0 dX4_decide_107 wlaV_1 (tI hty) h19 ?_
    obtain ⟨v28, hE_v28, hf⟩ := obd_some hf
    have J_v28 : G E kX4_decide 0 0 164 [(0, .ref (ad 0)), (1, .int a1), (2, .int a2), (9, .int v28.1), (10, .long v28.2)] [] (wV cs ad s) := by
      refine g_aload_n 0 dX4_decide_164 rfl rfl ?_
      refine g_get (ci := 4) (T := TX4) (N := 3) 0 2 (.ref (ad 3)) dX4_decide_165 iX4_decide_X4 rfl jX4_decide_22 (by decide) wlaV_0 rfl ?_
      refine g_iload_n 1 dX4_decide_168 rfl rfl ?_
      refine g_bipush (v := (9 : Int32)) dX4_decide_169 (by decide) ?_
      refine g_imul dX4_decide_171 ?_
      refine g_iload_n 2 dX4_decide_172 rfl rfl ?_
      refine g_iadd dX4_decide_173 ?_
      refine g_iload 3 dX4_decide_174 rfl ?_
      obtain ⟨h37, hf⟩ := ochi_some hf
      obtain ⟨s38, e_s38, hf⟩ := olt_some hf
      refine g_iast (w2 := (wV cs ad s38)) 3 0 dX4_decide_176 wlaV_3 (tI hty) h37 (wlsV_3.trans (congrArg (wV cs ad) e_s38)) ?_
      refine g_aload_n 0 dX4_decide_177 rfl rfl ?_
      refine g_get (ci := 4) (T := TX4) (N := 3) 0 1 (.ref (ad 2)) dX4_decide_178 iX4_decide_X4 rfl jX4_decide_18 (by decide) wlaV_0 rfl ?_
      refine g_iload_n 1 dX4_decide_181 rfl rfl ?_
      refine g_bipush (v := (9 : Int32)) dX4_decide_182 (by decide) ?_
      refine g_imul dX4_decide_184 ?_
      refine g_iload_n 2 dX4_decide_185 rfl rfl ?_
      refine g_iadd dX4_decide_186 ?_
      refine g_lload 4 dX4_decide_187 rfl ?_
      obtain ⟨h39, hf⟩ := ochi_some hf
      obtain ⟨s40, e_s40, hf⟩ := olt_some hf
      refine g_last (w2 := (wV cs ad s40)) 2 1 dX4_decide_189 wlaV_2 (tJ hty) h39 (wlsV_2.trans (congrArg (wV cs ad) e_s40)) ?_
      obtain rfl := Option.some.inj hf
      exact hr _ _ dX4_decide_190
    have hf := hE_v28
    refine g_icmp_ge (tgt := 164) dX4_decide_108 (by decide) (fun h29 => ?_) (fun h29 => ?_)
    · have hf := ift h29 hf
      obtain rfl := Option.some.inj hf
      exact g_sub [0, 1, 2, 6, 7] rfl J_v28
    · have hf := iff_ h29 hf
      refine g_aload_n 0 dX4_decide_111 rfl rfl ?_
      refine g_get (ci := 4) (T := TX4) (N := 3) 0 0 (.ref (ad 1)) dX4_decide_112 iX4_decide_X4 rfl jX4_decide_11 (by decide) wlaV_0 rfl ?_
      refine g_bipush (v := (6 : Int32)) dX4_decide_115 (by decide) ?_
      obtain ⟨h30, hf⟩ := ochi_some hf
      refine g_iald 1 0 dX4_decide_117 wlaV_1 (tI hty) h30 ?_
      refine g_i2l dX4_decide_118 ?_
      refine g_lload 4 dX4_decide_119 rfl ?_
      refine g_lload 5 dX4_decide_121 rfl ?_
      refine g_ladd dX4_decide_123 ?_
      refine g_lmul dX4_decide_124 ?_
      refine g_lload_n 3 dX4_decide_125 rfl rfl ?_
      refine g_lmul dX4_decide_126 ?_
      refine g_aload_n 0 dX4_decide_127 rfl rfl ?_
      refine g_iload_n 1 dX4_decide_128 rfl rfl ?_
      refine g_iconst (v := (1 : Int32)) dX4_decide_129 (by decide) ?_
      refine g_iadd dX4_decide_130 ?_
      refine g_iload_n 2 dX4_decide_131 rfl rfl ?_
      refine g_iconst (v := (1 : Int32)) dX4_decide_132 (by decide) ?_
      refine g_iadd dX4_decide_133 ?_
      obtain ⟨v31, hc32, hf⟩ := obd_some hf
      refine g_callVl (ci := 4) (As := [.int (a1 + (1 : Int32)), .int (a2 + (1 : Int32))]) (rest := [.long (((Int32.toInt64 ((V_bars s) (Int32.toNatClampNeg (6 : Int32)))) * (v6 + v10)) * v2)]) (w2 := (wV cs ad s)) 0 dX4_decide_134 vX4_decide_52 (c_X4_leastAt ad hty hc32) rfl (mid0 _) rfl rfl 0 wlaV_0 rfl (Nat.le_of_ble_eq_true rfl) ⟨Nat.zero_le _, Nat.zero_le _⟩ (mid2 _ _) ?_
      refine g_ladd dX4_decide_137 ?_
      refine g_aload_n 0 dX4_decide_138 rfl rfl ?_
      refine g_iload_n 1 dX4_decide_139 rfl rfl ?_
      refine g_iconst (v := (1 : Int32)) dX4_decide_140 (by decide) ?_
      refine g_iadd dX4_decide_141 ?_
      refine g_iload_n 2 dX4_decide_142 rfl rfl ?_
      obtain ⟨v33, hc34, hf⟩ := obd_some hf
      refine g_callVl (ci := 4) (As := [.int (a1 + (1 : Int32)), .int a2]) (rest := [.long ((((Int32.toInt64 ((V_bars s) (Int32.toNatClampNeg (6 : Int32)))) * (v6 + v10)) * v2) + v31)]) (w2 := (wV cs ad s)) 0 dX4_decide_143 vX4_decide_52 (c_X4_leastAt ad hty hc34) rfl (mid0 _) rfl rfl 0 wlaV_0 rfl (Nat.le_of_ble_eq_true rfl) ⟨Nat.zero_le _, Nat.zero_le _⟩ (mid2 _ _) ?_
      refine g_ladd dX4_decide_146 ?_
      obtain ⟨z35, e_z35, hf⟩ := olt_some hf
      refine g_cast rfl rfl (congrArg (fun q => Value.long q :: []) e_z35) rfl ?_
      refine g_lstore (lv2 := [(14, .long z35), (0, .ref (ad 0)), (1, .int a1), (2, .int a2), (3, .long v2), (5, .long v6), (7, .long v10), (9, .int v17.1), (10, .long v17.2)]) dX4_decide_147 (by decide) rfl ?_
      refine g_lload 0 dX4_decide_149 rfl ?_
      refine g_lload 8 dX4_decide_151 rfl ?_
      refine g_lcmp dX4_decide_153 ?_
      refine g_if_ge (tgt := 164) dX4_decide_154 (by decide) (fun h36 => ?_) (fun h36 => ?_)
      · have hf := ift h36 hf
        obtain rfl := Option.some.inj hf
        exact g_sub [1, 2, 3, 7, 8] rfl J_v28
      · have hf := iff_ h36 hf
        refine g_iconst (v := (2 : Int32)) dX4_decide_157 (by decide) ?_
        refine g_istore (lv2 := [(9, .int (2 : Int32)), (14, .long z35), (0, .ref (ad 0)), (1, .int a1), (2, .int a2), (3, .long v2), (5, .long v6), (7, .long v10), (10, .long v17.2)]) dX4_decide_158 (by decide) rfl ?_
        refine g_lload 1 dX4_decide_160 rfl ?_
        refine g_lstore (lv2 := [(10, .long z35), (9, .int (2 : Int32)), (14, .long z35), (0, .ref (ad 0)), (1, .int a1), (2, .int a2), (3, .long v2), (5, .long v6), (7, .long v10)]) dX4_decide_162 (by decide) rfl ?_
        obtain rfl := Option.some.inj hf
        exact g_sub [3, 4, 5, 1, 0] rfl J_v28
  have hf := hE_v17
  refine g_if_ge (tgt := 100) dX4_decide_90 (by decide) (fun h18 => ?_) (fun h18 => ?_)
  · have hf := ift h18 hf
    obtain rfl := Option.some.inj hf
    exact g_sub [6, 7, 8, 5, 4, 3, 2, 1] rfl J_v17
  · have hf := iff_ h18 hf
    refine g_iconst (v := (1 : Int32)) dX4_decide_93 (by decide) ?_
    refine g_istore (lv2 := [(9, .int (1 : Int32)), (12, .long z15), (10, .long z13), (7, .long v10), (5, .long v6), (3, .long v2), (0, .ref (ad 0)), (1, .int a1), (2, .int a2)]) dX4_decide_94 (by decide) rfl ?_
    refine g_lload 1 dX4_decide_96 rfl ?_
    refine g_lstore (lv2 := [(10, .long z15), (9, .int (1 : Int32)), (12, .long z15), (7, .long v10), (5, .long v6), (3, .long v2), (0, .ref (ad 0)), (1, .int a1), (2, .int a2)]) dX4_decide_98 (by decide) rfl ?_
    obtain rfl := Option.some.inj hf
    exact g_sub [6, 7, 8, 5, 4, 3, 1, 0] rfl J_v17

-- ThumbScale$Verdict workBack ()V
def rmX4_workBack : Room := { frames := 3, cells := 0, slots := 0, locals := 83 }
def kX4_workBack : MK := (cX4_workBack, 3, RX4, wsX4_workBack, none, rmX4_workBack)

set_option maxRecDepth 20000 in
theorem jX4_workBack_11 : Cond.fieldLink RX4 11 (TX4 0).1 (TX4 0).2.1 (TX4 0).2.2.1 ∈ wsX4_workBack := by decide +kernel
set_option maxRecDepth 20000 in
theorem iX4_workBack_X4 : ∀ x ∈ u_ws RX4 TX4 3, x ∈ wsX4_workBack := by decide +kernel
set_option maxRecDepth 20000 in
theorem vX4_workBack_38 : KV kX4_workBack 38 RX4 yX4_decide wsX4_decide rmX4_decide 2 := ⟨_, _, _, _, gX4_workBack_X4_decide, rfl, rfl, rfl, by decide +kernel, ⟨by decide, by decide⟩⟩
def f_X4_workBack_L14 (F : Nat) (k8_ : Int32 → SV → Option SV) : Nat → Int32 → Int32 → SV → Option SV
  | 0, _, _, _ => none
  | n + 1, x6, x7, s8 =>
    (if x6 < x7 then
    k8_ (x6 + (-1)) s8
    else
    obd (f_X4_decide F s8 x6 x7) (fun v10 =>
    f_X4_workBack_L14 F k8_ n x6 (x7 + 1) v10))

def f_X4_workBack_L8 (F : Nat) : Nat → Int32 → SV → Option SV
  | 0, _, _ => none
  | n + 1, x3, s4 =>
    (if x3 < 0 then
    some s4
    else
    f_X4_workBack_L14 F (f_X4_workBack_L8 F n) F x3 (0 : Int32) s4)

def f_X4_workBack (F : Nat) (s : SV) : Option SV :=
    ochi (7 : Int32) 8 (
    olt ((V_bars s) (Int32.toNatClampNeg (7 : Int32))) (fun z2 =>
    f_X4_workBack_L8 F F z2 s))

set_option maxHeartbeats 4000000 in
set_option maxRecDepth 100000 in
theorem w_X4_workBack_L14 {E : GE} {cs : CS} {ad : Nat → Nat} {F : Nat} {k8_ : Int32 → SV → Option SV} {r : SV} (hty : eT E = tyA cs) {P : XP} (hN : eX E = XS P) (hr : Rv E kX4_workBack (wV cs ad r)) (K8_ : ∀ (x3 : Int32) (s4 : SV), k8_ x3 s4 = some r → G E kX4_workBack 0 0 8 [(0, .ref (ad 0)), (1, .int x3)] [] (wV cs ad s4)) : ∀ (n : Nat) (x6 : Int32) (x7 : Int32) (s8 : SV), f_X4_workBack_L14 F k8_ n x6 x7 s8 = some r → G E kX4_workBack 0 0 14 [(0, .ref (ad 0)), (1, .int x6), (2, .int x7)] [] (wV cs ad s8) := by
  intro n
  induction n with
  | zero =>
    intro x6 x7 s8 hf
    cases (show (none : Option SV) = some r from hf)
  | succ n ih =>
    intro x6 x7 s8 hf
    rw [f_X4_workBack_L14] at hf
    refine g_iload_n 2 dX4_workBack_14 rfl rfl ?_
    refine g_iload_n 1 dX4_workBack_15 rfl rfl ?_
    refine g_icmp_gt (tgt := 31) dX4_workBack_16 (by decide) (fun h9 => ?_) (fun h9 => ?_)
    · have hf := ift h9 hf
      refine g_iinc (lv2 := [(1, .int (x6 + (-1))), (0, .ref (ad 0)), (2, .int x7)]) 1 dX4_workBack_31 rfl (iim1 _) (by decide) rfl ?_
      refine g_goto (tgt := 8) dX4_workBack_34 (by decide) ?_
      exact g_sub [1, 0] rfl (K8_ (x6 + (-1)) s8 hf)
    · have hf := iff_ h9 hf
      refine g_aload_n 0 dX4_workBack_19 rfl rfl ?_
      refine g_iload_n 1 dX4_workBack_20 rfl rfl ?_
      refine g_iload_n 2 dX4_workBack_21 rfl rfl ?_
      obtain ⟨v10, hc11, hf⟩ := obd_some hf
      refine g_callVv (ci := 4) (As := [.int x6, .int x7]) (rest := []) (w2 := (wV cs ad v10)) 0 dX4_workBack_22 vX4_workBack_38 (c_X4_decide ad hty hN hc11) rfl (mid0 _) rfl rfl 0 wlaV_0 rfl (Nat.le_of_ble_eq_true rfl) ⟨Nat.zero_le _, Nat.zero_le _⟩ (mid2 _ _) ?_
      refine g_iinc (lv2 := [(2, .int (x7 + 1)), (0, .ref (ad 0)), (1, .int x6)]) 2 dX4_workBack_25 rfl (ii1 _) (by decide) rfl ?_
      refine g_goto (tgt := 14) dX4_workBack_28 (by decide) ?_
      exact g_sub [1, 2, 0] rfl (ih x6 (x7 + 1) v10 hf)

set_option maxHeartbeats 4000000 in
set_option maxRecDepth 100000 in
theorem w_X4_workBack_L8 {E : GE} {cs : CS} {ad : Nat → Nat} {F : Nat} {r : SV} (hty : eT E = tyA cs) {P : XP} (hN : eX E = XS P) (hr : Rv E kX4_workBack (wV cs ad r)) : ∀ (n : Nat) (x3 : Int32) (s4 : SV), f_X4_workBack_L8 F n x3 s4 = some r → G E kX4_workBack 0 0 8 [(0, .ref (ad 0)), (1, .int x3)] [] (wV cs ad s4) := by
  intro n
  induction n with
  | zero =>
    intro x3 s4 hf
    cases (show (none : Option SV) = some r from hf)
  | succ n ih =>
    intro x3 s4 hf
    rw [f_X4_workBack_L8] at hf
    refine g_iload_n 1 dX4_workBack_8 rfl rfl ?_
    refine g_if_lt (tgt := 37) dX4_workBack_9 (by decide) (fun h5 => ?_) (fun h5 => ?_)
    · have hf := ift h5 hf
      obtain rfl := Option.some.inj hf
      exact hr _ _ dX4_workBack_37
    · have hf := iff_ h5 hf
      refine g_iconst (v := (0 : Int32)) dX4_workBack_12 (by decide) ?_
      refine g_istore_n (lv2 := [(2, .int (0 : Int32)), (0, .ref (ad 0)), (1, .int x3)]) dX4_workBack_13 rfl (by decide) rfl ?_
      exact g_sub [1, 2, 0] rfl (w_X4_workBack_L14 hty hN hr ih F x3 (0 : Int32) s4 hf)

set_option maxHeartbeats 4000000 in
set_option maxRecDepth 100000 in
theorem c_X4_workBack {l : Launch} {D : va_G} {tys : List (ClassId × FieldType)} {X : XT} {cs : CS} (ad : Nat → Nat) {F : Nat} {s : SV} {r : SV} (htyM : tys = tyA cs) {P : XP} (hNX : X = XS P) (hf : f_X4_workBack F s = some r) : Cv l D tys X yX4_workBack wsX4_workBack rmX4_workBack [.ref (ad 0)] (wV cs ad s) (wV cs ad r) := by
  refine Cv_ofG (by decide +kernel) rfl (Nat.le_of_ble_eq_true rfl) (fun E _ _ hty0 hX0 hr => ?_)
  have hty := hty0.trans htyM
  have hN := hX0.trans hNX
  have hr : Rv E kX4_workBack (wV cs ad r) := hr
  show G E kX4_workBack 0 0 0 [(0, .ref (ad 0))] [] (wV cs ad s)
  unfold f_X4_workBack at hf
  refine g_aload_n 0 dX4_workBack_0 rfl rfl ?_
  refine g_get (ci := 4) (T := TX4) (N := 3) 0 0 (.ref (ad 1)) dX4_workBack_1 iX4_workBack_X4 rfl jX4_workBack_11 (by decide) wlaV_0 rfl ?_
  refine g_bipush (v := (7 : Int32)) dX4_workBack_4 (by decide) ?_
  obtain ⟨h1, hf⟩ := ochi_some hf
  refine g_iald 1 0 dX4_workBack_6 wlaV_1 (tI hty) h1 ?_
  obtain ⟨z2, e_z2, hf⟩ := olt_some hf
  refine g_cast rfl rfl (congrArg (fun q => Value.int q :: []) e_z2) rfl ?_
  refine g_istore_n (lv2 := [(1, .int z2), (0, .ref (ad 0))]) dX4_workBack_7 rfl (by decide) rfl ?_
  exact g_sub [1, 0] rfl (w_X4_workBack_L8 hty hN hr F z2 s hf)

-- ThumbScale$Verdict change (II)I
def rmX4_change : Room := { frames := 4, cells := 0, slots := 0, locals := 105 }
def kX4_change : MK := (cX4_change, 4, RX4, wsX4_change, (some .int), rmX4_change)

set_option maxRecDepth 20000 in
theorem jX4_change_11 : Cond.fieldLink RX4 11 (TX4 0).1 (TX4 0).2.1 (TX4 0).2.2.1 ∈ wsX4_change := by decide +kernel
set_option maxRecDepth 20000 in
theorem iX4_change_X4 : ∀ x ∈ u_ws RX4 TX4 3, x ∈ wsX4_change := by decide +kernel
set_option maxRecDepth 20000 in
theorem vX4_change_25 : KV kX4_change 25 RX4 yX4_workBack wsX4_workBack rmX4_workBack 0 := ⟨_, _, _, _, gX4_change_X4_workBack, rfl, rfl, rfl, by decide +kernel, ⟨by decide, by decide⟩⟩
def f_X4_change (F : Nat) (s : SV) (a1 : Int32) (a2 : Int32) : Option (Int32 × SV) :=
    ochi a1 8 (
    ochi a1 8 (olt (uV_bars s (upd (V_bars s) (Int32.toNatClampNeg a1) a2)) (fun s3 =>
    obd (f_X4_workBack F s3) (fun v4 =>
    some (((V_bars s) (Int32.toNatClampNeg a1)), v4)))))

set_option maxHeartbeats 4000000 in
set_option maxRecDepth 100000 in
theorem c_X4_change {l : Launch} {D : va_G} {tys : List (ClassId × FieldType)} {X : XT} {cs : CS} (ad : Nat → Nat) {F : Nat} {s : SV} {a1 : Int32} {a2 : Int32} {r : (Int32 × SV)} (htyM : tys = tyA cs) {P : XP} (hNX : X = XS P) (hf : f_X4_change F s a1 a2 = some r) : Ci l D tys X yX4_change wsX4_change rmX4_change [.ref (ad 0), .int a1, .int a2] (wV cs ad s) r.1 (wV cs ad r.2) := by
  refine Ci_ofG (by decide +kernel) rfl (Nat.le_of_ble_eq_true rfl) .int rfl (vp_nar_int _) (fun E _ _ hty0 hX0 hr => ?_)
  have hty := hty0.trans htyM
  have hN := hX0.trans hNX
  have hr : Ri E kX4_change r.1 (wV cs ad r.2) := hr
  show G E kX4_change 0 0 0 [(0, .ref (ad 0)), (1, .int a1), (2, .int a2)] [] (wV cs ad s)
  unfold f_X4_change at hf
  refine g_aload_n 0 dX4_change_0 rfl rfl ?_
  refine g_get (ci := 4) (T := TX4) (N := 3) 0 0 (.ref (ad 1)) dX4_change_1 iX4_change_X4 rfl jX4_change_11 (by decide) wlaV_0 rfl ?_
  refine g_iload_n 1 dX4_change_4 rfl rfl ?_
  obtain ⟨h1, hf⟩ := ochi_some hf
  refine g_iald 1 0 dX4_change_5 wlaV_1 (tI hty) h1 ?_
  refine g_istore_n (lv2 := [(3, .int ((V_bars s) (Int32.toNatClampNeg a1))), (0, .ref (ad 0)), (1, .int a1), (2, .int a2)]) dX4_change_6 rfl (by decide) rfl ?_
  refine g_aload_n 1 dX4_change_7 rfl rfl ?_
  refine g_get (ci := 4) (T := TX4) (N := 3) 0 0 (.ref (ad 1)) dX4_change_8 iX4_change_X4 rfl jX4_change_11 (by decide) wlaV_0 rfl ?_
  refine g_iload_n 2 dX4_change_11 rfl rfl ?_
  refine g_iload_n 3 dX4_change_12 rfl rfl ?_
  obtain ⟨h2, hf⟩ := ochi_some hf
  obtain ⟨s3, e_s3, hf⟩ := olt_some hf
  refine g_iast (w2 := (wV cs ad s3)) 1 0 dX4_change_13 wlaV_1 (tI hty) h2 (wlsV_1.trans (congrArg (wV cs ad) e_s3)) ?_
  refine g_aload_n 1 dX4_change_14 rfl rfl ?_
  obtain ⟨v4, hc5, hf⟩ := obd_some hf
  refine g_callVv (ci := 4) (As := []) (rest := []) (w2 := (wV cs ad v4)) 0 dX4_change_15 vX4_change_25 (c_X4_workBack ad hty hN hc5) rfl (mid0 _) rfl rfl 0 wlaV_0 rfl (Nat.le_of_ble_eq_true rfl) ⟨Nat.zero_le _, Nat.zero_le _⟩ (mid2 _ _) ?_
  refine g_iload_n 0 dX4_change_18 rfl rfl ?_
  obtain rfl := Option.some.inj hf
  exact hr _ _ dX4_change_19

-- ThumbScale$Verdict knows (II)Z
def rmX4_knows : Room := { frames := 0, cells := 0, slots := 0, locals := 0 }
def kX4_knows : MK := (cX4_knows, 3, RX4, wsX4_knows, (some .boolean), rmX4_knows)

set_option maxRecDepth 20000 in
theorem jX4_knows_11 : Cond.fieldLink RX4 11 (TX4 0).1 (TX4 0).2.1 (TX4 0).2.2.1 ∈ wsX4_knows := by decide +kernel
set_option maxRecDepth 20000 in
theorem iX4_knows_X4 : ∀ x ∈ u_ws RX4 TX4 3, x ∈ wsX4_knows := by decide +kernel
def f_X4_knows (F : Nat) (s : SV) (a1 : Int32) (a2 : Int32) : Option Int32 :=
    (if a1 < 0 then
    some (0 : Int32)
    else
    ochi (7 : Int32) 8 (
    (if ((V_bars s) (Int32.toNatClampNeg (7 : Int32))) < a1 then
    some (0 : Int32)
    else
    (if a2 < 0 then
    some (0 : Int32)
    else
    (if a1 < a2 then
    some (0 : Int32)
    else
    some (1 : Int32))))))

set_option maxHeartbeats 4000000 in
set_option maxRecDepth 100000 in
theorem c_X4_knows {l : Launch} {D : va_G} {tys : List (ClassId × FieldType)} {X : XT} {cs : CS} (ad : Nat → Nat) {F : Nat} {s : SV} {a1 : Int32} {a2 : Int32} {r : Int32} (htyM : tys = tyA cs) (hf : f_X4_knows F s a1 a2 = some r) : Ci l D tys X yX4_knows wsX4_knows rmX4_knows [.ref (ad 0), .int a1, .int a2] (wV cs ad s) r (wV cs ad s) := by
  refine Cz_ofG (by decide +kernel) rfl (Nat.le_of_ble_eq_true rfl) (fun E _ _ hty0 hX0 hr => ?_)
  have hty := hty0.trans htyM
  have hr : Rz E kX4_knows r (wV cs ad s) := hr
  show G E kX4_knows 0 0 0 [(0, .ref (ad 0)), (1, .int a1), (2, .int a2)] [] (wV cs ad s)
  unfold f_X4_knows at hf
  refine g_iload_n 1 dX4_knows_0 rfl rfl ?_
  refine g_if_lt (tgt := 28) dX4_knows_1 (by decide) (fun h1 => ?_) (fun h1 => ?_)
  · have hf := ift h1 hf
    refine g_iconst (v := (0 : Int32)) dX4_knows_28 (by decide) ?_
    obtain rfl := Option.some.inj hf
    exact hr _ _ dX4_knows_29 (Or.inl rfl)
  · have hf := iff_ h1 hf
    refine g_iload_n 1 dX4_knows_4 rfl rfl ?_
    refine g_aload_n 0 dX4_knows_5 rfl rfl ?_
    refine g_get (ci := 4) (T := TX4) (N := 3) 0 0 (.ref (ad 1)) dX4_knows_6 iX4_knows_X4 rfl jX4_knows_11 (by decide) wlaV_0 rfl ?_
    refine g_bipush (v := (7 : Int32)) dX4_knows_9 (by decide) ?_
    obtain ⟨h2, hf⟩ := ochi_some hf
    refine g_iald 1 0 dX4_knows_11 wlaV_1 (tI hty) h2 ?_
    refine g_icmp_gt (tgt := 28) dX4_knows_12 (by decide) (fun h3 => ?_) (fun h3 => ?_)
    · have hf := ift h3 hf
      refine g_iconst (v := (0 : Int32)) dX4_knows_28 (by decide) ?_
      obtain rfl := Option.some.inj hf
      exact hr _ _ dX4_knows_29 (Or.inl rfl)
    · have hf := iff_ h3 hf
      refine g_iload_n 2 dX4_knows_15 rfl rfl ?_
      refine g_if_lt (tgt := 28) dX4_knows_16 (by decide) (fun h4 => ?_) (fun h4 => ?_)
      · have hf := ift h4 hf
        refine g_iconst (v := (0 : Int32)) dX4_knows_28 (by decide) ?_
        obtain rfl := Option.some.inj hf
        exact hr _ _ dX4_knows_29 (Or.inl rfl)
      · have hf := iff_ h4 hf
        refine g_iload_n 2 dX4_knows_19 rfl rfl ?_
        refine g_iload_n 1 dX4_knows_20 rfl rfl ?_
        refine g_icmp_gt (tgt := 28) dX4_knows_21 (by decide) (fun h5 => ?_) (fun h5 => ?_)
        · have hf := ift h5 hf
          refine g_iconst (v := (0 : Int32)) dX4_knows_28 (by decide) ?_
          obtain rfl := Option.some.inj hf
          exact hr _ _ dX4_knows_29 (Or.inl rfl)
        · have hf := iff_ h5 hf
          refine g_iconst (v := (1 : Int32)) dX4_knows_24 (by decide) ?_
          refine g_goto (tgt := 29) dX4_knows_25 (by decide) ?_
          obtain rfl := Option.some.inj hf
          exact hr _ _ dX4_knows_29 (Or.inr rfl)

-- ThumbScale$Verdict choiceAt (II)I
def rmX4_choiceAt : Room := { frames := 0, cells := 0, slots := 0, locals := 0 }
def kX4_choiceAt : MK := (cX4_choiceAt, 3, RX4, wsX4_choiceAt, (some .int), rmX4_choiceAt)

set_option maxRecDepth 20000 in
theorem jX4_choiceAt_22 : Cond.fieldLink RX4 22 (TX4 2).1 (TX4 2).2.1 (TX4 2).2.2.1 ∈ wsX4_choiceAt := by decide +kernel
set_option maxRecDepth 20000 in
theorem iX4_choiceAt_X4 : ∀ x ∈ u_ws RX4 TX4 3, x ∈ wsX4_choiceAt := by decide +kernel
def f_X4_choiceAt (F : Nat) (s : SV) (a1 : Int32) (a2 : Int32) : Option Int32 :=
    ochi ((a1 * (9 : Int32)) + a2) 81 (
    some ((V_choice s) (Int32.toNatClampNeg ((a1 * (9 : Int32)) + a2))))

set_option maxHeartbeats 4000000 in
set_option maxRecDepth 100000 in
theorem c_X4_choiceAt {l : Launch} {D : va_G} {tys : List (ClassId × FieldType)} {X : XT} {cs : CS} (ad : Nat → Nat) {F : Nat} {s : SV} {a1 : Int32} {a2 : Int32} {r : Int32} (htyM : tys = tyA cs) (hf : f_X4_choiceAt F s a1 a2 = some r) : Ci l D tys X yX4_choiceAt wsX4_choiceAt rmX4_choiceAt [.ref (ad 0), .int a1, .int a2] (wV cs ad s) r (wV cs ad s) := by
  refine Ci_ofG (by decide +kernel) rfl (Nat.le_of_ble_eq_true rfl) .int rfl (vp_nar_int _) (fun E _ _ hty0 hX0 hr => ?_)
  have hty := hty0.trans htyM
  have hr : Ri E kX4_choiceAt r (wV cs ad s) := hr
  show G E kX4_choiceAt 0 0 0 [(0, .ref (ad 0)), (1, .int a1), (2, .int a2)] [] (wV cs ad s)
  unfold f_X4_choiceAt at hf
  refine g_aload_n 0 dX4_choiceAt_0 rfl rfl ?_
  refine g_get (ci := 4) (T := TX4) (N := 3) 0 2 (.ref (ad 3)) dX4_choiceAt_1 iX4_choiceAt_X4 rfl jX4_choiceAt_22 (by decide) wlaV_0 rfl ?_
  refine g_iload_n 1 dX4_choiceAt_4 rfl rfl ?_
  refine g_bipush (v := (9 : Int32)) dX4_choiceAt_5 (by decide) ?_
  refine g_imul dX4_choiceAt_7 ?_
  refine g_iload_n 2 dX4_choiceAt_8 rfl rfl ?_
  refine g_iadd dX4_choiceAt_9 ?_
  obtain ⟨h1, hf⟩ := ochi_some hf
  refine g_iald 3 0 dX4_choiceAt_10 wlaV_3 (tI hty) h1 ?_
  obtain rfl := Option.some.inj hf
  exact hr _ _ dX4_choiceAt_11

-- ThumbScale$Verdict lastToGoOn ()I
def rmX4_lastToGoOn : Room := { frames := 1, cells := 0, slots := 0, locals := 22 }
def kX4_lastToGoOn : MK := (cX4_lastToGoOn, 3, RX4, wsX4_lastToGoOn, (some .int), rmX4_lastToGoOn)

set_option maxRecDepth 20000 in
theorem jX4_lastToGoOn_11 : Cond.fieldLink RX4 11 (TX4 0).1 (TX4 0).2.1 (TX4 0).2.2.1 ∈ wsX4_lastToGoOn := by decide +kernel
set_option maxRecDepth 20000 in
theorem iX4_lastToGoOn_X4 : ∀ x ∈ u_ws RX4 TX4 3, x ∈ wsX4_lastToGoOn := by decide +kernel
set_option maxRecDepth 20000 in
theorem vX4_lastToGoOn_34 : KV kX4_lastToGoOn 34 RX4 yX4_choiceAt wsX4_choiceAt rmX4_choiceAt 2 := ⟨_, _, _, _, gX4_lastToGoOn_X4_choiceAt, rfl, rfl, rfl, by decide +kernel, ⟨by decide, by decide⟩⟩
def f_X4_lastToGoOn_L14 (F : Nat) (s : SV) (k8_ : Int32 → Option Int32) : Nat → Int32 → Int32 → Option Int32
  | 0, _, _ => none
  | n + 1, x5, x6 =>
    (if x5 < x6 then
    k8_ (x5 + (-1))
    else
    obd (f_X4_choiceAt F s x5 x6) (fun v8 =>
    (if v8 = (2 : Int32) then
    some x5
    else
    f_X4_lastToGoOn_L14 F s k8_ n x5 (x6 + 1))))

def f_X4_lastToGoOn_L8 (F : Nat) (s : SV) : Nat → Int32 → Option Int32
  | 0, _ => none
  | n + 1, x3 =>
    (if x3 < 0 then
    some (-9 : Int32)
    else
    f_X4_lastToGoOn_L14 F s (f_X4_lastToGoOn_L8 F s n) F x3 (0 : Int32))

def f_X4_lastToGoOn (F : Nat) (s : SV) : Option Int32 :=
    ochi (7 : Int32) 8 (
    olt ((V_bars s) (Int32.toNatClampNeg (7 : Int32))) (fun z2 =>
    f_X4_lastToGoOn_L8 F s F z2))

set_option maxHeartbeats 4000000 in
set_option maxRecDepth 100000 in
theorem w_X4_lastToGoOn_L14 {E : GE} {cs : CS} {ad : Nat → Nat} {F : Nat} {s : SV} {k8_ : Int32 → Option Int32} {r : Int32} (hty : eT E = tyA cs) (hr : Ri E kX4_lastToGoOn r (wV cs ad s)) (K8_ : ∀ (x3 : Int32), k8_ x3 = some r → G E kX4_lastToGoOn 0 0 8 [(0, .ref (ad 0)), (1, .int x3)] [] (wV cs ad s)) : ∀ (n : Nat) (x5 : Int32) (x6 : Int32), f_X4_lastToGoOn_L14 F s k8_ n x5 x6 = some r → G E kX4_lastToGoOn 0 0 14 [(0, .ref (ad 0)), (1, .int x5), (2, .int x6)] [] (wV cs ad s) := by
  intro n
  induction n with
  | zero =>
    intro x5 x6 hf
    cases (show (none : Option Int32) = some r from hf)
  | succ n ih =>
    intro x5 x6 hf
    rw [f_X4_lastToGoOn_L14] at hf
    refine g_iload_n 2 dX4_lastToGoOn_14 rfl rfl ?_
    refine g_iload_n 1 dX4_lastToGoOn_15 rfl rfl ?_
    refine g_icmp_gt (tgt := 37) dX4_lastToGoOn_16 (by decide) (fun h7 => ?_) (fun h7 => ?_)
    · have hf := ift h7 hf
      refine g_iinc (lv2 := [(1, .int (x5 + (-1))), (0, .ref (ad 0)), (2, .int x6)]) 1 dX4_lastToGoOn_37 rfl (iim1 _) (by decide) rfl ?_
      refine g_goto (tgt := 8) dX4_lastToGoOn_40 (by decide) ?_
      exact g_sub [1, 0] rfl (K8_ (x5 + (-1)) hf)
    · have hf := iff_ h7 hf
      refine g_aload_n 0 dX4_lastToGoOn_19 rfl rfl ?_
      refine g_iload_n 1 dX4_lastToGoOn_20 rfl rfl ?_
      refine g_iload_n 2 dX4_lastToGoOn_21 rfl rfl ?_
      obtain ⟨v8, hc9, hf⟩ := obd_some hf
      refine g_callVi (ci := 4) (As := [.int x5, .int x6]) (rest := []) (w2 := (wV cs ad s)) 0 dX4_lastToGoOn_22 vX4_lastToGoOn_34 (c_X4_choiceAt ad hty hc9) rfl (mid0 _) rfl rfl 0 wlaV_0 rfl (Nat.le_of_ble_eq_true rfl) ⟨Nat.zero_le _, Nat.zero_le _⟩ (mid2 _ _) ?_
      refine g_iconst (v := (2 : Int32)) dX4_lastToGoOn_25 (by decide) ?_
      refine g_icmp_ne (tgt := 31) dX4_lastToGoOn_26 (by decide) (fun h10 => ?_) (fun h10 => ?_)
      · have hf := iff_ h10 hf
        refine g_iinc (lv2 := [(2, .int (x6 + 1)), (0, .ref (ad 0)), (1, .int x5)]) 2 dX4_lastToGoOn_31 rfl (ii1 _) (by decide) rfl ?_
        refine g_goto (tgt := 14) dX4_lastToGoOn_34 (by decide) ?_
        exact g_sub [1, 2, 0] rfl (ih x5 (x6 + 1) hf)
      · have hf := ift h10 hf
        refine g_iload_n 1 dX4_lastToGoOn_29 rfl rfl ?_
        obtain rfl := Option.some.inj hf
        exact hr _ _ dX4_lastToGoOn_30

set_option maxHeartbeats 4000000 in
set_option maxRecDepth 100000 in
theorem w_X4_lastToGoOn_L8 {E : GE} {cs : CS} {ad : Nat → Nat} {F : Nat} {s : SV} {r : Int32} (hty : eT E = tyA cs) (hr : Ri E kX4_lastToGoOn r (wV cs ad s)) : ∀ (n : Nat) (x3 : Int32), f_X4_lastToGoOn_L8 F s n x3 = some r → G E kX4_lastToGoOn 0 0 8 [(0, .ref (ad 0)), (1, .int x3)] [] (wV cs ad s) := by
  intro n
  induction n with
  | zero =>
    intro x3 hf
    cases (show (none : Option Int32) = some r from hf)
  | succ n ih =>
    intro x3 hf
    rw [f_X4_lastToGoOn_L8] at hf
    refine g_iload_n 1 dX4_lastToGoOn_8 rfl rfl ?_
    refine g_if_lt (tgt := 43) dX4_lastToGoOn_9 (by decide) (fun h4 => ?_) (fun h4 => ?_)
    · have hf := ift h4 hf
      refine g_bipush (v := (-9 : Int32)) dX4_lastToGoOn_43 (by decide) ?_
      obtain rfl := Option.some.inj hf
      exact hr _ _ dX4_lastToGoOn_45
    · have hf := iff_ h4 hf
      refine g_iconst (v := (0 : Int32)) dX4_lastToGoOn_12 (by decide) ?_
      refine g_istore_n (lv2 := [(2, .int (0 : Int32)), (0, .ref (ad 0)), (1, .int x3)]) dX4_lastToGoOn_13 rfl (by decide) rfl ?_
      exact g_sub [1, 2, 0] rfl (w_X4_lastToGoOn_L14 hty hr ih F x3 (0 : Int32) hf)

set_option maxHeartbeats 4000000 in
set_option maxRecDepth 100000 in
theorem c_X4_lastToGoOn {l : Launch} {D : va_G} {tys : List (ClassId × FieldType)} {X : XT} {cs : CS} (ad : Nat → Nat) {F : Nat} {s : SV} {r : Int32} (htyM : tys = tyA cs) (hf : f_X4_lastToGoOn F s = some r) : Ci l D tys X yX4_lastToGoOn wsX4_lastToGoOn rmX4_lastToGoOn [.ref (ad 0)] (wV cs ad s) r (wV cs ad s) := by
  refine Ci_ofG (by decide +kernel) rfl (Nat.le_of_ble_eq_true rfl) .int rfl (vp_nar_int _) (fun E _ _ hty0 hX0 hr => ?_)
  have hty := hty0.trans htyM
  have hr : Ri E kX4_lastToGoOn r (wV cs ad s) := hr
  show G E kX4_lastToGoOn 0 0 0 [(0, .ref (ad 0))] [] (wV cs ad s)
  unfold f_X4_lastToGoOn at hf
  refine g_aload_n 0 dX4_lastToGoOn_0 rfl rfl ?_
  refine g_get (ci := 4) (T := TX4) (N := 3) 0 0 (.ref (ad 1)) dX4_lastToGoOn_1 iX4_lastToGoOn_X4 rfl jX4_lastToGoOn_11 (by decide) wlaV_0 rfl ?_
  refine g_bipush (v := (7 : Int32)) dX4_lastToGoOn_4 (by decide) ?_
  obtain ⟨h1, hf⟩ := ochi_some hf
  refine g_iald 1 0 dX4_lastToGoOn_6 wlaV_1 (tI hty) h1 ?_
  obtain ⟨z2, e_z2, hf⟩ := olt_some hf
  refine g_cast rfl rfl (congrArg (fun q => Value.int q :: []) e_z2) rfl ?_
  refine g_istore_n (lv2 := [(1, .int z2), (0, .ref (ad 0))]) dX4_lastToGoOn_7 rfl (by decide) rfl ?_
  exact g_sub [1, 0] rfl (w_X4_lastToGoOn_L8 hty hr F z2 hf)

-- ThumbScale$Verdict leastToAccuse (I)I
def rmX4_leastToAccuse : Room := { frames := 1, cells := 0, slots := 0, locals := 22 }
def kX4_leastToAccuse : MK := (cX4_leastToAccuse, 3, RX4, wsX4_leastToAccuse, (some .int), rmX4_leastToAccuse)

set_option maxRecDepth 20000 in
theorem vX4_leastToAccuse_34 : KV kX4_leastToAccuse 34 RX4 yX4_choiceAt wsX4_choiceAt rmX4_choiceAt 2 := ⟨_, _, _, _, gX4_leastToAccuse_X4_choiceAt, rfl, rfl, rfl, by decide +kernel, ⟨by decide, by decide⟩⟩
def f_X4_leastToAccuse_L2 (F : Nat) (s : SV) (a1 : Int32) : Nat → Int32 → Option Int32
  | 0, _ => none
  | n + 1, x1 =>
    (if a1 < x1 then
    some (-9 : Int32)
    else
    obd (f_X4_choiceAt F s a1 x1) (fun v3 =>
    (if v3 = 0 then
    some x1
    else
    f_X4_leastToAccuse_L2 F s a1 n (x1 + 1))))

def f_X4_leastToAccuse (F : Nat) (s : SV) (a1 : Int32) : Option Int32 :=
    f_X4_leastToAccuse_L2 F s a1 F (0 : Int32)

set_option maxHeartbeats 4000000 in
set_option maxRecDepth 100000 in
theorem w_X4_leastToAccuse_L2 {E : GE} {cs : CS} {ad : Nat → Nat} {F : Nat} {s : SV} {a1 : Int32} {r : Int32} (hty : eT E = tyA cs) (hr : Ri E kX4_leastToAccuse r (wV cs ad s)) : ∀ (n : Nat) (x1 : Int32), f_X4_leastToAccuse_L2 F s a1 n x1 = some r → G E kX4_leastToAccuse 0 0 2 [(0, .ref (ad 0)), (1, .int a1), (2, .int x1)] [] (wV cs ad s) := by
  intro n
  induction n with
  | zero =>
    intro x1 hf
    cases (show (none : Option Int32) = some r from hf)
  | succ n ih =>
    intro x1 hf
    rw [f_X4_leastToAccuse_L2] at hf
    refine g_iload_n 2 dX4_leastToAccuse_2 rfl rfl ?_
    refine g_iload_n 1 dX4_leastToAccuse_3 rfl rfl ?_
    refine g_icmp_gt (tgt := 24) dX4_leastToAccuse_4 (by decide) (fun h2 => ?_) (fun h2 => ?_)
    · have hf := ift h2 hf
      refine g_bipush (v := (-9 : Int32)) dX4_leastToAccuse_24 (by decide) ?_
      obtain rfl := Option.some.inj hf
      exact hr _ _ dX4_leastToAccuse_26
    · have hf := iff_ h2 hf
      refine g_aload_n 0 dX4_leastToAccuse_7 rfl rfl ?_
      refine g_iload_n 1 dX4_leastToAccuse_8 rfl rfl ?_
      refine g_iload_n 2 dX4_leastToAccuse_9 rfl rfl ?_
      obtain ⟨v3, hc4, hf⟩ := obd_some hf
      refine g_callVi (ci := 4) (As := [.int a1, .int x1]) (rest := []) (w2 := (wV cs ad s)) 0 dX4_leastToAccuse_10 vX4_leastToAccuse_34 (c_X4_choiceAt ad hty hc4) rfl (mid0 _) rfl rfl 0 wlaV_0 rfl (Nat.le_of_ble_eq_true rfl) ⟨Nat.zero_le _, Nat.zero_le _⟩ (mid2 _ _) ?_
      refine g_if_ne (tgt := 18) dX4_leastToAccuse_13 (by decide) (fun h5 => ?_) (fun h5 => ?_)
      · have hf := iff_ h5 hf
        refine g_iinc (lv2 := [(2, .int (x1 + 1)), (0, .ref (ad 0)), (1, .int a1)]) 2 dX4_leastToAccuse_18 rfl (ii1 _) (by decide) rfl ?_
        refine g_goto (tgt := 2) dX4_leastToAccuse_21 (by decide) ?_
        exact g_sub [1, 2, 0] rfl (ih (x1 + 1) hf)
      · have hf := ift h5 hf
        refine g_iload_n 2 dX4_leastToAccuse_16 rfl rfl ?_
        obtain rfl := Option.some.inj hf
        exact hr _ _ dX4_leastToAccuse_17

set_option maxHeartbeats 4000000 in
set_option maxRecDepth 100000 in
theorem c_X4_leastToAccuse {l : Launch} {D : va_G} {tys : List (ClassId × FieldType)} {X : XT} {cs : CS} (ad : Nat → Nat) {F : Nat} {s : SV} {a1 : Int32} {r : Int32} (htyM : tys = tyA cs) (hf : f_X4_leastToAccuse F s a1 = some r) : Ci l D tys X yX4_leastToAccuse wsX4_leastToAccuse rmX4_leastToAccuse [.ref (ad 0), .int a1] (wV cs ad s) r (wV cs ad s) := by
  refine Ci_ofG (by decide +kernel) rfl (Nat.le_of_ble_eq_true rfl) .int rfl (vp_nar_int _) (fun E _ _ hty0 hX0 hr => ?_)
  have hty := hty0.trans htyM
  have hr : Ri E kX4_leastToAccuse r (wV cs ad s) := hr
  show G E kX4_leastToAccuse 0 0 0 [(0, .ref (ad 0)), (1, .int a1)] [] (wV cs ad s)
  unfold f_X4_leastToAccuse at hf
  refine g_iconst (v := (0 : Int32)) dX4_leastToAccuse_0 (by decide) ?_
  refine g_istore_n (lv2 := [(2, .int (0 : Int32)), (0, .ref (ad 0)), (1, .int a1)]) dX4_leastToAccuse_1 rfl (by decide) rfl ?_
  exact g_sub [1, 2, 0] rfl (w_X4_leastToAccuse_L2 hty hr F (0 : Int32) hf)
