-- ThumbScale done (II)I
def rmX5_done : Room := { frames := 1, cells := 0, slots := 0, locals := 22 }
def kX5_done : MK := (cX5_done, 3, RX5, wsX5_done, (some .int), rmX5_done)

set_option maxRecDepth 20000 in
theorem jX5_done_64 : Cond.fieldLink RX5 64 (TX5 10).1 (TX5 10).2.1 (TX5 10).2.2.1 ∈ wsX5_done := by decide +kernel
set_option maxRecDepth 20000 in
theorem iX5_done_X5 : ∀ x ∈ u_ws RX5 TX5 16, x ∈ wsX5_done := by decide +kernel
set_option maxRecDepth 20000 in
theorem vX5_done_243 : KV kX5_done 243 RX4 yX4_knows wsX4_knows rmX4_knows 2 := ⟨_, _, _, _, gX5_done_X4_knows, rfl, rfl, rfl, by decide +kernel, ⟨by decide, by decide⟩⟩
set_option maxRecDepth 20000 in
theorem vX5_done_246 : KV kX5_done 246 RX4 yX4_choiceAt wsX4_choiceAt rmX4_choiceAt 2 := ⟨_, _, _, _, gX5_done_X4_choiceAt, rfl, rfl, rfl, by decide +kernel, ⟨by decide, by decide⟩⟩
def f_X5_done (F : Nat) (s : ST) (a1 : Int32) (a2 : Int32) : Option Int32 :=
    obd (f_X4_knows F (T_verdict s) a1 a2) (fun v1 =>
    (if v1 = 0 then
    some (-1 : Int32)
    else
    obd (f_X4_choiceAt F (T_verdict s) a1 a2) (fun v4 =>
    some v4)))

set_option maxHeartbeats 4000000 in
set_option maxRecDepth 100000 in
theorem c_X5_done {l : Launch} {D : va_G} {tys : List (ClassId × FieldType)} {X : XT} {cs : CS} (ad : Nat → Nat) {F : Nat} {s : ST} {a1 : Int32} {a2 : Int32} {r : Int32} (htyM : tys = tyA cs) (hf : f_X5_done F s a1 a2 = some r) : Ci l D tys X yX5_done wsX5_done rmX5_done [.ref (ad 0), .int a1, .int a2] (wT cs ad s) r (wT cs ad s) := by
  refine Ci_ofG (by decide +kernel) rfl (Nat.le_of_ble_eq_true rfl) .int rfl (vp_nar_int _) (fun E _ _ hty0 hX0 hr => ?_)
  have hty := hty0.trans htyM
  have hr : Ri E kX5_done r (wT cs ad s) := hr
  show G E kX5_done 0 0 0 [(0, .ref (ad 0)), (1, .int a1), (2, .int a2)] [] (wT cs ad s)
  unfold f_X5_done at hf
  refine g_aload_n 0 dX5_done_0 rfl rfl ?_
  refine g_get (ci := 5) (T := TX5) (N := 16) 0 10 (.ref (ad 54)) dX5_done_1 iX5_done_X5 rfl jX5_done_64 (by decide) wlaT_0 rfl ?_
  refine g_iload_n 1 dX5_done_4 rfl rfl ?_
  refine g_iload_n 2 dX5_done_5 rfl rfl ?_
  obtain ⟨v1, hc2, hf⟩ := obd_some hf
  refine g_callVi (ci := 4) (As := [.int a1, .int a2]) (rest := []) (w2 := (wT cs ad s)) 54 dX5_done_6 vX5_done_243 (c_X4_knows (fun k => ad (54 + k)) hty hc2) rfl wlhT_54 rfl rfl 0 wlaV_0 rfl (Nat.le_of_ble_eq_true rfl) ⟨Nat.zero_le _, Nat.zero_le _⟩ wlrT_54 ?_
  refine g_if_eq (tgt := 24) dX5_done_9 (by decide) (fun h3 => ?_) (fun h3 => ?_)
  · have hf := ift h3 hf
    refine g_iconst (v := (-1 : Int32)) dX5_done_24 (by decide) ?_
    obtain rfl := Option.some.inj hf
    exact hr _ _ dX5_done_25
  · have hf := iff_ h3 hf
    refine g_aload_n 0 dX5_done_12 rfl rfl ?_
    refine g_get (ci := 5) (T := TX5) (N := 16) 0 10 (.ref (ad 54)) dX5_done_13 iX5_done_X5 rfl jX5_done_64 (by decide) wlaT_0 rfl ?_
    refine g_iload_n 1 dX5_done_16 rfl rfl ?_
    refine g_iload_n 2 dX5_done_17 rfl rfl ?_
    obtain ⟨v4, hc5, hf⟩ := obd_some hf
    refine g_callVi (ci := 4) (As := [.int a1, .int a2]) (rest := []) (w2 := (wT cs ad s)) 54 dX5_done_18 vX5_done_246 (c_X4_choiceAt (fun k => ad (54 + k)) hty hc5) rfl wlhT_54 rfl rfl 0 wlaV_0 rfl (Nat.le_of_ble_eq_true rfl) ⟨Nat.zero_le _, Nat.zero_le _⟩ wlrT_54 ?_
    refine g_goto (tgt := 25) dX5_done_21 (by decide) ?_
    obtain rfl := Option.some.inj hf
    exact hr _ _ dX5_done_25

-- ThumbScale cost (II)J
def rmX5_cost : Room := { frames := 1, cells := 0, slots := 0, locals := 22 }
def kX5_cost : MK := (cX5_cost, 3, RX5, wsX5_cost, (some .long), rmX5_cost)

set_option maxRecDepth 20000 in
theorem jX5_cost_64 : Cond.fieldLink RX5 64 (TX5 10).1 (TX5 10).2.1 (TX5 10).2.2.1 ∈ wsX5_cost := by decide +kernel
set_option maxRecDepth 20000 in
theorem iX5_cost_X5 : ∀ x ∈ u_ws RX5 TX5 16, x ∈ wsX5_cost := by decide +kernel
set_option maxRecDepth 20000 in
theorem vX5_cost_243 : KV kX5_cost 243 RX4 yX4_knows wsX4_knows rmX4_knows 2 := ⟨_, _, _, _, gX5_cost_X4_knows, rfl, rfl, rfl, by decide +kernel, ⟨by decide, by decide⟩⟩
set_option maxRecDepth 20000 in
theorem qX5_cost_164 : Cond.constantLong RX5 164 (-1000000000000000000 : Int64) ∈ wsX5_cost := by decide +kernel
set_option maxRecDepth 20000 in
theorem vX5_cost_249 : KV kX5_cost 249 RX4 yX4_leastAt wsX4_leastAt rmX4_leastAt 2 := ⟨_, _, _, _, gX5_cost_X4_leastAt, rfl, rfl, rfl, by decide +kernel, ⟨by decide, by decide⟩⟩
def f_X5_cost (F : Nat) (s : ST) (a1 : Int32) (a2 : Int32) : Option Int64 :=
    obd (f_X4_knows F (T_verdict s) a1 a2) (fun v1 =>
    (if v1 = 0 then
    some (-1000000000000000000 : Int64)
    else
    obd (f_X4_leastAt F (T_verdict s) a1 a2) (fun v4 =>
    some v4)))

set_option maxHeartbeats 4000000 in
set_option maxRecDepth 100000 in
theorem c_X5_cost {l : Launch} {D : va_G} {tys : List (ClassId × FieldType)} {X : XT} {cs : CS} (ad : Nat → Nat) {F : Nat} {s : ST} {a1 : Int32} {a2 : Int32} {r : Int64} (htyM : tys = tyA cs) (hf : f_X5_cost F s a1 a2 = some r) : Cl l D tys X yX5_cost wsX5_cost rmX5_cost [.ref (ad 0), .int a1, .int a2] (wT cs ad s) r (wT cs ad s) := by
  refine Cl_ofG (by decide +kernel) rfl (Nat.le_of_ble_eq_true rfl) (fun E _ _ hty0 hX0 hr => ?_)
  have hty := hty0.trans htyM
  have hr : Rl E kX5_cost r (wT cs ad s) := hr
  show G E kX5_cost 0 0 0 [(0, .ref (ad 0)), (1, .int a1), (2, .int a2)] [] (wT cs ad s)
  unfold f_X5_cost at hf
  refine g_aload_n 0 dX5_cost_0 rfl rfl ?_
  refine g_get (ci := 5) (T := TX5) (N := 16) 0 10 (.ref (ad 54)) dX5_cost_1 iX5_cost_X5 rfl jX5_cost_64 (by decide) wlaT_0 rfl ?_
  refine g_iload_n 1 dX5_cost_4 rfl rfl ?_
  refine g_iload_n 2 dX5_cost_5 rfl rfl ?_
  obtain ⟨v1, hc2, hf⟩ := obd_some hf
  refine g_callVi (ci := 4) (As := [.int a1, .int a2]) (rest := []) (w2 := (wT cs ad s)) 54 dX5_cost_6 vX5_cost_243 (c_X4_knows (fun k => ad (54 + k)) hty hc2) rfl wlhT_54 rfl rfl 0 wlaV_0 rfl (Nat.le_of_ble_eq_true rfl) ⟨Nat.zero_le _, Nat.zero_le _⟩ wlrT_54 ?_
  refine g_if_eq (tgt := 24) dX5_cost_9 (by decide) (fun h3 => ?_) (fun h3 => ?_)
  · have hf := ift h3 hf
    refine g_ldc2 (v := (-1000000000000000000 : Int64)) dX5_cost_24 qX5_cost_164 ?_
    obtain rfl := Option.some.inj hf
    exact hr _ _ dX5_cost_27
  · have hf := iff_ h3 hf
    refine g_aload_n 0 dX5_cost_12 rfl rfl ?_
    refine g_get (ci := 5) (T := TX5) (N := 16) 0 10 (.ref (ad 54)) dX5_cost_13 iX5_cost_X5 rfl jX5_cost_64 (by decide) wlaT_0 rfl ?_
    refine g_iload_n 1 dX5_cost_16 rfl rfl ?_
    refine g_iload_n 2 dX5_cost_17 rfl rfl ?_
    obtain ⟨v4, hc5, hf⟩ := obd_some hf
    refine g_callVl (ci := 4) (As := [.int a1, .int a2]) (rest := []) (w2 := (wT cs ad s)) 54 dX5_cost_18 vX5_cost_249 (c_X4_leastAt (fun k => ad (54 + k)) hty hc5) rfl wlhT_54 rfl rfl 0 wlaV_0 rfl (Nat.le_of_ble_eq_true rfl) ⟨Nat.zero_le _, Nat.zero_le _⟩ wlrT_54 ?_
    refine g_goto (tgt := 27) dX5_cost_21 (by decide) ?_
    obtain rfl := Option.some.inj hf
    exact hr _ _ dX5_cost_27

-- ThumbScale enough (I)I
def rmX5_enough : Room := { frames := 2, cells := 0, slots := 0, locals := 44 }
def kX5_enough : MK := (cX5_enough, 2, RX5, wsX5_enough, (some .int), rmX5_enough)

set_option maxRecDepth 20000 in
theorem jX5_enough_64 : Cond.fieldLink RX5 64 (TX5 10).1 (TX5 10).2.1 (TX5 10).2.2.1 ∈ wsX5_enough := by decide +kernel
set_option maxRecDepth 20000 in
theorem iX5_enough_X5 : ∀ x ∈ u_ws RX5 TX5 16, x ∈ wsX5_enough := by decide +kernel
set_option maxRecDepth 20000 in
theorem vX5_enough_243 : KV kX5_enough 243 RX4 yX4_knows wsX4_knows rmX4_knows 2 := ⟨_, _, _, _, gX5_enough_X4_knows, rfl, rfl, rfl, by decide +kernel, ⟨by decide, by decide⟩⟩
set_option maxRecDepth 20000 in
theorem vX5_enough_256 : KV kX5_enough 256 RX4 yX4_leastToAccuse wsX4_leastToAccuse rmX4_leastToAccuse 1 := ⟨_, _, _, _, gX5_enough_X4_leastToAccuse, rfl, rfl, rfl, by decide +kernel, ⟨by decide, by decide⟩⟩
set_option maxRecDepth 20000 in
theorem vX5_enough_252 : KV kX5_enough 252 RX4 yX4_lastToGoOn wsX4_lastToGoOn rmX4_lastToGoOn 0 := ⟨_, _, _, _, gX5_enough_X4_lastToGoOn, rfl, rfl, rfl, by decide +kernel, ⟨by decide, by decide⟩⟩
def f_X5_enough (F : Nat) (s : ST) (a1 : Int32) : Option Int32 :=
    (if a1 = (-1 : Int32) then
    obd (f_X4_lastToGoOn F (T_verdict s)) (fun v7 =>
    some v7)
    else
    obd (f_X4_knows F (T_verdict s) a1 (0 : Int32)) (fun v2 =>
    (if v2 = 0 then
    some (-1 : Int32)
    else
    obd (f_X4_leastToAccuse F (T_verdict s) a1) (fun v5 =>
    some v5))))

set_option maxHeartbeats 4000000 in
set_option maxRecDepth 100000 in
theorem c_X5_enough {l : Launch} {D : va_G} {tys : List (ClassId × FieldType)} {X : XT} {cs : CS} (ad : Nat → Nat) {F : Nat} {s : ST} {a1 : Int32} {r : Int32} (htyM : tys = tyA cs) (hf : f_X5_enough F s a1 = some r) : Ci l D tys X yX5_enough wsX5_enough rmX5_enough [.ref (ad 0), .int a1] (wT cs ad s) r (wT cs ad s) := by
  refine Ci_ofG (by decide +kernel) rfl (Nat.le_of_ble_eq_true rfl) .int rfl (vp_nar_int _) (fun E _ _ hty0 hX0 hr => ?_)
  have hty := hty0.trans htyM
  have hr : Ri E kX5_enough r (wT cs ad s) := hr
  show G E kX5_enough 0 0 0 [(0, .ref (ad 0)), (1, .int a1)] [] (wT cs ad s)
  unfold f_X5_enough at hf
  refine g_iload_n 1 dX5_enough_0 rfl rfl ?_
  refine g_iconst (v := (-1 : Int32)) dX5_enough_1 (by decide) ?_
  refine g_icmp_ne (tgt := 13) dX5_enough_2 (by decide) (fun h1 => ?_) (fun h1 => ?_)
  · have hf := iff_ h1 hf
    refine g_aload_n 0 dX5_enough_13 rfl rfl ?_
    refine g_get (ci := 5) (T := TX5) (N := 16) 0 10 (.ref (ad 54)) dX5_enough_14 iX5_enough_X5 rfl jX5_enough_64 (by decide) wlaT_0 rfl ?_
    refine g_iload_n 1 dX5_enough_17 rfl rfl ?_
    refine g_iconst (v := (0 : Int32)) dX5_enough_18 (by decide) ?_
    obtain ⟨v2, hc3, hf⟩ := obd_some hf
    refine g_callVi (ci := 4) (As := [.int a1, .int (0 : Int32)]) (rest := []) (w2 := (wT cs ad s)) 54 dX5_enough_19 vX5_enough_243 (c_X4_knows (fun k => ad (54 + k)) hty hc3) rfl wlhT_54 rfl rfl 0 wlaV_0 rfl (Nat.le_of_ble_eq_true rfl) ⟨Nat.zero_le _, Nat.zero_le _⟩ wlrT_54 ?_
    refine g_if_eq (tgt := 36) dX5_enough_22 (by decide) (fun h4 => ?_) (fun h4 => ?_)
    · have hf := ift h4 hf
      refine g_iconst (v := (-1 : Int32)) dX5_enough_36 (by decide) ?_
      obtain rfl := Option.some.inj hf
      exact hr _ _ dX5_enough_37
    · have hf := iff_ h4 hf
      refine g_aload_n 0 dX5_enough_25 rfl rfl ?_
      refine g_get (ci := 5) (T := TX5) (N := 16) 0 10 (.ref (ad 54)) dX5_enough_26 iX5_enough_X5 rfl jX5_enough_64 (by decide) wlaT_0 rfl ?_
      refine g_iload_n 1 dX5_enough_29 rfl rfl ?_
      obtain ⟨v5, hc6, hf⟩ := obd_some hf
      refine g_callVi (ci := 4) (As := [.int a1]) (rest := []) (w2 := (wT cs ad s)) 54 dX5_enough_30 vX5_enough_256 (c_X4_leastToAccuse (fun k => ad (54 + k)) hty hc6) rfl wlhT_54 rfl rfl 0 wlaV_0 rfl (Nat.le_of_ble_eq_true rfl) ⟨Nat.zero_le _, Nat.zero_le _⟩ wlrT_54 ?_
      refine g_goto (tgt := 37) dX5_enough_33 (by decide) ?_
      obtain rfl := Option.some.inj hf
      exact hr _ _ dX5_enough_37
  · have hf := ift h1 hf
    refine g_aload_n 0 dX5_enough_5 rfl rfl ?_
    refine g_get (ci := 5) (T := TX5) (N := 16) 0 10 (.ref (ad 54)) dX5_enough_6 iX5_enough_X5 rfl jX5_enough_64 (by decide) wlaT_0 rfl ?_
    obtain ⟨v7, hc8, hf⟩ := obd_some hf
    refine g_callVi (ci := 4) (As := []) (rest := []) (w2 := (wT cs ad s)) 54 dX5_enough_9 vX5_enough_252 (c_X4_lastToGoOn (fun k => ad (54 + k)) hty hc8) rfl wlhT_54 rfl rfl 0 wlaV_0 rfl (Nat.le_of_ble_eq_true rfl) ⟨Nat.zero_le _, Nat.zero_le _⟩ wlrT_54 ?_
    obtain rfl := Option.some.inj hf
    exact hr _ _ dX5_enough_12

-- ThumbScale year (III)J
def rmX5_year : Room := { frames := 2, cells := 0, slots := 0, locals := 56 }
def kX5_year : MK := (cX5_year, 7, RX5, wsX5_year, (some .long), rmX5_year)

set_option maxRecDepth 20000 in
theorem vX5_year_95 : KV kX5_year 95 RX5 yX5_isStall wsX5_isStall rmX5_isStall 1 := ⟨_, _, _, _, gX5_year_X5_isStall, rfl, rfl, rfl, by decide +kernel, ⟨by decide, by decide⟩⟩
set_option maxRecDepth 20000 in
theorem qX5_year_164 : Cond.constantLong RX5 164 (-1000000000000000000 : Int64) ∈ wsX5_year := by decide +kernel
set_option maxRecDepth 20000 in
theorem vX5_year_77 : KS kX5_year 77 yX5_within wsX5_within rmX5_within 3 := ⟨_, _, _, _, gX5_year_X5_within, rfl, rfl, rfl, by decide +kernel, ⟨by decide, by decide⟩⟩
set_option maxRecDepth 20000 in
theorem vX5_year_213 : KS kX5_year 213 yX5_isPart wsX5_isPart rmX5_isPart 1 := ⟨_, _, _, _, gX5_year_X5_isPart, rfl, rfl, rfl, by decide +kernel, ⟨by decide, by decide⟩⟩
set_option maxRecDepth 20000 in
theorem jX5_year_38 : Cond.fieldLink RX5 38 (TX5 6).1 (TX5 6).2.1 (TX5 6).2.2.1 ∈ wsX5_year := by decide +kernel
set_option maxRecDepth 20000 in
theorem iX5_year_X5 : ∀ x ∈ u_ws RX5 TX5 16, x ∈ wsX5_year := by decide +kernel
set_option maxRecDepth 20000 in
theorem vX5_year_108 : KV kX5_year 108 RX0 yX0_bagsOf wsX0_bagsOf rmX0_bagsOf 2 := ⟨_, _, _, _, gX5_year_X0_bagsOf, rfl, rfl, rfl, by decide +kernel, ⟨by decide, by decide⟩⟩
set_option maxRecDepth 20000 in
theorem vX5_year_259 : KV kX5_year 259 RX0 yX0_shortsAboveNone wsX0_shortsAboveNone rmX0_shortsAboveNone 1 := ⟨_, _, _, _, gX5_year_X0_shortsAboveNone, rfl, rfl, rfl, by decide +kernel, ⟨by decide, by decide⟩⟩
set_option maxRecDepth 20000 in
theorem jX5_year_16 : Cond.fieldLink RX5 16 (TX5 3).1 (TX5 3).2.1 (TX5 3).2.2.1 ∈ wsX5_year := by decide +kernel
set_option maxRecDepth 20000 in
theorem jX5_year_105 : Cond.fieldLink RX5 105 (TX2 6).1 (TX2 6).2.1 (TX2 6).2.2.1 ∈ wsX5_year := by decide +kernel
set_option maxRecDepth 20000 in
theorem iX5_year_X2 : ∀ x ∈ u_ws RX2 TX2 12, x ∈ wsX5_year := by decide +kernel
set_option maxRecDepth 20000 in
theorem qX5_year_262 : Cond.constantLong RX5 262 (100 : Int64) ∈ wsX5_year := by decide +kernel
set_option maxRecDepth 20000 in
theorem vX5_year_222 : KS kX5_year 222 yX5_inLeastTerms wsX5_inLeastTerms rmX5_inLeastTerms 3 := ⟨_, _, _, _, gX5_year_X5_inLeastTerms, rfl, rfl, rfl, by decide +kernel, ⟨by decide, by decide⟩⟩
def f_X5_year (F : Nat) (s : ST) (a1 : Int32) (a2 : Int32) (a3 : Int32) : Option Int64 :=
    obd (f_X5_isStall F s a1) (fun v1 =>
    (if v1 = 0 then
    some (-1000000000000000000 : Int64)
    else
    obd (f_X5_within F a2 (0 : Int32) (9999 : Int32)) (fun v4 =>
    (if v4 = 0 then
    some (-1000000000000000000 : Int64)
    else
    obd (f_X5_isPart F a3) (fun v7 =>
    (if v7 = 0 then
    some (-1000000000000000000 : Int64)
    else
    obd (f_X0_bagsOf F (T_book s) a1 (15 : Int32)) (fun v10 =>
    (if v10 = 0 then
    some (-1000000000000000000 : Int64)
    else
    obd (f_X0_shortsAboveNone F (T_book s) a1) (fun v13 =>
    ochi a1 6 (
    olt (((Int32.toInt64 v13) * (Int32.toInt64 ((M_price (T_market s)) (Int32.toNatClampNeg a1)))) * (Int32.toInt64 a2)) (fun z16 =>
    obd (f_X5_inLeastTerms F z16 ((100 : Int64) * (Int32.toInt64 v10)) a3) (fun v17 =>
    some v17))))))))))))

set_option maxHeartbeats 4000000 in
set_option maxRecDepth 100000 in
theorem c_X5_year {l : Launch} {D : va_G} {tys : List (ClassId × FieldType)} {X : XT} {cs : CS} (ad : Nat → Nat) {F : Nat} {s : ST} {a1 : Int32} {a2 : Int32} {a3 : Int32} {r : Int64} (htyM : tys = tyA cs) (hf : f_X5_year F s a1 a2 a3 = some r) : Cl l D tys X yX5_year wsX5_year rmX5_year [.ref (ad 0), .int a1, .int a2, .int a3] (wT cs ad s) r (wT cs ad s) := by
  refine Cl_ofG (by decide +kernel) rfl (Nat.le_of_ble_eq_true rfl) (fun E _ _ hty0 hX0 hr => ?_)
  have hty := hty0.trans htyM
  have hr : Rl E kX5_year r (wT cs ad s) := hr
  show G E kX5_year 0 0 0 [(0, .ref (ad 0)), (1, .int a1), (2, .int a2), (3, .int a3)] [] (wT cs ad s)
  unfold f_X5_year at hf
  refine g_aload_n 0 dX5_year_0 rfl rfl ?_
  refine g_iload_n 1 dX5_year_1 rfl rfl ?_
  obtain ⟨v1, hc2, hf⟩ := obd_some hf
  refine g_callVi (ci := 5) (As := [.int a1]) (rest := []) (w2 := (wT cs ad s)) 0 dX5_year_2 vX5_year_95 (c_X5_isStall ad hty hc2) rfl (mid0 _) rfl rfl 0 wlaT_0 rfl (Nat.le_of_ble_eq_true rfl) ⟨Nat.zero_le _, Nat.zero_le _⟩ (mid2 _ _) ?_
  refine g_if_eq (tgt := 26) dX5_year_5 (by decide) (fun h3 => ?_) (fun h3 => ?_)
  · have hf := ift h3 hf
    refine g_ldc2 (v := (-1000000000000000000 : Int64)) dX5_year_26 qX5_year_164 ?_
    obtain rfl := Option.some.inj hf
    exact hr _ _ dX5_year_29
  · have hf := iff_ h3 hf
    refine g_iload_n 2 dX5_year_8 rfl rfl ?_
    refine g_iconst (v := (0 : Int32)) dX5_year_9 (by decide) ?_
    refine g_sipush (v := (9999 : Int32)) dX5_year_10 (by decide) ?_
    obtain ⟨v4, hc5, hf⟩ := obd_some hf
    refine g_callSi (As := [.int a2, .int (0 : Int32), .int (9999 : Int32)]) (rest := []) (w2 := (wT cs ad s)) 0 dX5_year_13 vX5_year_77 (c_X5_within hty hc5) rfl (midm _) rfl (Nat.le_of_ble_eq_true rfl) ⟨Nat.zero_le _, Nat.zero_le _⟩ (midn _) ?_
    refine g_if_eq (tgt := 26) dX5_year_16 (by decide) (fun h6 => ?_) (fun h6 => ?_)
    · have hf := ift h6 hf
      refine g_ldc2 (v := (-1000000000000000000 : Int64)) dX5_year_26 qX5_year_164 ?_
      obtain rfl := Option.some.inj hf
      exact hr _ _ dX5_year_29
    · have hf := iff_ h6 hf
      refine g_iload_n 3 dX5_year_19 rfl rfl ?_
      obtain ⟨v7, hc8, hf⟩ := obd_some hf
      refine g_callSi (As := [.int a3]) (rest := []) (w2 := (wT cs ad s)) 0 dX5_year_20 vX5_year_213 (c_X5_isPart hty hc8) rfl (midm _) rfl (Nat.le_of_ble_eq_true rfl) ⟨Nat.zero_le _, Nat.zero_le _⟩ (midn _) ?_
      refine g_if_ne (tgt := 30) dX5_year_23 (by decide) (fun h9 => ?_) (fun h9 => ?_)
      · have hf := iff_ h9 hf
        refine g_aload_n 0 dX5_year_30 rfl rfl ?_
        refine g_get (ci := 5) (T := TX5) (N := 16) 0 6 (.ref (ad 20)) dX5_year_31 iX5_year_X5 rfl jX5_year_38 (by decide) wlaT_0 rfl ?_
        refine g_iload_n 1 dX5_year_34 rfl rfl ?_
        refine g_bipush (v := (15 : Int32)) dX5_year_35 (by decide) ?_
        obtain ⟨v10, hc11, hf⟩ := obd_some hf
        refine g_callVi (ci := 0) (As := [.int a1, .int (15 : Int32)]) (rest := []) (w2 := (wT cs ad s)) 20 dX5_year_37 vX5_year_108 (c_X0_bagsOf (fun k => ad (20 + k)) hty hc11) rfl wlhT_20 rfl rfl 0 wlaB_0 rfl (Nat.le_of_ble_eq_true rfl) ⟨Nat.zero_le _, Nat.zero_le _⟩ wlrT_20 ?_
        refine g_istore (lv2 := [(4, .int v10), (0, .ref (ad 0)), (1, .int a1), (2, .int a2), (3, .int a3)]) dX5_year_40 (by decide) rfl ?_
        refine g_iload 0 dX5_year_42 rfl ?_
        refine g_if_ne (tgt := 51) dX5_year_44 (by decide) (fun h12 => ?_) (fun h12 => ?_)
        · have hf := iff_ h12 hf
          refine g_aload_n 1 dX5_year_51 rfl rfl ?_
          refine g_get (ci := 5) (T := TX5) (N := 16) 0 6 (.ref (ad 20)) dX5_year_52 iX5_year_X5 rfl jX5_year_38 (by decide) wlaT_0 rfl ?_
          refine g_iload_n 2 dX5_year_55 rfl rfl ?_
          obtain ⟨v13, hc14, hf⟩ := obd_some hf
          refine g_callVi (ci := 0) (As := [.int a1]) (rest := []) (w2 := (wT cs ad s)) 20 dX5_year_56 vX5_year_259 (c_X0_shortsAboveNone (fun k => ad (20 + k)) hty hc14) rfl wlhT_20 rfl rfl 0 wlaB_0 rfl (Nat.le_of_ble_eq_true rfl) ⟨Nat.zero_le _, Nat.zero_le _⟩ wlrT_20 ?_
          refine g_i2l dX5_year_59 ?_
          refine g_aload_n 1 dX5_year_60 rfl rfl ?_
          refine g_get (ci := 5) (T := TX5) (N := 16) 0 3 (.ref (ad 11)) dX5_year_61 iX5_year_X5 rfl jX5_year_16 (by decide) wlaT_0 rfl ?_
          refine g_get (ci := 2) (T := TX2) (N := 12) 11 6 (.ref (ad 14)) dX5_year_64 iX5_year_X2 rfl jX5_year_105 (by decide) wlaT_11 rfl ?_
          refine g_iload_n 2 dX5_year_67 rfl rfl ?_
          obtain ⟨h15, hf⟩ := ochi_some hf
          refine g_iald 14 0 dX5_year_68 wlaT_14 (tI hty) h15 ?_
          refine g_i2l dX5_year_69 ?_
          refine g_lmul dX5_year_70 ?_
          refine g_iload_n 3 dX5_year_71 rfl rfl ?_
          refine g_i2l dX5_year_72 ?_
          refine g_lmul dX5_year_73 ?_
          obtain ⟨z16, e_z16, hf⟩ := olt_some hf
          refine g_cast rfl rfl (congrArg (fun q => Value.long q :: []) e_z16) rfl ?_
          refine g_lstore (lv2 := [(5, .long z16), (4, .int v10), (0, .ref (ad 0)), (1, .int a1), (2, .int a2), (3, .int a3)]) dX5_year_74 (by decide) rfl ?_
          refine g_lload 0 dX5_year_76 rfl ?_
          refine g_ldc2 (v := (100 : Int64)) dX5_year_78 qX5_year_262 ?_
          refine g_iload 1 dX5_year_81 rfl ?_
          refine g_i2l dX5_year_83 ?_
          refine g_lmul dX5_year_84 ?_
          refine g_iload_n 5 dX5_year_85 rfl rfl ?_
          obtain ⟨v17, hc18, hf⟩ := obd_some hf
          refine g_callSl (As := [.long z16, .long ((100 : Int64) * (Int32.toInt64 v10)), .int a3]) (rest := []) (w2 := (wT cs ad s)) 0 dX5_year_86 vX5_year_222 (c_X5_inLeastTerms hty hc18) rfl (midm _) rfl (Nat.le_of_ble_eq_true rfl) ⟨Nat.zero_le _, Nat.zero_le _⟩ (midn _) ?_
          obtain rfl := Option.some.inj hf
          exact hr _ _ dX5_year_89
        · have hf := ift h12 hf
          refine g_ldc2 (v := (-1000000000000000000 : Int64)) dX5_year_47 qX5_year_164 ?_
          obtain rfl := Option.some.inj hf
          exact hr _ _ dX5_year_50
      · have hf := ift h9 hf
        refine g_ldc2 (v := (-1000000000000000000 : Int64)) dX5_year_26 qX5_year_164 ?_
        obtain rfl := Option.some.inj hf
        exact hr _ _ dX5_year_29

-- ThumbScale truly (II)J
def rmX5_truly : Room := { frames := 3, cells := 0, slots := 0, locals := 68 }
def kX5_truly : MK := (cX5_truly, 3, RX5, wsX5_truly, (some .long), rmX5_truly)

set_option maxRecDepth 20000 in
theorem vX5_truly_95 : KV kX5_truly 95 RX5 yX5_isStall wsX5_isStall rmX5_isStall 1 := ⟨_, _, _, _, gX5_truly_X5_isStall, rfl, rfl, rfl, by decide +kernel, ⟨by decide, by decide⟩⟩
set_option maxRecDepth 20000 in
theorem qX5_truly_164 : Cond.constantLong RX5 164 (-1000000000000000000 : Int64) ∈ wsX5_truly := by decide +kernel
set_option maxRecDepth 20000 in
theorem vX5_truly_213 : KS kX5_truly 213 yX5_isPart wsX5_isPart rmX5_isPart 1 := ⟨_, _, _, _, gX5_truly_X5_isPart, rfl, rfl, rfl, by decide +kernel, ⟨by decide, by decide⟩⟩
set_option maxRecDepth 20000 in
theorem vX5_truly_264 : KV kX5_truly 264 RX5 yX5_trulyGiven wsX5_trulyGiven rmX5_trulyGiven 1 := ⟨_, _, _, _, gX5_truly_X5_trulyGiven, rfl, rfl, rfl, by decide +kernel, ⟨by decide, by decide⟩⟩
set_option maxRecDepth 20000 in
theorem vX5_truly_267 : KV kX5_truly 267 RX5 yX5_paidFor wsX5_paidFor rmX5_paidFor 1 := ⟨_, _, _, _, gX5_truly_X5_paidFor, rfl, rfl, rfl, by decide +kernel, ⟨by decide, by decide⟩⟩
set_option maxRecDepth 20000 in
theorem vX5_truly_222 : KS kX5_truly 222 yX5_inLeastTerms wsX5_inLeastTerms rmX5_inLeastTerms 3 := ⟨_, _, _, _, gX5_truly_X5_inLeastTerms, rfl, rfl, rfl, by decide +kernel, ⟨by decide, by decide⟩⟩
def f_X5_truly (F : Nat) (s : ST) (a1 : Int32) (a2 : Int32) : Option Int64 :=
    obd (f_X5_isStall F s a1) (fun v1 =>
    (if v1 = 0 then
    some (-1000000000000000000 : Int64)
    else
    obd (f_X5_isPart F a2) (fun v4 =>
    (if v4 = 0 then
    some (-1000000000000000000 : Int64)
    else
    obd (f_X5_trulyGiven F s a1) (fun v7 =>
    (if 0 < (lg_cmp v7 (0 : Int64)) then
    obd (f_X5_paidFor F s a1) (fun v10 =>
    obd (f_X5_trulyGiven F s a1) (fun v12 =>
    obd (f_X5_inLeastTerms F v10 v12 a2) (fun v14 =>
    some v14)))
    else
    some (-1000000000000000000 : Int64)))))))

set_option maxHeartbeats 4000000 in
set_option maxRecDepth 100000 in
theorem c_X5_truly {l : Launch} {D : va_G} {tys : List (ClassId × FieldType)} {X : XT} {cs : CS} (ad : Nat → Nat) {F : Nat} {s : ST} {a1 : Int32} {a2 : Int32} {r : Int64} (htyM : tys = tyA cs) (hf : f_X5_truly F s a1 a2 = some r) : Cl l D tys X yX5_truly wsX5_truly rmX5_truly [.ref (ad 0), .int a1, .int a2] (wT cs ad s) r (wT cs ad s) := by
  refine Cl_ofG (by decide +kernel) rfl (Nat.le_of_ble_eq_true rfl) (fun E _ _ hty0 hX0 hr => ?_)
  have hty := hty0.trans htyM
  have hr : Rl E kX5_truly r (wT cs ad s) := hr
  show G E kX5_truly 0 0 0 [(0, .ref (ad 0)), (1, .int a1), (2, .int a2)] [] (wT cs ad s)
  unfold f_X5_truly at hf
  refine g_aload_n 0 dX5_truly_0 rfl rfl ?_
  refine g_iload_n 1 dX5_truly_1 rfl rfl ?_
  obtain ⟨v1, hc2, hf⟩ := obd_some hf
  refine g_callVi (ci := 5) (As := [.int a1]) (rest := []) (w2 := (wT cs ad s)) 0 dX5_truly_2 vX5_truly_95 (c_X5_isStall ad hty hc2) rfl (mid0 _) rfl rfl 0 wlaT_0 rfl (Nat.le_of_ble_eq_true rfl) ⟨Nat.zero_le _, Nat.zero_le _⟩ (mid2 _ _) ?_
  refine g_if_eq (tgt := 25) dX5_truly_5 (by decide) (fun h3 => ?_) (fun h3 => ?_)
  · have hf := ift h3 hf
    refine g_ldc2 (v := (-1000000000000000000 : Int64)) dX5_truly_25 qX5_truly_164 ?_
    obtain rfl := Option.some.inj hf
    exact hr _ _ dX5_truly_28
  · have hf := iff_ h3 hf
    refine g_iload_n 2 dX5_truly_8 rfl rfl ?_
    obtain ⟨v4, hc5, hf⟩ := obd_some hf
    refine g_callSi (As := [.int a2]) (rest := []) (w2 := (wT cs ad s)) 0 dX5_truly_9 vX5_truly_213 (c_X5_isPart hty hc5) rfl (midm _) rfl (Nat.le_of_ble_eq_true rfl) ⟨Nat.zero_le _, Nat.zero_le _⟩ (midn _) ?_
    refine g_if_eq (tgt := 25) dX5_truly_12 (by decide) (fun h6 => ?_) (fun h6 => ?_)
    · have hf := ift h6 hf
      refine g_ldc2 (v := (-1000000000000000000 : Int64)) dX5_truly_25 qX5_truly_164 ?_
      obtain rfl := Option.some.inj hf
      exact hr _ _ dX5_truly_28
    · have hf := iff_ h6 hf
      refine g_aload_n 0 dX5_truly_15 rfl rfl ?_
      refine g_iload_n 1 dX5_truly_16 rfl rfl ?_
      obtain ⟨v7, hc8, hf⟩ := obd_some hf
      refine g_callVl (ci := 5) (As := [.int a1]) (rest := []) (w2 := (wT cs ad s)) 0 dX5_truly_17 vX5_truly_264 (c_X5_trulyGiven ad hty hc8) rfl (mid0 _) rfl rfl 0 wlaT_0 rfl (Nat.le_of_ble_eq_true rfl) ⟨Nat.zero_le _, Nat.zero_le _⟩ (mid2 _ _) ?_
      refine g_lconst (v := (0 : Int64)) dX5_truly_20 (by decide) ?_
      refine g_lcmp dX5_truly_21 ?_
      refine g_if_gt (tgt := 29) dX5_truly_22 (by decide) (fun h9 => ?_) (fun h9 => ?_)
      · have hf := ift h9 hf
        refine g_aload_n 0 dX5_truly_29 rfl rfl ?_
        refine g_iload_n 1 dX5_truly_30 rfl rfl ?_
        obtain ⟨v10, hc11, hf⟩ := obd_some hf
        refine g_callVl (ci := 5) (As := [.int a1]) (rest := []) (w2 := (wT cs ad s)) 0 dX5_truly_31 vX5_truly_267 (c_X5_paidFor ad hty hc11) rfl (mid0 _) rfl rfl 0 wlaT_0 rfl (Nat.le_of_ble_eq_true rfl) ⟨Nat.zero_le _, Nat.zero_le _⟩ (mid2 _ _) ?_
        refine g_aload_n 0 dX5_truly_34 rfl rfl ?_
        refine g_iload_n 1 dX5_truly_35 rfl rfl ?_
        obtain ⟨v12, hc13, hf⟩ := obd_some hf
        refine g_callVl (ci := 5) (As := [.int a1]) (rest := [.long v10]) (w2 := (wT cs ad s)) 0 dX5_truly_36 vX5_truly_264 (c_X5_trulyGiven ad hty hc13) rfl (mid0 _) rfl rfl 0 wlaT_0 rfl (Nat.le_of_ble_eq_true rfl) ⟨Nat.zero_le _, Nat.zero_le _⟩ (mid2 _ _) ?_
        refine g_iload_n 2 dX5_truly_39 rfl rfl ?_
        obtain ⟨v14, hc15, hf⟩ := obd_some hf
        refine g_callSl (As := [.long v10, .long v12, .int a2]) (rest := []) (w2 := (wT cs ad s)) 0 dX5_truly_40 vX5_truly_222 (c_X5_inLeastTerms hty hc15) rfl (midm _) rfl (Nat.le_of_ble_eq_true rfl) ⟨Nat.zero_le _, Nat.zero_le _⟩ (midn _) ?_
        obtain rfl := Option.some.inj hf
        exact hr _ _ dX5_truly_43
      · have hf := iff_ h9 hf
        refine g_ldc2 (v := (-1000000000000000000 : Int64)) dX5_truly_25 qX5_truly_164 ?_
        obtain rfl := Option.some.inj hf
        exact hr _ _ dX5_truly_28

-- ThumbScale cheap ()I
def rmX5_cheap : Room := { frames := 3, cells := 0, slots := 0, locals := 68 }
def kX5_cheap : MK := (cX5_cheap, 11, RX5, wsX5_cheap, (some .int), rmX5_cheap)

set_option maxRecDepth 20000 in
theorem jX5_cheap_16 : Cond.fieldLink RX5 16 (TX5 3).1 (TX5 3).2.1 (TX5 3).2.2.1 ∈ wsX5_cheap := by decide +kernel
set_option maxRecDepth 20000 in
theorem iX5_cheap_X5 : ∀ x ∈ u_ws RX5 TX5 16, x ∈ wsX5_cheap := by decide +kernel
set_option maxRecDepth 20000 in
theorem jX5_cheap_270 : Cond.fieldLink RX5 270 (TX2 3).1 (TX2 3).2.1 (TX2 3).2.2.1 ∈ wsX5_cheap := by decide +kernel
set_option maxRecDepth 20000 in
theorem iX5_cheap_X2 : ∀ x ∈ u_ws RX2 TX2 12, x ∈ wsX5_cheap := by decide +kernel
set_option maxRecDepth 20000 in
theorem vX5_cheap_267 : KV kX5_cheap 267 RX5 yX5_paidFor wsX5_paidFor rmX5_paidFor 1 := ⟨_, _, _, _, gX5_cheap_X5_paidFor, rfl, rfl, rfl, by decide +kernel, ⟨by decide, by decide⟩⟩
set_option maxRecDepth 20000 in
theorem vX5_cheap_264 : KV kX5_cheap 264 RX5 yX5_trulyGiven wsX5_trulyGiven rmX5_trulyGiven 1 := ⟨_, _, _, _, gX5_cheap_X5_trulyGiven, rfl, rfl, rfl, by decide +kernel, ⟨by decide, by decide⟩⟩
def f_X5_cheap_L11 (F : Nat) (s : ST) : Nat → Int32 → Int64 → Int64 → Int32 → Option Int32
  | 0, _, _, _, _ => none
  | n + 1, x1, x2, x3, x4 =>
    (if (M_stalls (T_market s)) ≤ x4 then
    some x1
    else
    obd (f_X5_paidFor F s x4) (fun v6 =>
    obd (f_X5_trulyGiven F s x4) (fun v8 =>
    (if (lg_cmp v8 (0 : Int64)) ≤ 0 then
    f_X5_cheap_L11 F s n x1 x2 x3 (x4 + 1)
    else
    olt (fun (x11 : Int32) =>
    f_X5_cheap_L11 F s n x11 v6 v8 (x11 + 1)) (fun k12 =>
    (if x1 = (-9 : Int32) then
    k12 x4
    else
    (if 0 ≤ (lg_cmp (v6 * x3) (x2 * v8)) then
    f_X5_cheap_L11 F s n x1 x2 x3 (x4 + 1)
    else
    k12 x4)))))))

def f_X5_cheap (F : Nat) (s : ST) : Option Int32 :=
    f_X5_cheap_L11 F s F (-9 : Int32) (0 : Int64) (1 : Int64) (0 : Int32)

set_option maxHeartbeats 4000000 in
set_option maxRecDepth 100000 in
theorem w_X5_cheap_L11 {E : GE} {cs : CS} {ad : Nat → Nat} {F : Nat} {s : ST} {r : Int32} (hty : eT E = tyA cs) (hr : Ri E kX5_cheap r (wT cs ad s)) : ∀ (n : Nat) (x1 : Int32) (x2 : Int64) (x3 : Int64) (x4 : Int32), f_X5_cheap_L11 F s n x1 x2 x3 x4 = some r → G E kX5_cheap 0 0 11 [(0, .ref (ad 0)), (1, .int x1), (2, .long x2), (4, .long x3), (6, .int x4)] [] (wT cs ad s) := by
  intro n
  induction n with
  | zero =>
    intro x1 x2 x3 x4 hf
    cases (show (none : Option Int32) = some r from hf)
  | succ n ih =>
    intro x1 x2 x3 x4 hf
    rw [f_X5_cheap_L11] at hf
    refine g_iload 4 dX5_cheap_11 rfl ?_
    refine g_aload_n 0 dX5_cheap_13 rfl rfl ?_
    refine g_get (ci := 5) (T := TX5) (N := 16) 0 3 (.ref (ad 11)) dX5_cheap_14 iX5_cheap_X5 rfl jX5_cheap_16 (by decide) wlaT_0 rfl ?_
    refine g_get (ci := 2) (T := TX2) (N := 12) 11 3 (.int (M_stalls (T_market s))) dX5_cheap_17 iX5_cheap_X2 rfl jX5_cheap_270 (by decide) wlaT_11 rfl ?_
    refine g_icmp_ge (tgt := 81) dX5_cheap_20 (by decide) (fun h5 => ?_) (fun h5 => ?_)
    · have hf := ift h5 hf
      refine g_iload_n 1 dX5_cheap_81 rfl rfl ?_
      obtain rfl := Option.some.inj hf
      exact hr _ _ dX5_cheap_82
    · have hf := iff_ h5 hf
      refine g_aload_n 0 dX5_cheap_23 rfl rfl ?_
      refine g_iload 4 dX5_cheap_24 rfl ?_
      obtain ⟨v6, hc7, hf⟩ := obd_some hf
      refine g_callVl (ci := 5) (As := [.int x4]) (rest := []) (w2 := (wT cs ad s)) 0 dX5_cheap_26 vX5_cheap_267 (c_X5_paidFor ad hty hc7) rfl (mid0 _) rfl rfl 0 wlaT_0 rfl (Nat.le_of_ble_eq_true rfl) ⟨Nat.zero_le _, Nat.zero_le _⟩ (mid2 _ _) ?_
      refine g_lstore (lv2 := [(7, .long v6), (0, .ref (ad 0)), (1, .int x1), (2, .long x2), (4, .long x3), (6, .int x4)]) dX5_cheap_29 (by decide) rfl ?_
      refine g_aload_n 1 dX5_cheap_31 rfl rfl ?_
      refine g_iload 5 dX5_cheap_32 rfl ?_
      obtain ⟨v8, hc9, hf⟩ := obd_some hf
      refine g_callVl (ci := 5) (As := [.int x4]) (rest := []) (w2 := (wT cs ad s)) 0 dX5_cheap_34 vX5_cheap_264 (c_X5_trulyGiven ad hty hc9) rfl (mid0 _) rfl rfl 0 wlaT_0 rfl (Nat.le_of_ble_eq_true rfl) ⟨Nat.zero_le _, Nat.zero_le _⟩ (mid2 _ _) ?_
      refine g_lstore (lv2 := [(9, .long v8), (7, .long v6), (0, .ref (ad 0)), (1, .int x1), (2, .long x2), (4, .long x3), (6, .int x4)]) dX5_cheap_37 (by decide) rfl ?_
      refine g_lload 0 dX5_cheap_39 rfl ?_
      refine g_lconst (v := (0 : Int64)) dX5_cheap_41 (by decide) ?_
      refine g_lcmp dX5_cheap_42 ?_
      refine g_if_le (tgt := 75) dX5_cheap_43 (by decide) (fun h10 => ?_) (fun h10 => ?_)
      · have hf := ift h10 hf
        refine g_iinc (lv2 := [(6, .int (x4 + 1)), (9, .long v8), (7, .long v6), (0, .ref (ad 0)), (1, .int x1), (2, .long x2), (4, .long x3)]) 6 dX5_cheap_75 rfl (ii1 _) (by decide) rfl ?_
        refine g_goto (tgt := 11) dX5_cheap_78 (by decide) ?_
        exact g_sub [3, 4, 5, 6, 0] rfl (ih x1 x2 x3 (x4 + 1) hf)
      · have hf := iff_ h10 hf
        refine g_iload_n 3 dX5_cheap_46 rfl rfl ?_
        refine g_bipush (v := (-9 : Int32)) dX5_cheap_47 (by decide) ?_
        obtain ⟨k12, e_k12, hf⟩ := olt_some hf
        have K_k12 : ∀ (x11 : Int32), k12 x11 = some r → G E kX5_cheap 0 0 65 [(0, .ref (ad 0)), (6, .int x11), (7, .long v6), (9, .long v8)] [] (wT cs ad s) := by
          intro x11 hf
          rw [← e_k12] at hf
          refine g_iload 1 dX5_cheap_65 rfl ?_
          refine g_istore_n (lv2 := [(1, .int x11), (0, .ref (ad 0)), (6, .int x11), (7, .long v6), (9, .long v8)]) dX5_cheap_67 rfl (by decide) rfl ?_
          refine g_lload 3 dX5_cheap_68 rfl ?_
          refine g_lstore_n (lv2 := [(2, .long v6), (1, .int x11), (0, .ref (ad 0)), (6, .int x11), (7, .long v6), (9, .long v8)]) dX5_cheap_70 rfl (by decide) rfl ?_
          refine g_lload 5 dX5_cheap_71 rfl ?_
          refine g_lstore (lv2 := [(4, .long v8), (2, .long v6), (1, .int x11), (0, .ref (ad 0)), (6, .int x11), (7, .long v6), (9, .long v8)]) dX5_cheap_73 (by decide) rfl ?_
          refine g_iinc (lv2 := [(6, .int (x11 + 1)), (4, .long v8), (2, .long v6), (1, .int x11), (0, .ref (ad 0)), (7, .long v6), (9, .long v8)]) 4 dX5_cheap_75 rfl (ii1 _) (by decide) rfl ?_
          refine g_goto (tgt := 11) dX5_cheap_78 (by decide) ?_
          exact g_sub [4, 3, 2, 1, 0] rfl (ih x11 v6 v8 (x11 + 1) hf)
        refine g_icmp_eq (tgt := 65) dX5_cheap_49 (by decide) (fun h13 => ?_) (fun h13 => ?_)
        · have hf := ift h13 hf
          exact g_sub [2, 6, 1, 0] rfl (K_k12 x4 hf)
        · have hf := iff_ h13 hf
          refine g_lload 1 dX5_cheap_52 rfl ?_
          refine g_lload 5 dX5_cheap_54 rfl ?_
          refine g_lmul dX5_cheap_56 ?_
          refine g_lload_n 4 dX5_cheap_57 rfl rfl ?_
          refine g_lload 0 dX5_cheap_58 rfl ?_
          refine g_lmul dX5_cheap_60 ?_
          refine g_lcmp dX5_cheap_61 ?_
          refine g_if_ge (tgt := 75) dX5_cheap_62 (by decide) (fun h14 => ?_) (fun h14 => ?_)
          · have hf := ift h14 hf
            refine g_iinc (lv2 := [(6, .int (x4 + 1)), (9, .long v8), (7, .long v6), (0, .ref (ad 0)), (1, .int x1), (2, .long x2), (4, .long x3)]) 6 dX5_cheap_75 rfl (ii1 _) (by decide) rfl ?_
            refine g_goto (tgt := 11) dX5_cheap_78 (by decide) ?_
            exact g_sub [3, 4, 5, 6, 0] rfl (ih x1 x2 x3 (x4 + 1) hf)
          · have hf := iff_ h14 hf
            exact g_sub [2, 6, 1, 0] rfl (K_k12 x4 hf)

set_option maxHeartbeats 4000000 in
set_option maxRecDepth 100000 in
theorem c_X5_cheap {l : Launch} {D : va_G} {tys : List (ClassId × FieldType)} {X : XT} {cs : CS} (ad : Nat → Nat) {F : Nat} {s : ST} {r : Int32} (htyM : tys = tyA cs) (hf : f_X5_cheap F s = some r) : Ci l D tys X yX5_cheap wsX5_cheap rmX5_cheap [.ref (ad 0)] (wT cs ad s) r (wT cs ad s) := by
  refine Ci_ofG (by decide +kernel) rfl (Nat.le_of_ble_eq_true rfl) .int rfl (vp_nar_int _) (fun E _ _ hty0 hX0 hr => ?_)
  have hty := hty0.trans htyM
  have hr : Ri E kX5_cheap r (wT cs ad s) := hr
  show G E kX5_cheap 0 0 0 [(0, .ref (ad 0))] [] (wT cs ad s)
  unfold f_X5_cheap at hf
  refine g_bipush (v := (-9 : Int32)) dX5_cheap_0 (by decide) ?_
  refine g_istore_n (lv2 := [(1, .int (-9 : Int32)), (0, .ref (ad 0))]) dX5_cheap_2 rfl (by decide) rfl ?_
  refine g_lconst (v := (0 : Int64)) dX5_cheap_3 (by decide) ?_
  refine g_lstore_n (lv2 := [(2, .long (0 : Int64)), (1, .int (-9 : Int32)), (0, .ref (ad 0))]) dX5_cheap_4 rfl (by decide) rfl ?_
  refine g_lconst (v := (1 : Int64)) dX5_cheap_5 (by decide) ?_
  refine g_lstore (lv2 := [(4, .long (1 : Int64)), (2, .long (0 : Int64)), (1, .int (-9 : Int32)), (0, .ref (ad 0))]) dX5_cheap_6 (by decide) rfl ?_
  refine g_iconst (v := (0 : Int32)) dX5_cheap_8 (by decide) ?_
  refine g_istore (lv2 := [(6, .int (0 : Int32)), (4, .long (1 : Int64)), (2, .long (0 : Int64)), (1, .int (-9 : Int32)), (0, .ref (ad 0))]) dX5_cheap_9 (by decide) rfl ?_
  exact g_sub [4, 3, 2, 1, 0] rfl (w_X5_cheap_L11 hty hr F (-9 : Int32) (0 : Int64) (1 : Int64) (0 : Int32) hf)

-- ThumbScale favoured (I)I
def rmX5_favoured : Room := { frames := 2, cells := 0, slots := 0, locals := 47 }
def kX5_favoured : MK := (cX5_favoured, 12, RX5, wsX5_favoured, (some .int), rmX5_favoured)

set_option maxRecDepth 20000 in
theorem vX5_favoured_95 : KV kX5_favoured 95 RX5 yX5_isStall wsX5_isStall rmX5_isStall 1 := ⟨_, _, _, _, gX5_favoured_X5_isStall, rfl, rfl, rfl, by decide +kernel, ⟨by decide, by decide⟩⟩
set_option maxRecDepth 20000 in
theorem jX5_favoured_38 : Cond.fieldLink RX5 38 (TX5 6).1 (TX5 6).2.1 (TX5 6).2.2.1 ∈ wsX5_favoured := by decide +kernel
set_option maxRecDepth 20000 in
theorem iX5_favoured_X5 : ∀ x ∈ u_ws RX5 TX5 16, x ∈ wsX5_favoured := by decide +kernel
set_option maxRecDepth 20000 in
theorem vX5_favoured_108 : KV kX5_favoured 108 RX0 yX0_bagsOf wsX0_bagsOf rmX0_bagsOf 2 := ⟨_, _, _, _, gX5_favoured_X0_bagsOf, rfl, rfl, rfl, by decide +kernel, ⟨by decide, by decide⟩⟩
set_option maxRecDepth 20000 in
theorem vX5_favoured_273 : KV kX5_favoured 273 RX0 yX0_shortsOf wsX0_shortsOf rmX0_shortsOf 2 := ⟨_, _, _, _, gX5_favoured_X0_shortsOf, rfl, rfl, rfl, by decide +kernel, ⟨by decide, by decide⟩⟩
def f_X5_favoured_L21 (F : Nat) (s : ST) (a1 : Int32) : Nat → Int32 → Int64 → Int64 → Int32 → Option Int32
  | 0, _, _, _, _ => none
  | n + 1, x4, x5, x6, x7 =>
    (if (4 : Int32) ≤ x7 then
    some x4
    else
    obd (f_X0_bagsOf F (T_book s) a1 ((1 : Int32) <<< (x7 &&& 31))) (fun v9 =>
    obd (f_X0_shortsOf F (T_book s) a1 ((1 : Int32) <<< (x7 &&& 31))) (fun v11 =>
    (if (lg_cmp (Int32.toInt64 v9) (0 : Int64)) ≤ 0 then
    f_X5_favoured_L21 F s a1 n x4 x5 x6 (x7 + 1)
    else
    olt (fun (x14 : Int32) =>
    f_X5_favoured_L21 F s a1 n x14 (Int32.toInt64 v11) (Int32.toInt64 v9) (x14 + 1)) (fun k15 =>
    (if x4 = (-9 : Int32) then
    k15 x7
    else
    (if 0 ≤ (lg_cmp ((Int32.toInt64 v11) * x6) (x5 * (Int32.toInt64 v9))) then
    f_X5_favoured_L21 F s a1 n x4 x5 x6 (x7 + 1)
    else
    k15 x7)))))))

def f_X5_favoured (F : Nat) (s : ST) (a1 : Int32) : Option Int32 :=
    obd (f_X5_isStall F s a1) (fun v1 =>
    (if v1 = 0 then
    some (-1 : Int32)
    else
    f_X5_favoured_L21 F s a1 F (-9 : Int32) (0 : Int64) (1 : Int64) (0 : Int32)))

set_option maxHeartbeats 4000000 in
set_option maxRecDepth 100000 in
theorem w_X5_favoured_L21 {E : GE} {cs : CS} {ad : Nat → Nat} {F : Nat} {s : ST} {a1 : Int32} {r : Int32} (hty : eT E = tyA cs) (hr : Ri E kX5_favoured r (wT cs ad s)) : ∀ (n : Nat) (x4 : Int32) (x5 : Int64) (x6 : Int64) (x7 : Int32), f_X5_favoured_L21 F s a1 n x4 x5 x6 x7 = some r → G E kX5_favoured 0 0 21 [(0, .ref (ad 0)), (1, .int a1), (2, .int x4), (3, .long x5), (5, .long x6), (7, .int x7)] [] (wT cs ad s) := by
  intro n
  induction n with
  | zero =>
    intro x4 x5 x6 x7 hf
    cases (show (none : Option Int32) = some r from hf)
  | succ n ih =>
    intro x4 x5 x6 x7 hf
    rw [f_X5_favoured_L21] at hf
    refine g_iload 5 dX5_favoured_21 rfl ?_
    refine g_iconst (v := (4 : Int32)) dX5_favoured_23 (by decide) ?_
    refine g_icmp_ge (tgt := 99) dX5_favoured_24 (by decide) (fun h8 => ?_) (fun h8 => ?_)
    · have hf := ift h8 hf
      refine g_iload_n 2 dX5_favoured_99 rfl rfl ?_
      obtain rfl := Option.some.inj hf
      exact hr _ _ dX5_favoured_100
    · have hf := iff_ h8 hf
      refine g_aload_n 0 dX5_favoured_27 rfl rfl ?_
      refine g_get (ci := 5) (T := TX5) (N := 16) 0 6 (.ref (ad 20)) dX5_favoured_28 iX5_favoured_X5 rfl jX5_favoured_38 (by decide) wlaT_0 rfl ?_
      refine g_iload_n 1 dX5_favoured_31 rfl rfl ?_
      refine g_iconst (v := (1 : Int32)) dX5_favoured_32 (by decide) ?_
      refine g_iload 5 dX5_favoured_33 rfl ?_
      refine g_ishl dX5_favoured_35 ?_
      obtain ⟨v9, hc10, hf⟩ := obd_some hf
      refine g_callVi (ci := 0) (As := [.int a1, .int ((1 : Int32) <<< (x7 &&& 31))]) (rest := []) (w2 := (wT cs ad s)) 20 dX5_favoured_36 vX5_favoured_108 (c_X0_bagsOf (fun k => ad (20 + k)) hty hc10) rfl wlhT_20 rfl rfl 0 wlaB_0 rfl (Nat.le_of_ble_eq_true rfl) ⟨Nat.zero_le _, Nat.zero_le _⟩ wlrT_20 ?_
      refine g_i2l dX5_favoured_39 ?_
      refine g_lstore (lv2 := [(8, .long (Int32.toInt64 v9)), (0, .ref (ad 0)), (1, .int a1), (2, .int x4), (3, .long x5), (5, .long x6), (7, .int x7)]) dX5_favoured_40 (by decide) rfl ?_
      refine g_aload_n 1 dX5_favoured_42 rfl rfl ?_
      refine g_get (ci := 5) (T := TX5) (N := 16) 0 6 (.ref (ad 20)) dX5_favoured_43 iX5_favoured_X5 rfl jX5_favoured_38 (by decide) wlaT_0 rfl ?_
      refine g_iload_n 2 dX5_favoured_46 rfl rfl ?_
      refine g_iconst (v := (1 : Int32)) dX5_favoured_47 (by decide) ?_
      refine g_iload 6 dX5_favoured_48 rfl ?_
      refine g_ishl dX5_favoured_50 ?_
      obtain ⟨v11, hc12, hf⟩ := obd_some hf
      refine g_callVi (ci := 0) (As := [.int a1, .int ((1 : Int32) <<< (x7 &&& 31))]) (rest := []) (w2 := (wT cs ad s)) 20 dX5_favoured_51 vX5_favoured_273 (c_X0_shortsOf (fun k => ad (20 + k)) hty hc12) rfl wlhT_20 rfl rfl 0 wlaB_0 rfl (Nat.le_of_ble_eq_true rfl) ⟨Nat.zero_le _, Nat.zero_le _⟩ wlrT_20 ?_
      refine g_i2l dX5_favoured_54 ?_
      refine g_lstore (lv2 := [(10, .long (Int32.toInt64 v11)), (8, .long (Int32.toInt64 v9)), (0, .ref (ad 0)), (1, .int a1), (2, .int x4), (3, .long x5), (5, .long x6), (7, .int x7)]) dX5_favoured_55 (by decide) rfl ?_
      refine g_lload 1 dX5_favoured_57 rfl ?_
      refine g_lconst (v := (0 : Int64)) dX5_favoured_59 (by decide) ?_
      refine g_lcmp dX5_favoured_60 ?_
      refine g_if_le (tgt := 93) dX5_favoured_61 (by decide) (fun h13 => ?_) (fun h13 => ?_)
      · have hf := ift h13 hf
        refine g_iinc (lv2 := [(7, .int (x7 + 1)), (10, .long (Int32.toInt64 v11)), (8, .long (Int32.toInt64 v9)), (0, .ref (ad 0)), (1, .int a1), (2, .int x4), (3, .long x5), (5, .long x6)]) 7 dX5_favoured_93 rfl (ii1 _) (by decide) rfl ?_
        refine g_goto (tgt := 21) dX5_favoured_96 (by decide) ?_
        exact g_sub [3, 4, 5, 6, 7, 0] rfl (ih x4 x5 x6 (x7 + 1) hf)
      · have hf := iff_ h13 hf
        refine g_iload_n 4 dX5_favoured_64 rfl rfl ?_
        refine g_bipush (v := (-9 : Int32)) dX5_favoured_65 (by decide) ?_
        obtain ⟨k15, e_k15, hf⟩ := olt_some hf
        have K_k15 : ∀ (x14 : Int32), k15 x14 = some r → G E kX5_favoured 0 0 83 [(0, .ref (ad 0)), (1, .int a1), (7, .int x14), (8, .long (Int32.toInt64 v9)), (10, .long (Int32.toInt64 v11))] [] (wT cs ad s) := by
          intro x14 hf
          rw [← e_k15] at hf
          refine g_iload 2 dX5_favoured_83 rfl ?_
          refine g_istore_n (lv2 := [(2, .int x14), (0, .ref (ad 0)), (1, .int a1), (7, .int x14), (8, .long (Int32.toInt64 v9)), (10, .long (Int32.toInt64 v11))]) dX5_favoured_85 rfl (by decide) rfl ?_
          refine g_lload 5 dX5_favoured_86 rfl ?_
          refine g_lstore_n (lv2 := [(3, .long (Int32.toInt64 v11)), (2, .int x14), (0, .ref (ad 0)), (1, .int a1), (7, .int x14), (8, .long (Int32.toInt64 v9)), (10, .long (Int32.toInt64 v11))]) dX5_favoured_88 rfl (by decide) rfl ?_
          refine g_lload 5 dX5_favoured_89 rfl ?_
          refine g_lstore (lv2 := [(5, .long (Int32.toInt64 v9)), (3, .long (Int32.toInt64 v11)), (2, .int x14), (0, .ref (ad 0)), (1, .int a1), (7, .int x14), (8, .long (Int32.toInt64 v9)), (10, .long (Int32.toInt64 v11))]) dX5_favoured_91 (by decide) rfl ?_
          refine g_iinc (lv2 := [(7, .int (x14 + 1)), (5, .long (Int32.toInt64 v9)), (3, .long (Int32.toInt64 v11)), (2, .int x14), (0, .ref (ad 0)), (1, .int a1), (8, .long (Int32.toInt64 v9)), (10, .long (Int32.toInt64 v11))]) 5 dX5_favoured_93 rfl (ii1 _) (by decide) rfl ?_
          refine g_goto (tgt := 21) dX5_favoured_96 (by decide) ?_
          exact g_sub [4, 5, 3, 2, 1, 0] rfl (ih x14 (Int32.toInt64 v11) (Int32.toInt64 v9) (x14 + 1) hf)
        refine g_icmp_eq (tgt := 83) dX5_favoured_67 (by decide) (fun h16 => ?_) (fun h16 => ?_)
        · have hf := ift h16 hf
          exact g_sub [2, 3, 7, 1, 0] rfl (K_k15 x7 hf)
        · have hf := iff_ h16 hf
          refine g_lload 0 dX5_favoured_70 rfl ?_
          refine g_lload 6 dX5_favoured_72 rfl ?_
          refine g_lmul dX5_favoured_74 ?_
          refine g_lload_n 5 dX5_favoured_75 rfl rfl ?_
          refine g_lload 1 dX5_favoured_76 rfl ?_
          refine g_lmul dX5_favoured_78 ?_
          refine g_lcmp dX5_favoured_79 ?_
          refine g_if_ge (tgt := 93) dX5_favoured_80 (by decide) (fun h17 => ?_) (fun h17 => ?_)
          · have hf := ift h17 hf
            refine g_iinc (lv2 := [(7, .int (x7 + 1)), (10, .long (Int32.toInt64 v11)), (8, .long (Int32.toInt64 v9)), (0, .ref (ad 0)), (1, .int a1), (2, .int x4), (3, .long x5), (5, .long x6)]) 7 dX5_favoured_93 rfl (ii1 _) (by decide) rfl ?_
            refine g_goto (tgt := 21) dX5_favoured_96 (by decide) ?_
            exact g_sub [3, 4, 5, 6, 7, 0] rfl (ih x4 x5 x6 (x7 + 1) hf)
          · have hf := iff_ h17 hf
            exact g_sub [2, 3, 7, 1, 0] rfl (K_k15 x7 hf)

set_option maxHeartbeats 4000000 in
set_option maxRecDepth 100000 in
theorem c_X5_favoured {l : Launch} {D : va_G} {tys : List (ClassId × FieldType)} {X : XT} {cs : CS} (ad : Nat → Nat) {F : Nat} {s : ST} {a1 : Int32} {r : Int32} (htyM : tys = tyA cs) (hf : f_X5_favoured F s a1 = some r) : Ci l D tys X yX5_favoured wsX5_favoured rmX5_favoured [.ref (ad 0), .int a1] (wT cs ad s) r (wT cs ad s) := by
  refine Ci_ofG (by decide +kernel) rfl (Nat.le_of_ble_eq_true rfl) .int rfl (vp_nar_int _) (fun E _ _ hty0 hX0 hr => ?_)
  have hty := hty0.trans htyM
  have hr : Ri E kX5_favoured r (wT cs ad s) := hr
  show G E kX5_favoured 0 0 0 [(0, .ref (ad 0)), (1, .int a1)] [] (wT cs ad s)
  unfold f_X5_favoured at hf
  refine g_aload_n 0 dX5_favoured_0 rfl rfl ?_
  refine g_iload_n 1 dX5_favoured_1 rfl rfl ?_
  obtain ⟨v1, hc2, hf⟩ := obd_some hf
  refine g_callVi (ci := 5) (As := [.int a1]) (rest := []) (w2 := (wT cs ad s)) 0 dX5_favoured_2 vX5_favoured_95 (c_X5_isStall ad hty hc2) rfl (mid0 _) rfl rfl 0 wlaT_0 rfl (Nat.le_of_ble_eq_true rfl) ⟨Nat.zero_le _, Nat.zero_le _⟩ (mid2 _ _) ?_
  refine g_if_ne (tgt := 10) dX5_favoured_5 (by decide) (fun h3 => ?_) (fun h3 => ?_)
  · have hf := iff_ h3 hf
    refine g_bipush (v := (-9 : Int32)) dX5_favoured_10 (by decide) ?_
    refine g_istore_n (lv2 := [(2, .int (-9 : Int32)), (0, .ref (ad 0)), (1, .int a1)]) dX5_favoured_12 rfl (by decide) rfl ?_
    refine g_lconst (v := (0 : Int64)) dX5_favoured_13 (by decide) ?_
    refine g_lstore_n (lv2 := [(3, .long (0 : Int64)), (2, .int (-9 : Int32)), (0, .ref (ad 0)), (1, .int a1)]) dX5_favoured_14 rfl (by decide) rfl ?_
    refine g_lconst (v := (1 : Int64)) dX5_favoured_15 (by decide) ?_
    refine g_lstore (lv2 := [(5, .long (1 : Int64)), (3, .long (0 : Int64)), (2, .int (-9 : Int32)), (0, .ref (ad 0)), (1, .int a1)]) dX5_favoured_16 (by decide) rfl ?_
    refine g_iconst (v := (0 : Int32)) dX5_favoured_18 (by decide) ?_
    refine g_istore (lv2 := [(7, .int (0 : Int32)), (5, .long (1 : Int64)), (3, .long (0 : Int64)), (2, .int (-9 : Int32)), (0, .ref (ad 0)), (1, .int a1)]) dX5_favoured_19 (by decide) rfl ?_
    exact g_sub [4, 5, 3, 2, 1, 0] rfl (w_X5_favoured_L21 hty hr F (-9 : Int32) (0 : Int64) (1 : Int64) (0 : Int32) hf)
  · have hf := ift h3 hf
    refine g_iconst (v := (-1 : Int32)) dX5_favoured_8 (by decide) ?_
    obtain rfl := Option.some.inj hf
    exact hr _ _ dX5_favoured_9

-- ThumbScale even (II)J
def rmX5_even : Room := { frames := 2, cells := 0, slots := 0, locals := 50 }
def kX5_even : MK := (cX5_even, 5, RX5, wsX5_even, (some .long), rmX5_even)

set_option maxRecDepth 20000 in
theorem vX5_even_95 : KV kX5_even 95 RX5 yX5_isStall wsX5_isStall rmX5_isStall 1 := ⟨_, _, _, _, gX5_even_X5_isStall, rfl, rfl, rfl, by decide +kernel, ⟨by decide, by decide⟩⟩
set_option maxRecDepth 20000 in
theorem qX5_even_177 : Cond.constantLong RX5 177 (-1 : Int64) ∈ wsX5_even := by decide +kernel
set_option maxRecDepth 20000 in
theorem vX5_even_77 : KS kX5_even 77 yX5_within wsX5_within rmX5_within 3 := ⟨_, _, _, _, gX5_even_X5_within, rfl, rfl, rfl, by decide +kernel, ⟨by decide, by decide⟩⟩
set_option maxRecDepth 20000 in
theorem jX5_even_38 : Cond.fieldLink RX5 38 (TX5 6).1 (TX5 6).2.1 (TX5 6).2.2.1 ∈ wsX5_even := by decide +kernel
set_option maxRecDepth 20000 in
theorem iX5_even_X5 : ∀ x ∈ u_ws RX5 TX5 16, x ∈ wsX5_even := by decide +kernel
set_option maxRecDepth 20000 in
theorem vX5_even_108 : KV kX5_even 108 RX0 yX0_bagsOf wsX0_bagsOf rmX0_bagsOf 2 := ⟨_, _, _, _, gX5_even_X0_bagsOf, rfl, rfl, rfl, by decide +kernel, ⟨by decide, by decide⟩⟩
set_option maxRecDepth 20000 in
theorem vX5_even_276 : KV kX5_even 276 RX0 yX0_justBagsOf wsX0_justBagsOf rmX0_justBagsOf 1 := ⟨_, _, _, _, gX5_even_X0_justBagsOf, rfl, rfl, rfl, by decide +kernel, ⟨by decide, by decide⟩⟩
set_option maxRecDepth 20000 in
theorem jX5_even_57 : Cond.fieldLink RX5 57 (TX5 9).1 (TX5 9).2.1 (TX5 9).2.2.1 ∈ wsX5_even := by decide +kernel
set_option maxRecDepth 20000 in
theorem jX5_even_16 : Cond.fieldLink RX5 16 (TX5 3).1 (TX5 3).2.1 (TX5 3).2.2.1 ∈ wsX5_even := by decide +kernel
set_option maxRecDepth 20000 in
theorem jX5_even_279 : Cond.fieldLink RX5 279 (TX2 1).1 (TX2 1).2.1 (TX2 1).2.2.1 ∈ wsX5_even := by decide +kernel
set_option maxRecDepth 20000 in
theorem iX5_even_X2 : ∀ x ∈ u_ws RX2 TX2 12, x ∈ wsX5_even := by decide +kernel
set_option maxRecDepth 20000 in
theorem vX5_even_184 : KV kX5_even 184 RX1 yX1_withAtLeast wsX1_withAtLeast rmX1_withAtLeast 3 := ⟨_, _, _, _, gX5_even_X1_withAtLeast, rfl, rfl, rfl, by decide +kernel, ⟨by decide, by decide⟩⟩
set_option maxRecDepth 20000 in
theorem qX5_even_192 : Cond.constantLong RX5 192 (10 : Int64) ∈ wsX5_even := by decide +kernel
set_option maxRecDepth 20000 in
theorem vX5_even_194 : KS kX5_even 194 yX5_power wsX5_power rmX5_power 2 := ⟨_, _, _, _, gX5_even_X5_power, rfl, rfl, rfl, by decide +kernel, ⟨by decide, by decide⟩⟩
set_option maxRecDepth 20000 in
theorem qX5_even_179 : Cond.constantLong RX5 179 (-2 : Int64) ∈ wsX5_even := by decide +kernel
def f_X5_even (F : Nat) (s : ST) (a1 : Int32) (a2 : Int32) : Option (Int64 × ST) :=
    obd (f_X5_isStall F s a1) (fun v1 =>
    (if v1 = 0 then
    some ((-1 : Int64), s)
    else
    obd (f_X5_within F a2 (0 : Int32) (2 : Int32)) (fun v4 =>
    (if v4 = 0 then
    some ((-1 : Int64), s)
    else
    obd (f_X0_bagsOf F (T_book s) a1 (15 : Int32)) (fun v7 =>
    (if v7 ≤ (18 : Int32) then
    obd (f_X0_justBagsOf F (T_book s) a1) (fun v10 =>
    (if a2 = (0 : Int32) then
    obd (f_X1_withAtLeast F (T_honestRows s) v10 v7 (M_just (T_market s))) (fun v14 =>
    olt (uT_honestRows s v14.2) (fun s16 =>
    some (v14.1, s16)))
    else
    (if a2 = (1 : Int32) then
    obd (f_X5_power F (10 : Int64) v7) (fun v18 =>
    some (v18, s))
    else
    some ((Int32.toInt64 v10), s))))
    else
    some ((-2 : Int64), s)))))))

set_option maxHeartbeats 4000000 in
set_option maxRecDepth 100000 in
theorem c_X5_even {l : Launch} {D : va_G} {tys : List (ClassId × FieldType)} {X : XT} {cs : CS} (ad : Nat → Nat) {F : Nat} {s : ST} {a1 : Int32} {a2 : Int32} {r : (Int64 × ST)} (htyM : tys = tyA cs) (hf : f_X5_even F s a1 a2 = some r) : Cl l D tys X yX5_even wsX5_even rmX5_even [.ref (ad 0), .int a1, .int a2] (wT cs ad s) r.1 (wT cs ad r.2) := by
  refine Cl_ofG (by decide +kernel) rfl (Nat.le_of_ble_eq_true rfl) (fun E _ _ hty0 hX0 hr => ?_)
  have hty := hty0.trans htyM
  have hr : Rl E kX5_even r.1 (wT cs ad r.2) := hr
  show G E kX5_even 0 0 0 [(0, .ref (ad 0)), (1, .int a1), (2, .int a2)] [] (wT cs ad s)
  unfold f_X5_even at hf
  refine g_aload_n 0 dX5_even_0 rfl rfl ?_
  refine g_iload_n 1 dX5_even_1 rfl rfl ?_
  obtain ⟨v1, hc2, hf⟩ := obd_some hf
  refine g_callVi (ci := 5) (As := [.int a1]) (rest := []) (w2 := (wT cs ad s)) 0 dX5_even_2 vX5_even_95 (c_X5_isStall ad hty hc2) rfl (mid0 _) rfl rfl 0 wlaT_0 rfl (Nat.le_of_ble_eq_true rfl) ⟨Nat.zero_le _, Nat.zero_le _⟩ (mid2 _ _) ?_
  refine g_if_eq (tgt := 17) dX5_even_5 (by decide) (fun h3 => ?_) (fun h3 => ?_)
  · have hf := ift h3 hf
    refine g_ldc2 (v := (-1 : Int64)) dX5_even_17 qX5_even_177 ?_
    obtain rfl := Option.some.inj hf
    exact hr _ _ dX5_even_20
  · have hf := iff_ h3 hf
    refine g_iload_n 2 dX5_even_8 rfl rfl ?_
    refine g_iconst (v := (0 : Int32)) dX5_even_9 (by decide) ?_
    refine g_iconst (v := (2 : Int32)) dX5_even_10 (by decide) ?_
    obtain ⟨v4, hc5, hf⟩ := obd_some hf
    refine g_callSi (As := [.int a2, .int (0 : Int32), .int (2 : Int32)]) (rest := []) (w2 := (wT cs ad s)) 0 dX5_even_11 vX5_even_77 (c_X5_within hty hc5) rfl (midm _) rfl (Nat.le_of_ble_eq_true rfl) ⟨Nat.zero_le _, Nat.zero_le _⟩ (midn _) ?_
    refine g_if_ne (tgt := 21) dX5_even_14 (by decide) (fun h6 => ?_) (fun h6 => ?_)
    · have hf := iff_ h6 hf
      refine g_aload_n 0 dX5_even_21 rfl rfl ?_
      refine g_get (ci := 5) (T := TX5) (N := 16) 0 6 (.ref (ad 20)) dX5_even_22 iX5_even_X5 rfl jX5_even_38 (by decide) wlaT_0 rfl ?_
      refine g_iload_n 1 dX5_even_25 rfl rfl ?_
      refine g_bipush (v := (15 : Int32)) dX5_even_26 (by decide) ?_
      obtain ⟨v7, hc8, hf⟩ := obd_some hf
      refine g_callVi (ci := 0) (As := [.int a1, .int (15 : Int32)]) (rest := []) (w2 := (wT cs ad s)) 20 dX5_even_28 vX5_even_108 (c_X0_bagsOf (fun k => ad (20 + k)) hty hc8) rfl wlhT_20 rfl rfl 0 wlaB_0 rfl (Nat.le_of_ble_eq_true rfl) ⟨Nat.zero_le _, Nat.zero_le _⟩ wlrT_20 ?_
      refine g_istore_n (lv2 := [(3, .int v7), (0, .ref (ad 0)), (1, .int a1), (2, .int a2)]) dX5_even_31 rfl (by decide) rfl ?_
      refine g_iload_n 0 dX5_even_32 rfl rfl ?_
      refine g_bipush (v := (18 : Int32)) dX5_even_33 (by decide) ?_
      refine g_icmp_le (tgt := 42) dX5_even_35 (by decide) (fun h9 => ?_) (fun h9 => ?_)
      · have hf := ift h9 hf
        refine g_aload_n 1 dX5_even_42 rfl rfl ?_
        refine g_get (ci := 5) (T := TX5) (N := 16) 0 6 (.ref (ad 20)) dX5_even_43 iX5_even_X5 rfl jX5_even_38 (by decide) wlaT_0 rfl ?_
        refine g_iload_n 2 dX5_even_46 rfl rfl ?_
        obtain ⟨v10, hc11, hf⟩ := obd_some hf
        refine g_callVi (ci := 0) (As := [.int a1]) (rest := []) (w2 := (wT cs ad s)) 20 dX5_even_47 vX5_even_276 (c_X0_justBagsOf (fun k => ad (20 + k)) hty hc11) rfl wlhT_20 rfl rfl 0 wlaB_0 rfl (Nat.le_of_ble_eq_true rfl) ⟨Nat.zero_le _, Nat.zero_le _⟩ wlrT_20 ?_
        refine g_istore (lv2 := [(4, .int v10), (3, .int v7), (0, .ref (ad 0)), (1, .int a1), (2, .int a2)]) dX5_even_50 (by decide) rfl ?_
        refine g_iload_n 4 dX5_even_52 rfl rfl ?_
        by_cases h13 : a2 = (0 : Int32)
        · have hf := ift h13 hf
          refine g_lookup (off := 27) (tgt := 80) dX5_even_53 (by decide) (by rw [h13] <;> decide) (by decide) ?_
          refine g_aload_n 2 dX5_even_80 rfl rfl ?_
          refine g_get (ci := 5) (T := TX5) (N := 16) 0 9 (.ref (ad 52)) dX5_even_81 iX5_even_X5 rfl jX5_even_57 (by decide) wlaT_0 rfl ?_
          refine g_iload 0 dX5_even_84 rfl ?_
          refine g_iload_n 1 dX5_even_86 rfl rfl ?_
          refine g_aload_n 2 dX5_even_87 rfl rfl ?_
          refine g_get (ci := 5) (T := TX5) (N := 16) 0 3 (.ref (ad 11)) dX5_even_88 iX5_even_X5 rfl jX5_even_16 (by decide) wlaT_0 rfl ?_
          refine g_get (ci := 2) (T := TX2) (N := 12) 11 1 (.int (M_just (T_market s))) dX5_even_91 iX5_even_X2 rfl jX5_even_279 (by decide) wlaT_11 rfl ?_
          obtain ⟨v14, hc15, hf⟩ := obd_some hf
          obtain ⟨s16, e_s16, hf⟩ := olt_some hf
          refine g_callVl (ci := 1) (As := [.int v10, .int v7, .int (M_just (T_market s))]) (rest := []) (w2 := (wT cs ad s16)) 52 dX5_even_94 vX5_even_184 (c_X1_withAtLeast (fun k => ad (52 + k)) hty hc15) rfl wlhT_52 rfl rfl 0 wlaH_0 rfl (Nat.le_of_ble_eq_true rfl) ⟨Nat.zero_le _, Nat.zero_le _⟩ (wlcT_52.trans (congrArg (wT cs ad) e_s16)) ?_
          obtain rfl := Option.some.inj hf
          exact hr _ _ dX5_even_97
        · have hf := iff_ h13 hf
          by_cases h17 : a2 = (1 : Int32)
          · have hf := ift h17 hf
            refine g_lookup (off := 45) (tgt := 98) dX5_even_53 (by decide) (by rw [h17] <;> decide) (by decide) ?_
            refine g_ldc2 (v := (10 : Int64)) dX5_even_98 qX5_even_192 ?_
            refine g_iload_n 1 dX5_even_101 rfl rfl ?_
            obtain ⟨v18, hc19, hf⟩ := obd_some hf
            refine g_callSl (As := [.long (10 : Int64), .int v7]) (rest := []) (w2 := (wT cs ad s)) 0 dX5_even_102 vX5_even_194 (c_X5_power hty hc19) rfl (midm _) rfl (Nat.le_of_ble_eq_true rfl) ⟨Nat.zero_le _, Nat.zero_le _⟩ (midn _) ?_
            obtain rfl := Option.some.inj hf
            exact hr _ _ dX5_even_105
          · have hf := iff_ h17 hf
            refine g_lookup (off := 53) (tgt := 106) dX5_even_53 (by decide) (by rw [lv_osw h13 (by decide), lv_osw h17 (by decide)] <;> rfl) (by decide) ?_
            refine g_iload 0 dX5_even_106 rfl ?_
            refine g_i2l dX5_even_108 ?_
            obtain rfl := Option.some.inj hf
            exact hr _ _ dX5_even_109
      · have hf := iff_ h9 hf
        refine g_ldc2 (v := (-2 : Int64)) dX5_even_38 qX5_even_179 ?_
        obtain rfl := Option.some.inj hf
        exact hr _ _ dX5_even_41
    · have hf := ift h6 hf
      refine g_ldc2 (v := (-1 : Int64)) dX5_even_17 qX5_even_177 ?_
      obtain rfl := Option.some.inj hf
      exact hr _ _ dX5_even_20

-- ThumbScale trial (IIII)I
def rmX5_trial : Room := { frames := 1, cells := 0, slots := 0, locals := 23 }
def kX5_trial : MK := (cX5_trial, 5, RX5, wsX5_trial, (some .int), rmX5_trial)

set_option maxRecDepth 20000 in
theorem vX5_trial_95 : KV kX5_trial 95 RX5 yX5_isStall wsX5_isStall rmX5_isStall 1 := ⟨_, _, _, _, gX5_trial_X5_isStall, rfl, rfl, rfl, by decide +kernel, ⟨by decide, by decide⟩⟩
set_option maxRecDepth 20000 in
theorem vX5_trial_77 : KS kX5_trial 77 yX5_within wsX5_within rmX5_within 3 := ⟨_, _, _, _, gX5_trial_X5_within, rfl, rfl, rfl, by decide +kernel, ⟨by decide, by decide⟩⟩
set_option maxRecDepth 20000 in
theorem jX5_trial_38 : Cond.fieldLink RX5 38 (TX5 6).1 (TX5 6).2.1 (TX5 6).2.2.1 ∈ wsX5_trial := by decide +kernel
set_option maxRecDepth 20000 in
theorem iX5_trial_X5 : ∀ x ∈ u_ws RX5 TX5 16, x ∈ wsX5_trial := by decide +kernel
set_option maxRecDepth 20000 in
theorem jX5_trial_282 : Cond.fieldLink RX5 282 (TX0 7).1 (TX0 7).2.1 (TX0 7).2.2.1 ∈ wsX5_trial := by decide +kernel
set_option maxRecDepth 20000 in
theorem iX5_trial_X0 : ∀ x ∈ u_ws RX0 TX0 15, x ∈ wsX5_trial := by decide +kernel
set_option maxRecDepth 20000 in
theorem jX5_trial_285 : Cond.fieldLink RX5 285 (TX0 8).1 (TX0 8).2.1 (TX0 8).2.2.1 ∈ wsX5_trial := by decide +kernel
set_option maxRecDepth 20000 in
theorem jX5_trial_288 : Cond.fieldLink RX5 288 (TX0 9).1 (TX0 9).2.1 (TX0 9).2.2.1 ∈ wsX5_trial := by decide +kernel
set_option maxRecDepth 20000 in
theorem jX5_trial_291 : Cond.fieldLink RX5 291 (TX0 10).1 (TX0 10).2.1 (TX0 10).2.2.1 ∈ wsX5_trial := by decide +kernel
set_option maxRecDepth 20000 in
theorem vX5_trial_112 : KV kX5_trial 112 RX0 yX0_trialsOf wsX0_trialsOf rmX0_trialsOf 1 := ⟨_, _, _, _, gX5_trial_X0_trialsOf, rfl, rfl, rfl, by decide +kernel, ⟨by decide, by decide⟩⟩
def f_X5_trial (F : Nat) (s : ST) (a1 : Int32) (a2 : Int32) (a3 : Int32) (a4 : Int32) : Option (Int32 × ST) :=
    obd (f_X5_isStall F s a1) (fun v1 =>
    (if v1 = 0 then
    some ((-1 : Int32), s)
    else
    obd (f_X5_within F a2 (0 : Int32) (365 : Int32)) (fun v4 =>
    (if v4 = 0 then
    some ((-1 : Int32), s)
    else
    obd (f_X5_within F a3 (1 : Int32) (999 : Int32)) (fun v7 =>
    (if v7 = 0 then
    some ((-1 : Int32), s)
    else
    obd (f_X5_within F a4 (0 : Int32) (999 : Int32)) (fun v10 =>
    (if v10 = 0 then
    some ((-1 : Int32), s)
    else
    (if (B_trials (T_book s)) < (20 : Int32) then
    ochi (B_trials (T_book s)) 20 (olt (uT_book s (uB_trialStall (T_book s) (upd (B_trialStall (T_book s)) (Int32.toNatClampNeg (B_trials (T_book s))) a1))) (fun s15 =>
    ochi (B_trials (T_book s15)) 20 (olt (uT_book s15 (uB_trialDay (T_book s15) (upd (B_trialDay (T_book s15)) (Int32.toNatClampNeg (B_trials (T_book s15))) a2))) (fun s17 =>
    olt (a4 - a3) (fun z18 =>
    ochi (B_trials (T_book s17)) 20 (olt (uT_book s17 (uB_trialOff (T_book s17) (upd (B_trialOff (T_book s17)) (Int32.toNatClampNeg (B_trials (T_book s17))) z18))) (fun s20 =>
    olt ((B_trials (T_book s20)) + (1 : Int32)) (fun z21 =>
    olt (uT_book s20 (uB_trials (T_book s20) z21)) (fun s22 =>
    obd (f_X0_trialsOf F (T_book s22) a1) (fun v23 =>
    some (v23, s22)))))))))))
    else
    some ((-3 : Int32), s))))))))))

set_option maxHeartbeats 4000000 in
set_option maxRecDepth 100000 in
theorem c_X5_trial {l : Launch} {D : va_G} {tys : List (ClassId × FieldType)} {X : XT} {cs : CS} (ad : Nat → Nat) {F : Nat} {s : ST} {a1 : Int32} {a2 : Int32} {a3 : Int32} {a4 : Int32} {r : (Int32 × ST)} (htyM : tys = tyA cs) (hf : f_X5_trial F s a1 a2 a3 a4 = some r) : Ci l D tys X yX5_trial wsX5_trial rmX5_trial [.ref (ad 0), .int a1, .int a2, .int a3, .int a4] (wT cs ad s) r.1 (wT cs ad r.2) := by
  refine Ci_ofG (by decide +kernel) rfl (Nat.le_of_ble_eq_true rfl) .int rfl (vp_nar_int _) (fun E _ _ hty0 hX0 hr => ?_)
  have hty := hty0.trans htyM
  have hr : Ri E kX5_trial r.1 (wT cs ad r.2) := hr
  show G E kX5_trial 0 0 0 [(0, .ref (ad 0)), (1, .int a1), (2, .int a2), (3, .int a3), (4, .int a4)] [] (wT cs ad s)
  unfold f_X5_trial at hf
  refine g_aload_n 0 dX5_trial_0 rfl rfl ?_
  refine g_iload_n 1 dX5_trial_1 rfl rfl ?_
  obtain ⟨v1, hc2, hf⟩ := obd_some hf
  refine g_callVi (ci := 5) (As := [.int a1]) (rest := []) (w2 := (wT cs ad s)) 0 dX5_trial_2 vX5_trial_95 (c_X5_isStall ad hty hc2) rfl (mid0 _) rfl rfl 0 wlaT_0 rfl (Nat.le_of_ble_eq_true rfl) ⟨Nat.zero_le _, Nat.zero_le _⟩ (mid2 _ _) ?_
  refine g_if_eq (tgt := 42) dX5_trial_5 (by decide) (fun h3 => ?_) (fun h3 => ?_)
  · have hf := ift h3 hf
    refine g_iconst (v := (-1 : Int32)) dX5_trial_42 (by decide) ?_
    obtain rfl := Option.some.inj hf
    exact hr _ _ dX5_trial_43
  · have hf := iff_ h3 hf
    refine g_iload_n 2 dX5_trial_8 rfl rfl ?_
    refine g_iconst (v := (0 : Int32)) dX5_trial_9 (by decide) ?_
    refine g_sipush (v := (365 : Int32)) dX5_trial_10 (by decide) ?_
    obtain ⟨v4, hc5, hf⟩ := obd_some hf
    refine g_callSi (As := [.int a2, .int (0 : Int32), .int (365 : Int32)]) (rest := []) (w2 := (wT cs ad s)) 0 dX5_trial_13 vX5_trial_77 (c_X5_within hty hc5) rfl (midm _) rfl (Nat.le_of_ble_eq_true rfl) ⟨Nat.zero_le _, Nat.zero_le _⟩ (midn _) ?_
    refine g_if_eq (tgt := 42) dX5_trial_16 (by decide) (fun h6 => ?_) (fun h6 => ?_)
    · have hf := ift h6 hf
      refine g_iconst (v := (-1 : Int32)) dX5_trial_42 (by decide) ?_
      obtain rfl := Option.some.inj hf
      exact hr _ _ dX5_trial_43
    · have hf := iff_ h6 hf
      refine g_iload_n 3 dX5_trial_19 rfl rfl ?_
      refine g_iconst (v := (1 : Int32)) dX5_trial_20 (by decide) ?_
      refine g_sipush (v := (999 : Int32)) dX5_trial_21 (by decide) ?_
      obtain ⟨v7, hc8, hf⟩ := obd_some hf
      refine g_callSi (As := [.int a3, .int (1 : Int32), .int (999 : Int32)]) (rest := []) (w2 := (wT cs ad s)) 0 dX5_trial_24 vX5_trial_77 (c_X5_within hty hc8) rfl (midm _) rfl (Nat.le_of_ble_eq_true rfl) ⟨Nat.zero_le _, Nat.zero_le _⟩ (midn _) ?_
      refine g_if_eq (tgt := 42) dX5_trial_27 (by decide) (fun h9 => ?_) (fun h9 => ?_)
      · have hf := ift h9 hf
        refine g_iconst (v := (-1 : Int32)) dX5_trial_42 (by decide) ?_
        obtain rfl := Option.some.inj hf
        exact hr _ _ dX5_trial_43
      · have hf := iff_ h9 hf
        refine g_iload 4 dX5_trial_30 rfl ?_
        refine g_iconst (v := (0 : Int32)) dX5_trial_32 (by decide) ?_
        refine g_sipush (v := (999 : Int32)) dX5_trial_33 (by decide) ?_
        obtain ⟨v10, hc11, hf⟩ := obd_some hf
        refine g_callSi (As := [.int a4, .int (0 : Int32), .int (999 : Int32)]) (rest := []) (w2 := (wT cs ad s)) 0 dX5_trial_36 vX5_trial_77 (c_X5_within hty hc11) rfl (midm _) rfl (Nat.le_of_ble_eq_true rfl) ⟨Nat.zero_le _, Nat.zero_le _⟩ (midn _) ?_
        refine g_if_ne (tgt := 44) dX5_trial_39 (by decide) (fun h12 => ?_) (fun h12 => ?_)
        · have hf := iff_ h12 hf
          refine g_aload_n 0 dX5_trial_44 rfl rfl ?_
          refine g_get (ci := 5) (T := TX5) (N := 16) 0 6 (.ref (ad 20)) dX5_trial_45 iX5_trial_X5 rfl jX5_trial_38 (by decide) wlaT_0 rfl ?_
          refine g_get (ci := 0) (T := TX0) (N := 15) 20 7 (.int (B_trials (T_book s))) dX5_trial_48 iX5_trial_X0 rfl jX5_trial_282 (by decide) wlaT_20 rfl ?_
          refine g_bipush (v := (20 : Int32)) dX5_trial_51 (by decide) ?_
          refine g_icmp_lt (tgt := 59) dX5_trial_53 (by decide) (fun h13 => ?_) (fun h13 => ?_)
          · have hf := ift h13 hf
            refine g_aload_n 0 dX5_trial_59 rfl rfl ?_
            refine g_get (ci := 5) (T := TX5) (N := 16) 0 6 (.ref (ad 20)) dX5_trial_60 iX5_trial_X5 rfl jX5_trial_38 (by decide) wlaT_0 rfl ?_
            refine g_get (ci := 0) (T := TX0) (N := 15) 20 8 (.ref (ad 27)) dX5_trial_63 iX5_trial_X0 rfl jX5_trial_285 (by decide) wlaT_20 rfl ?_
            refine g_aload_n 0 dX5_trial_66 rfl rfl ?_
            refine g_get (ci := 5) (T := TX5) (N := 16) 0 6 (.ref (ad 20)) dX5_trial_67 iX5_trial_X5 rfl jX5_trial_38 (by decide) wlaT_0 rfl ?_
            refine g_get (ci := 0) (T := TX0) (N := 15) 20 7 (.int (B_trials (T_book s))) dX5_trial_70 iX5_trial_X0 rfl jX5_trial_282 (by decide) wlaT_20 rfl ?_
            refine g_iload_n 1 dX5_trial_73 rfl rfl ?_
            obtain ⟨h14, hf⟩ := ochi_some hf
            obtain ⟨s15, e_s15, hf⟩ := olt_some hf
            refine g_iast (w2 := (wT cs ad s15)) 27 0 dX5_trial_74 wlaT_27 (tI hty) h14 (wlsT_27.trans (congrArg (wT cs ad) e_s15)) ?_
            refine g_aload_n 0 dX5_trial_75 rfl rfl ?_
            refine g_get (ci := 5) (T := TX5) (N := 16) 0 6 (.ref (ad 20)) dX5_trial_76 iX5_trial_X5 rfl jX5_trial_38 (by decide) wlaT_0 rfl ?_
            refine g_get (ci := 0) (T := TX0) (N := 15) 20 9 (.ref (ad 28)) dX5_trial_79 iX5_trial_X0 rfl jX5_trial_288 (by decide) wlaT_20 rfl ?_
            refine g_aload_n 0 dX5_trial_82 rfl rfl ?_
            refine g_get (ci := 5) (T := TX5) (N := 16) 0 6 (.ref (ad 20)) dX5_trial_83 iX5_trial_X5 rfl jX5_trial_38 (by decide) wlaT_0 rfl ?_
            refine g_get (ci := 0) (T := TX0) (N := 15) 20 7 (.int (B_trials (T_book s15))) dX5_trial_86 iX5_trial_X0 rfl jX5_trial_282 (by decide) wlaT_20 rfl ?_
            refine g_iload_n 2 dX5_trial_89 rfl rfl ?_
            obtain ⟨h16, hf⟩ := ochi_some hf
            obtain ⟨s17, e_s17, hf⟩ := olt_some hf
            refine g_iast (w2 := (wT cs ad s17)) 28 0 dX5_trial_90 wlaT_28 (tI hty) h16 (wlsT_28.trans (congrArg (wT cs ad) e_s17)) ?_
            refine g_aload_n 0 dX5_trial_91 rfl rfl ?_
            refine g_get (ci := 5) (T := TX5) (N := 16) 0 6 (.ref (ad 20)) dX5_trial_92 iX5_trial_X5 rfl jX5_trial_38 (by decide) wlaT_0 rfl ?_
            refine g_get (ci := 0) (T := TX0) (N := 15) 20 10 (.ref (ad 29)) dX5_trial_95 iX5_trial_X0 rfl jX5_trial_291 (by decide) wlaT_20 rfl ?_
            refine g_aload_n 0 dX5_trial_98 rfl rfl ?_
            refine g_get (ci := 5) (T := TX5) (N := 16) 0 6 (.ref (ad 20)) dX5_trial_99 iX5_trial_X5 rfl jX5_trial_38 (by decide) wlaT_0 rfl ?_
            refine g_get (ci := 0) (T := TX0) (N := 15) 20 7 (.int (B_trials (T_book s17))) dX5_trial_102 iX5_trial_X0 rfl jX5_trial_282 (by decide) wlaT_20 rfl ?_
            refine g_iload 4 dX5_trial_105 rfl ?_
            refine g_iload_n 3 dX5_trial_107 rfl rfl ?_
            refine g_isub dX5_trial_108 ?_
            obtain ⟨z18, e_z18, hf⟩ := olt_some hf
            refine g_cast rfl rfl (congrArg (fun q => Value.int q :: [.int (B_trials (T_book s17)), .ref (ad 29)]) e_z18) rfl ?_
            obtain ⟨h19, hf⟩ := ochi_some hf
            obtain ⟨s20, e_s20, hf⟩ := olt_some hf
            refine g_iast (w2 := (wT cs ad s20)) 29 0 dX5_trial_109 wlaT_29 (tI hty) h19 (wlsT_29.trans (congrArg (wT cs ad) e_s20)) ?_
            refine g_aload_n 0 dX5_trial_110 rfl rfl ?_
            refine g_get (ci := 5) (T := TX5) (N := 16) 0 6 (.ref (ad 20)) dX5_trial_111 iX5_trial_X5 rfl jX5_trial_38 (by decide) wlaT_0 rfl ?_
            refine g_dup dX5_trial_114 rfl ?_
            refine g_get (ci := 0) (T := TX0) (N := 15) 20 7 (.int (B_trials (T_book s20))) dX5_trial_115 iX5_trial_X0 rfl jX5_trial_282 (by decide) wlaT_20 rfl ?_
            refine g_iconst (v := (1 : Int32)) dX5_trial_118 (by decide) ?_
            refine g_iadd dX5_trial_119 ?_
            obtain ⟨z21, e_z21, hf⟩ := olt_some hf
            refine g_cast rfl rfl (congrArg (fun q => Value.int q :: [.ref (ad 20)]) e_z21) rfl ?_
            obtain ⟨s22, e_s22, hf⟩ := olt_some hf
            refine g_put (ci := 0) (T := TX0) (N := 15) (ty := .int) (w2 := (wT cs ad s22)) 20 7 (.int z21) tyX0 dX5_trial_120 iX5_trial_X0 tyX0_ok nmX0 rfl jX5_trial_282 (by decide) rfl rfl rfl rfl wlaT_20 (Nat.le_of_ble_eq_true rfl) (wlpT_20_7.trans (congrArg (wT cs ad) e_s22)) ?_
            refine g_aload_n 0 dX5_trial_123 rfl rfl ?_
            refine g_get (ci := 5) (T := TX5) (N := 16) 0 6 (.ref (ad 20)) dX5_trial_124 iX5_trial_X5 rfl jX5_trial_38 (by decide) wlaT_0 rfl ?_
            refine g_iload_n 1 dX5_trial_127 rfl rfl ?_
            obtain ⟨v23, hc24, hf⟩ := obd_some hf
            refine g_callVi (ci := 0) (As := [.int a1]) (rest := []) (w2 := (wT cs ad s22)) 20 dX5_trial_128 vX5_trial_112 (c_X0_trialsOf (fun k => ad (20 + k)) hty hc24) rfl wlhT_20 rfl rfl 0 wlaB_0 rfl (Nat.le_of_ble_eq_true rfl) ⟨Nat.zero_le _, Nat.zero_le _⟩ wlrT_20 ?_
            obtain rfl := Option.some.inj hf
            exact hr _ _ dX5_trial_131
          · have hf := iff_ h13 hf
            refine g_bipush (v := (-3 : Int32)) dX5_trial_56 (by decide) ?_
            obtain rfl := Option.some.inj hf
            exact hr _ _ dX5_trial_58
        · have hf := ift h12 hf
          refine g_iconst (v := (-1 : Int32)) dX5_trial_42 (by decide) ?_
          obtain rfl := Option.some.inj hf
          exact hr _ _ dX5_trial_43

-- ThumbScale middle (I)J
def rmX5_middle : Room := { frames := 1, cells := 0, slots := 0, locals := 24 }
def kX5_middle : MK := (cX5_middle, 3, RX5, wsX5_middle, (some .long), rmX5_middle)

set_option maxRecDepth 20000 in
theorem vX5_middle_95 : KV kX5_middle 95 RX5 yX5_isStall wsX5_isStall rmX5_isStall 1 := ⟨_, _, _, _, gX5_middle_X5_isStall, rfl, rfl, rfl, by decide +kernel, ⟨by decide, by decide⟩⟩
set_option maxRecDepth 20000 in
theorem vX5_middle_294 : KV kX5_middle 294 RX5 yX5_sortOffs wsX5_sortOffs rmX5_sortOffs 1 := ⟨_, _, _, _, gX5_middle_X5_sortOffs, rfl, rfl, rfl, by decide +kernel, ⟨by decide, by decide⟩⟩
set_option maxRecDepth 20000 in
theorem jX5_middle_68 : Cond.fieldLink RX5 68 (TX5 11).1 (TX5 11).2.1 (TX5 11).2.2.1 ∈ wsX5_middle := by decide +kernel
set_option maxRecDepth 20000 in
theorem iX5_middle_X5 : ∀ x ∈ u_ws RX5 TX5 16, x ∈ wsX5_middle := by decide +kernel
set_option maxRecDepth 20000 in
theorem qX5_middle_164 : Cond.constantLong RX5 164 (-1000000000000000000 : Int64) ∈ wsX5_middle := by decide +kernel
def f_X5_middle (F : Nat) (s : ST) (a1 : Int32) : Option (Int64 × ST) :=
    obd (f_X5_isStall F s a1) (fun v1 =>
    (if v1 = 0 then
    some ((-1000000000000000000 : Int64), s)
    else
    obd (f_X5_sortOffs F s a1) (fun v4 =>
    (if 0 < v4.1 then
    ochk (¬ (2 : Int32) = 0) (
    ochi ((v4.1 - (1 : Int32)) / (2 : Int32)) 20 (
    some ((Int32.toInt64 ((T_sortedOffs v4.2) (Int32.toNatClampNeg ((v4.1 - (1 : Int32)) / (2 : Int32))))), v4.2)))
    else
    some ((-1000000000000000000 : Int64), v4.2)))))

set_option maxHeartbeats 4000000 in
set_option maxRecDepth 100000 in
theorem c_X5_middle {l : Launch} {D : va_G} {tys : List (ClassId × FieldType)} {X : XT} {cs : CS} (ad : Nat → Nat) {F : Nat} {s : ST} {a1 : Int32} {r : (Int64 × ST)} (htyM : tys = tyA cs) (hf : f_X5_middle F s a1 = some r) : Cl l D tys X yX5_middle wsX5_middle rmX5_middle [.ref (ad 0), .int a1] (wT cs ad s) r.1 (wT cs ad r.2) := by
  refine Cl_ofG (by decide +kernel) rfl (Nat.le_of_ble_eq_true rfl) (fun E _ _ hty0 hX0 hr => ?_)
  have hty := hty0.trans htyM
  have hr : Rl E kX5_middle r.1 (wT cs ad r.2) := hr
  show G E kX5_middle 0 0 0 [(0, .ref (ad 0)), (1, .int a1)] [] (wT cs ad s)
  unfold f_X5_middle at hf
  refine g_aload_n 0 dX5_middle_0 rfl rfl ?_
  refine g_iload_n 1 dX5_middle_1 rfl rfl ?_
  obtain ⟨v1, hc2, hf⟩ := obd_some hf
  refine g_callVi (ci := 5) (As := [.int a1]) (rest := []) (w2 := (wT cs ad s)) 0 dX5_middle_2 vX5_middle_95 (c_X5_isStall ad hty hc2) rfl (mid0 _) rfl rfl 0 wlaT_0 rfl (Nat.le_of_ble_eq_true rfl) ⟨Nat.zero_le _, Nat.zero_le _⟩ (mid2 _ _) ?_
  refine g_if_ne (tgt := 12) dX5_middle_5 (by decide) (fun h3 => ?_) (fun h3 => ?_)
  · have hf := iff_ h3 hf
    refine g_aload_n 0 dX5_middle_12 rfl rfl ?_
    refine g_iload_n 1 dX5_middle_13 rfl rfl ?_
    obtain ⟨v4, hc5, hf⟩ := obd_some hf
    refine g_callVi (ci := 5) (As := [.int a1]) (rest := []) (w2 := (wT cs ad v4.2)) 0 dX5_middle_14 vX5_middle_294 (c_X5_sortOffs ad hty hc5) rfl (mid0 _) rfl rfl 0 wlaT_0 rfl (Nat.le_of_ble_eq_true rfl) ⟨Nat.zero_le _, Nat.zero_le _⟩ (mid2 _ _) ?_
    refine g_istore_n (lv2 := [(2, .int v4.1), (0, .ref (ad 0)), (1, .int a1)]) dX5_middle_17 rfl (by decide) rfl ?_
    refine g_iload_n 0 dX5_middle_18 rfl rfl ?_
    refine g_if_gt (tgt := 28) dX5_middle_19 (by decide) (fun h6 => ?_) (fun h6 => ?_)
    · have hf := ift h6 hf
      refine g_aload_n 1 dX5_middle_28 rfl rfl ?_
      refine g_get (ci := 5) (T := TX5) (N := 16) 0 11 (.ref (ad 58)) dX5_middle_29 iX5_middle_X5 rfl jX5_middle_68 (by decide) wlaT_0 rfl ?_
      refine g_iload_n 0 dX5_middle_32 rfl rfl ?_
      refine g_iconst (v := (1 : Int32)) dX5_middle_33 (by decide) ?_
      refine g_isub dX5_middle_34 ?_
      refine g_iconst (v := (2 : Int32)) dX5_middle_35 (by decide) ?_
      obtain ⟨h7, hf⟩ := ochk_some hf
      refine g_idiv dX5_middle_36 h7 ?_
      obtain ⟨h8, hf⟩ := ochi_some hf
      refine g_iald 58 0 dX5_middle_37 wlaT_58 (tI hty) h8 ?_
      refine g_i2l dX5_middle_38 ?_
      obtain rfl := Option.some.inj hf
      exact hr _ _ dX5_middle_39
    · have hf := iff_ h6 hf
      refine g_ldc2 (v := (-1000000000000000000 : Int64)) dX5_middle_22 qX5_middle_164 ?_
      refine g_goto (tgt := 39) dX5_middle_25 (by decide) ?_
      obtain rfl := Option.some.inj hf
      exact hr _ _ dX5_middle_39
  · have hf := ift h3 hf
    refine g_ldc2 (v := (-1000000000000000000 : Int64)) dX5_middle_8 qX5_middle_164 ?_
    obtain rfl := Option.some.inj hf
    exact hr _ _ dX5_middle_11

-- ThumbScale drift (II)J
def rmX5_drift : Room := { frames := 2, cells := 0, slots := 0, locals := 56 }
def kX5_drift : MK := (cX5_drift, 18, RX5, wsX5_drift, (some .long), rmX5_drift)

set_option maxRecDepth 20000 in
theorem vX5_drift_95 : KV kX5_drift 95 RX5 yX5_isStall wsX5_isStall rmX5_isStall 1 := ⟨_, _, _, _, gX5_drift_X5_isStall, rfl, rfl, rfl, by decide +kernel, ⟨by decide, by decide⟩⟩
set_option maxRecDepth 20000 in
theorem qX5_drift_164 : Cond.constantLong RX5 164 (-1000000000000000000 : Int64) ∈ wsX5_drift := by decide +kernel
set_option maxRecDepth 20000 in
theorem vX5_drift_213 : KS kX5_drift 213 yX5_isPart wsX5_isPart rmX5_isPart 1 := ⟨_, _, _, _, gX5_drift_X5_isPart, rfl, rfl, rfl, by decide +kernel, ⟨by decide, by decide⟩⟩
set_option maxRecDepth 20000 in
theorem jX5_drift_38 : Cond.fieldLink RX5 38 (TX5 6).1 (TX5 6).2.1 (TX5 6).2.2.1 ∈ wsX5_drift := by decide +kernel
set_option maxRecDepth 20000 in
theorem iX5_drift_X5 : ∀ x ∈ u_ws RX5 TX5 16, x ∈ wsX5_drift := by decide +kernel
set_option maxRecDepth 20000 in
theorem jX5_drift_282 : Cond.fieldLink RX5 282 (TX0 7).1 (TX0 7).2.1 (TX0 7).2.2.1 ∈ wsX5_drift := by decide +kernel
set_option maxRecDepth 20000 in
theorem iX5_drift_X0 : ∀ x ∈ u_ws RX0 TX0 15, x ∈ wsX5_drift := by decide +kernel
set_option maxRecDepth 20000 in
theorem vX5_drift_222 : KS kX5_drift 222 yX5_inLeastTerms wsX5_inLeastTerms rmX5_inLeastTerms 3 := ⟨_, _, _, _, gX5_drift_X5_inLeastTerms, rfl, rfl, rfl, by decide +kernel, ⟨by decide, by decide⟩⟩
set_option maxRecDepth 20000 in
theorem jX5_drift_285 : Cond.fieldLink RX5 285 (TX0 8).1 (TX0 8).2.1 (TX0 8).2.2.1 ∈ wsX5_drift := by decide +kernel
set_option maxRecDepth 20000 in
theorem jX5_drift_288 : Cond.fieldLink RX5 288 (TX0 9).1 (TX0 9).2.1 (TX0 9).2.2.1 ∈ wsX5_drift := by decide +kernel
set_option maxRecDepth 20000 in
theorem jX5_drift_291 : Cond.fieldLink RX5 291 (TX0 10).1 (TX0 10).2.1 (TX0 10).2.2.1 ∈ wsX5_drift := by decide +kernel
def f_X5_drift_L36 (F : Nat) (s : ST) (a1 : Int32) (a2 : Int32) : Nat → Int64 → Int64 → Int64 → Int64 → Int64 → Int32 → Option Int64
  | 0, _, _, _, _, _, _ => none
  | n + 1, x7, x8, x9, x10, x11, x12 =>
    (if (B_trials (T_book s)) ≤ x12 then
    (if 0 < (lg_cmp ((x7 * x11) - (x8 * x8)) (0 : Int64)) then
    obd (f_X5_inLeastTerms F ((x7 * x10) - (x8 * x9)) ((x7 * x11) - (x8 * x8)) a2) (fun v15 =>
    some v15)
    else
    some (-1000000000000000000 : Int64))
    else
    ochi x12 20 (
    (if ((B_trialStall (T_book s)) (Int32.toNatClampNeg x12)) = a1 then
    ochi x12 20 (
    olt (Int32.toInt64 ((B_trialDay (T_book s)) (Int32.toNatClampNeg x12))) (fun z20 =>
    ochi x12 20 (
    olt (Int32.toInt64 ((B_trialOff (T_book s)) (Int32.toNatClampNeg x12))) (fun z22 =>
    f_X5_drift_L36 F s a1 a2 n (x7 + (1 : Int64)) (x8 + z20) (x9 + z22) (x10 + (z20 * z22)) (x11 + (z20 * z20)) (x12 + 1)))))
    else
    f_X5_drift_L36 F s a1 a2 n x7 x8 x9 x10 x11 (x12 + 1))))

def f_X5_drift (F : Nat) (s : ST) (a1 : Int32) (a2 : Int32) : Option Int64 :=
    obd (f_X5_isStall F s a1) (fun v1 =>
    (if v1 = 0 then
    some (-1000000000000000000 : Int64)
    else
    obd (f_X5_isPart F a2) (fun v4 =>
    (if v4 = 0 then
    some (-1000000000000000000 : Int64)
    else
    f_X5_drift_L36 F s a1 a2 F (0 : Int64) (0 : Int64) (0 : Int64) (0 : Int64) (0 : Int64) (0 : Int32)))))

set_option maxHeartbeats 4000000 in
set_option maxRecDepth 100000 in
theorem w_X5_drift_L36 {E : GE} {cs : CS} {ad : Nat → Nat} {F : Nat} {s : ST} {a1 : Int32} {a2 : Int32} {r : Int64} (hty : eT E = tyA cs) (hr : Rl E kX5_drift r (wT cs ad s)) : ∀ (n : Nat) (x7 : Int64) (x8 : Int64) (x9 : Int64) (x10 : Int64) (x11 : Int64) (x12 : Int32), f_X5_drift_L36 F s a1 a2 n x7 x8 x9 x10 x11 x12 = some r → G E kX5_drift 0 0 36 [(0, .ref (ad 0)), (1, .int a1), (2, .int a2), (3, .long x7), (5, .long x8), (7, .long x9), (9, .long x10), (11, .long x11), (13, .int x12)] [] (wT cs ad s) := by
  intro n
  induction n with
  | zero =>
    intro x7 x8 x9 x10 x11 x12 hf
    cases (show (none : Option Int64) = some r from hf)
  | succ n ih =>
    intro x7 x8 x9 x10 x11 x12 hf
    rw [f_X5_drift_L36] at hf
    refine g_iload 8 dX5_drift_36 rfl ?_
    refine g_aload_n 0 dX5_drift_38 rfl rfl ?_
    refine g_get (ci := 5) (T := TX5) (N := 16) 0 6 (.ref (ad 20)) dX5_drift_39 iX5_drift_X5 rfl jX5_drift_38 (by decide) wlaT_0 rfl ?_
    refine g_get (ci := 0) (T := TX0) (N := 15) 20 7 (.int (B_trials (T_book s))) dX5_drift_42 iX5_drift_X0 rfl jX5_drift_282 (by decide) wlaT_20 rfl ?_
    refine g_icmp_ge (tgt := 132) dX5_drift_45 (by decide) (fun h13 => ?_) (fun h13 => ?_)
    · have hf := ift h13 hf
      refine g_lload_n 3 dX5_drift_132 rfl rfl ?_
      refine g_lload 7 dX5_drift_133 rfl ?_
      refine g_lmul dX5_drift_135 ?_
      refine g_lload 4 dX5_drift_136 rfl ?_
      refine g_lload 4 dX5_drift_138 rfl ?_
      refine g_lmul dX5_drift_140 ?_
      refine g_lsub dX5_drift_141 ?_
      refine g_lstore (lv2 := [(13, .long ((x7 * x11) - (x8 * x8))), (0, .ref (ad 0)), (1, .int a1), (2, .int a2), (3, .long x7), (5, .long x8), (7, .long x9), (9, .long x10), (11, .long x11)]) dX5_drift_142 (by decide) rfl ?_
      refine g_lload 0 dX5_drift_144 rfl ?_
      refine g_lconst (v := (0 : Int64)) dX5_drift_146 (by decide) ?_
      refine g_lcmp dX5_drift_147 ?_
      refine g_if_gt (tgt := 157) dX5_drift_148 (by decide) (fun h14 => ?_) (fun h14 => ?_)
      · have hf := ift h14 hf
        refine g_lload_n 4 dX5_drift_157 rfl rfl ?_
        refine g_lload 7 dX5_drift_158 rfl ?_
        refine g_lmul dX5_drift_160 ?_
        refine g_lload 5 dX5_drift_161 rfl ?_
        refine g_lload 6 dX5_drift_163 rfl ?_
        refine g_lmul dX5_drift_165 ?_
        refine g_lsub dX5_drift_166 ?_
        refine g_lload 0 dX5_drift_167 rfl ?_
        refine g_iload_n 3 dX5_drift_169 rfl rfl ?_
        obtain ⟨v15, hc16, hf⟩ := obd_some hf
        refine g_callSl (As := [.long ((x7 * x10) - (x8 * x9)), .long ((x7 * x11) - (x8 * x8)), .int a2]) (rest := []) (w2 := (wT cs ad s)) 0 dX5_drift_170 vX5_drift_222 (c_X5_inLeastTerms hty hc16) rfl (midm _) rfl (Nat.le_of_ble_eq_true rfl) ⟨Nat.zero_le _, Nat.zero_le _⟩ (midn _) ?_
        obtain rfl := Option.some.inj hf
        exact hr _ _ dX5_drift_173
      · have hf := iff_ h14 hf
        refine g_ldc2 (v := (-1000000000000000000 : Int64)) dX5_drift_151 qX5_drift_164 ?_
        refine g_goto (tgt := 173) dX5_drift_154 (by decide) ?_
        obtain rfl := Option.some.inj hf
        exact hr _ _ dX5_drift_173
    · have hf := iff_ h13 hf
      refine g_aload_n 0 dX5_drift_48 rfl rfl ?_
      refine g_get (ci := 5) (T := TX5) (N := 16) 0 6 (.ref (ad 20)) dX5_drift_49 iX5_drift_X5 rfl jX5_drift_38 (by decide) wlaT_0 rfl ?_
      refine g_get (ci := 0) (T := TX0) (N := 15) 20 8 (.ref (ad 27)) dX5_drift_52 iX5_drift_X0 rfl jX5_drift_285 (by decide) wlaT_20 rfl ?_
      refine g_iload 8 dX5_drift_55 rfl ?_
      obtain ⟨h17, hf⟩ := ochi_some hf
      refine g_iald 27 0 dX5_drift_57 wlaT_27 (tI hty) h17 ?_
      refine g_iload_n 1 dX5_drift_58 rfl rfl ?_
      refine g_icmp_ne (tgt := 126) dX5_drift_59 (by decide) (fun h18 => ?_) (fun h18 => ?_)
      · have hf := iff_ h18 hf
        refine g_iinc (lv2 := [(13, .int (x12 + 1)), (0, .ref (ad 0)), (1, .int a1), (2, .int a2), (3, .long x7), (5, .long x8), (7, .long x9), (9, .long x10), (11, .long x11)]) 8 dX5_drift_126 rfl (ii1 _) (by decide) rfl ?_
        refine g_goto (tgt := 36) dX5_drift_129 (by decide) ?_
        exact g_sub [1, 2, 3, 4, 5, 6, 7, 8, 0] rfl (ih x7 x8 x9 x10 x11 (x12 + 1) hf)
      · have hf := ift h18 hf
        refine g_aload_n 0 dX5_drift_62 rfl rfl ?_
        refine g_get (ci := 5) (T := TX5) (N := 16) 0 6 (.ref (ad 20)) dX5_drift_63 iX5_drift_X5 rfl jX5_drift_38 (by decide) wlaT_0 rfl ?_
        refine g_get (ci := 0) (T := TX0) (N := 15) 20 9 (.ref (ad 28)) dX5_drift_66 iX5_drift_X0 rfl jX5_drift_288 (by decide) wlaT_20 rfl ?_
        refine g_iload 8 dX5_drift_69 rfl ?_
        obtain ⟨h19, hf⟩ := ochi_some hf
        refine g_iald 28 0 dX5_drift_71 wlaT_28 (tI hty) h19 ?_
        refine g_i2l dX5_drift_72 ?_
        obtain ⟨z20, e_z20, hf⟩ := olt_some hf
        refine g_cast rfl rfl (congrArg (fun q => Value.long q :: []) e_z20) rfl ?_
        refine g_lstore (lv2 := [(14, .long z20), (0, .ref (ad 0)), (1, .int a1), (2, .int a2), (3, .long x7), (5, .long x8), (7, .long x9), (9, .long x10), (11, .long x11), (13, .int x12)]) dX5_drift_73 (by decide) rfl ?_
        refine g_aload_n 1 dX5_drift_75 rfl rfl ?_
        refine g_get (ci := 5) (T := TX5) (N := 16) 0 6 (.ref (ad 20)) dX5_drift_76 iX5_drift_X5 rfl jX5_drift_38 (by decide) wlaT_0 rfl ?_
        refine g_get (ci := 0) (T := TX0) (N := 15) 20 10 (.ref (ad 29)) dX5_drift_79 iX5_drift_X0 rfl jX5_drift_291 (by decide) wlaT_20 rfl ?_
        refine g_iload 9 dX5_drift_82 rfl ?_
        obtain ⟨h21, hf⟩ := ochi_some hf
        refine g_iald 29 0 dX5_drift_84 wlaT_29 (tI hty) h21 ?_
        refine g_i2l dX5_drift_85 ?_
        obtain ⟨z22, e_z22, hf⟩ := olt_some hf
        refine g_cast rfl rfl (congrArg (fun q => Value.long q :: []) e_z22) rfl ?_
        refine g_lstore (lv2 := [(16, .long z22), (14, .long z20), (0, .ref (ad 0)), (1, .int a1), (2, .int a2), (3, .long x7), (5, .long x8), (7, .long x9), (9, .long x10), (11, .long x11), (13, .int x12)]) dX5_drift_86 (by decide) rfl ?_
        refine g_lload_n 5 dX5_drift_88 rfl rfl ?_
        refine g_lconst (v := (1 : Int64)) dX5_drift_89 (by decide) ?_
        refine g_ladd dX5_drift_90 ?_
        refine g_lstore_n (lv2 := [(3, .long (x7 + (1 : Int64))), (16, .long z22), (14, .long z20), (0, .ref (ad 0)), (1, .int a1), (2, .int a2), (5, .long x8), (7, .long x9), (9, .long x10), (11, .long x11), (13, .int x12)]) dX5_drift_91 rfl (by decide) rfl ?_
        refine g_lload 6 dX5_drift_92 rfl ?_
        refine g_lload 2 dX5_drift_94 rfl ?_
        refine g_ladd dX5_drift_96 ?_
        refine g_lstore (lv2 := [(5, .long (x8 + z20)), (3, .long (x7 + (1 : Int64))), (16, .long z22), (14, .long z20), (0, .ref (ad 0)), (1, .int a1), (2, .int a2), (7, .long x9), (9, .long x10), (11, .long x11), (13, .int x12)]) dX5_drift_97 (by decide) rfl ?_
        refine g_lload 7 dX5_drift_99 rfl ?_
        refine g_lload 2 dX5_drift_101 rfl ?_
        refine g_ladd dX5_drift_103 ?_
        refine g_lstore (lv2 := [(7, .long (x9 + z22)), (5, .long (x8 + z20)), (3, .long (x7 + (1 : Int64))), (16, .long z22), (14, .long z20), (0, .ref (ad 0)), (1, .int a1), (2, .int a2), (9, .long x10), (11, .long x11), (13, .int x12)]) dX5_drift_104 (by decide) rfl ?_
        refine g_lload 8 dX5_drift_106 rfl ?_
        refine g_lload 4 dX5_drift_108 rfl ?_
        refine g_lload 3 dX5_drift_110 rfl ?_
        refine g_lmul dX5_drift_112 ?_
        refine g_ladd dX5_drift_113 ?_
        refine g_lstore (lv2 := [(9, .long (x10 + (z20 * z22))), (7, .long (x9 + z22)), (5, .long (x8 + z20)), (3, .long (x7 + (1 : Int64))), (16, .long z22), (14, .long z20), (0, .ref (ad 0)), (1, .int a1), (2, .int a2), (11, .long x11), (13, .int x12)]) dX5_drift_114 (by decide) rfl ?_
        refine g_lload 9 dX5_drift_116 rfl ?_
        refine g_lload 5 dX5_drift_118 rfl ?_
        refine g_lload 5 dX5_drift_120 rfl ?_
        refine g_lmul dX5_drift_122 ?_
        refine g_ladd dX5_drift_123 ?_
        refine g_lstore (lv2 := [(11, .long (x11 + (z20 * z20))), (9, .long (x10 + (z20 * z22))), (7, .long (x9 + z22)), (5, .long (x8 + z20)), (3, .long (x7 + (1 : Int64))), (16, .long z22), (14, .long z20), (0, .ref (ad 0)), (1, .int a1), (2, .int a2), (13, .int x12)]) dX5_drift_124 (by decide) rfl ?_
        refine g_iinc (lv2 := [(13, .int (x12 + 1)), (11, .long (x11 + (z20 * z20))), (9, .long (x10 + (z20 * z22))), (7, .long (x9 + z22)), (5, .long (x8 + z20)), (3, .long (x7 + (1 : Int64))), (16, .long z22), (14, .long z20), (0, .ref (ad 0)), (1, .int a1), (2, .int a2)]) 10 dX5_drift_126 rfl (ii1 _) (by decide) rfl ?_
        refine g_goto (tgt := 36) dX5_drift_129 (by decide) ?_
        exact g_sub [8, 9, 10, 5, 4, 3, 2, 1, 0] rfl (ih (x7 + (1 : Int64)) (x8 + z20) (x9 + z22) (x10 + (z20 * z22)) (x11 + (z20 * z20)) (x12 + 1) hf)

set_option maxHeartbeats 4000000 in
set_option maxRecDepth 100000 in
theorem c_X5_drift {l : Launch} {D : va_G} {tys : List (ClassId × FieldType)} {X : XT} {cs : CS} (ad : Nat → Nat) {F : Nat} {s : ST} {a1 : Int32} {a2 : Int32} {r : Int64} (htyM : tys = tyA cs) (hf : f_X5_drift F s a1 a2 = some r) : Cl l D tys X yX5_drift wsX5_drift rmX5_drift [.ref (ad 0), .int a1, .int a2] (wT cs ad s) r (wT cs ad s) := by
  refine Cl_ofG (by decide +kernel) rfl (Nat.le_of_ble_eq_true rfl) (fun E _ _ hty0 hX0 hr => ?_)
  have hty := hty0.trans htyM
  have hr : Rl E kX5_drift r (wT cs ad s) := hr
  show G E kX5_drift 0 0 0 [(0, .ref (ad 0)), (1, .int a1), (2, .int a2)] [] (wT cs ad s)
  unfold f_X5_drift at hf
  refine g_aload_n 0 dX5_drift_0 rfl rfl ?_
  refine g_iload_n 1 dX5_drift_1 rfl rfl ?_
  obtain ⟨v1, hc2, hf⟩ := obd_some hf
  refine g_callVi (ci := 5) (As := [.int a1]) (rest := []) (w2 := (wT cs ad s)) 0 dX5_drift_2 vX5_drift_95 (c_X5_isStall ad hty hc2) rfl (mid0 _) rfl rfl 0 wlaT_0 rfl (Nat.le_of_ble_eq_true rfl) ⟨Nat.zero_le _, Nat.zero_le _⟩ (mid2 _ _) ?_
  refine g_if_eq (tgt := 15) dX5_drift_5 (by decide) (fun h3 => ?_) (fun h3 => ?_)
  · have hf := ift h3 hf
    refine g_ldc2 (v := (-1000000000000000000 : Int64)) dX5_drift_15 qX5_drift_164 ?_
    obtain rfl := Option.some.inj hf
    exact hr _ _ dX5_drift_18
  · have hf := iff_ h3 hf
    refine g_iload_n 2 dX5_drift_8 rfl rfl ?_
    obtain ⟨v4, hc5, hf⟩ := obd_some hf
    refine g_callSi (As := [.int a2]) (rest := []) (w2 := (wT cs ad s)) 0 dX5_drift_9 vX5_drift_213 (c_X5_isPart hty hc5) rfl (midm _) rfl (Nat.le_of_ble_eq_true rfl) ⟨Nat.zero_le _, Nat.zero_le _⟩ (midn _) ?_
    refine g_if_ne (tgt := 19) dX5_drift_12 (by decide) (fun h6 => ?_) (fun h6 => ?_)
    · have hf := iff_ h6 hf
      refine g_lconst (v := (0 : Int64)) dX5_drift_19 (by decide) ?_
      refine g_lstore_n (lv2 := [(3, .long (0 : Int64)), (0, .ref (ad 0)), (1, .int a1), (2, .int a2)]) dX5_drift_20 rfl (by decide) rfl ?_
      refine g_lconst (v := (0 : Int64)) dX5_drift_21 (by decide) ?_
      refine g_lstore (lv2 := [(5, .long (0 : Int64)), (3, .long (0 : Int64)), (0, .ref (ad 0)), (1, .int a1), (2, .int a2)]) dX5_drift_22 (by decide) rfl ?_
      refine g_lconst (v := (0 : Int64)) dX5_drift_24 (by decide) ?_
      refine g_lstore (lv2 := [(7, .long (0 : Int64)), (5, .long (0 : Int64)), (3, .long (0 : Int64)), (0, .ref (ad 0)), (1, .int a1), (2, .int a2)]) dX5_drift_25 (by decide) rfl ?_
      refine g_lconst (v := (0 : Int64)) dX5_drift_27 (by decide) ?_
      refine g_lstore (lv2 := [(9, .long (0 : Int64)), (7, .long (0 : Int64)), (5, .long (0 : Int64)), (3, .long (0 : Int64)), (0, .ref (ad 0)), (1, .int a1), (2, .int a2)]) dX5_drift_28 (by decide) rfl ?_
      refine g_lconst (v := (0 : Int64)) dX5_drift_30 (by decide) ?_
      refine g_lstore (lv2 := [(11, .long (0 : Int64)), (9, .long (0 : Int64)), (7, .long (0 : Int64)), (5, .long (0 : Int64)), (3, .long (0 : Int64)), (0, .ref (ad 0)), (1, .int a1), (2, .int a2)]) dX5_drift_31 (by decide) rfl ?_
      refine g_iconst (v := (0 : Int32)) dX5_drift_33 (by decide) ?_
      refine g_istore (lv2 := [(13, .int (0 : Int32)), (11, .long (0 : Int64)), (9, .long (0 : Int64)), (7, .long (0 : Int64)), (5, .long (0 : Int64)), (3, .long (0 : Int64)), (0, .ref (ad 0)), (1, .int a1), (2, .int a2)]) dX5_drift_34 (by decide) rfl ?_
      exact g_sub [6, 7, 8, 5, 4, 3, 2, 1, 0] rfl (w_X5_drift_L36 hty hr F (0 : Int64) (0 : Int64) (0 : Int64) (0 : Int64) (0 : Int64) (0 : Int32) hf)
    · have hf := ift h6 hf
      refine g_ldc2 (v := (-1000000000000000000 : Int64)) dX5_drift_15 qX5_drift_164 ?_
      obtain rfl := Option.some.inj hf
      exact hr _ _ dX5_drift_18

-- ThumbScale lot (I)I
def rmX5_lot : Room := { frames := 0, cells := 0, slots := 0, locals := 0 }
def kX5_lot : MK := (cX5_lot, 3, RX5, wsX5_lot, (some .int), rmX5_lot)

set_option maxRecDepth 20000 in
theorem jX5_lot_38 : Cond.fieldLink RX5 38 (TX5 6).1 (TX5 6).2.1 (TX5 6).2.2.1 ∈ wsX5_lot := by decide +kernel
set_option maxRecDepth 20000 in
theorem iX5_lot_X5 : ∀ x ∈ u_ws RX5 TX5 16, x ∈ wsX5_lot := by decide +kernel
set_option maxRecDepth 20000 in
theorem jX5_lot_42 : Cond.fieldLink RX5 42 (TX0 14).1 (TX0 14).2.1 (TX0 14).2.2.1 ∈ wsX5_lot := by decide +kernel
set_option maxRecDepth 20000 in
theorem iX5_lot_X0 : ∀ x ∈ u_ws RX0 TX0 15, x ∈ wsX5_lot := by decide +kernel
def f_X5_lot (F : Nat) (s : ST) (a1 : Int32) : Option (Int32 × ST) :=
    olt (uT_book s (uB_lot (T_book s) a1)) (fun s1 =>
    some ((B_lot (T_book s)), s1))

set_option maxHeartbeats 4000000 in
set_option maxRecDepth 100000 in
theorem c_X5_lot {l : Launch} {D : va_G} {tys : List (ClassId × FieldType)} {X : XT} {cs : CS} (ad : Nat → Nat) {F : Nat} {s : ST} {a1 : Int32} {r : (Int32 × ST)} (htyM : tys = tyA cs) (hf : f_X5_lot F s a1 = some r) : Ci l D tys X yX5_lot wsX5_lot rmX5_lot [.ref (ad 0), .int a1] (wT cs ad s) r.1 (wT cs ad r.2) := by
  refine Ci_ofG (by decide +kernel) rfl (Nat.le_of_ble_eq_true rfl) .int rfl (vp_nar_int _) (fun E _ _ hty0 hX0 hr => ?_)
  have hty := hty0.trans htyM
  have hr : Ri E kX5_lot r.1 (wT cs ad r.2) := hr
  show G E kX5_lot 0 0 0 [(0, .ref (ad 0)), (1, .int a1)] [] (wT cs ad s)
  unfold f_X5_lot at hf
  refine g_aload_n 0 dX5_lot_0 rfl rfl ?_
  refine g_get (ci := 5) (T := TX5) (N := 16) 0 6 (.ref (ad 20)) dX5_lot_1 iX5_lot_X5 rfl jX5_lot_38 (by decide) wlaT_0 rfl ?_
  refine g_get (ci := 0) (T := TX0) (N := 15) 20 14 (.int (B_lot (T_book s))) dX5_lot_4 iX5_lot_X0 rfl jX5_lot_42 (by decide) wlaT_20 rfl ?_
  refine g_istore_n (lv2 := [(2, .int (B_lot (T_book s))), (0, .ref (ad 0)), (1, .int a1)]) dX5_lot_7 rfl (by decide) rfl ?_
  refine g_aload_n 1 dX5_lot_8 rfl rfl ?_
  refine g_get (ci := 5) (T := TX5) (N := 16) 0 6 (.ref (ad 20)) dX5_lot_9 iX5_lot_X5 rfl jX5_lot_38 (by decide) wlaT_0 rfl ?_
  refine g_iload_n 2 dX5_lot_12 rfl rfl ?_
  obtain ⟨s1, e_s1, hf⟩ := olt_some hf
  refine g_put (ci := 0) (T := TX0) (N := 15) (ty := .int) (w2 := (wT cs ad s1)) 20 14 (.int a1) tyX0 dX5_lot_13 iX5_lot_X0 tyX0_ok nmX0 rfl jX5_lot_42 (by decide) rfl rfl rfl rfl wlaT_20 (Nat.le_of_ble_eq_true rfl) (wlpT_20_14.trans (congrArg (wT cs ad) e_s1)) ?_
  refine g_iload_n 0 dX5_lot_16 rfl rfl ?_
  obtain rfl := Option.some.inj hf
  exact hr _ _ dX5_lot_17

-- ThumbScale sales (IIII)I
def rmX5_sales : Room := { frames := 4, cells := 0, slots := 0, locals := 98 }
def kX5_sales : MK := (cX5_sales, 9, RX5, wsX5_sales, (some .int), rmX5_sales)

set_option maxRecDepth 20000 in
theorem vX5_sales_115 : KV kX5_sales 115 RX5 yX5_isWay wsX5_isWay rmX5_isWay 1 := ⟨_, _, _, _, gX5_sales_X5_isWay, rfl, rfl, rfl, by decide +kernel, ⟨by decide, by decide⟩⟩
set_option maxRecDepth 20000 in
theorem vX5_sales_95 : KV kX5_sales 95 RX5 yX5_isStall wsX5_isStall rmX5_isStall 1 := ⟨_, _, _, _, gX5_sales_X5_isStall, rfl, rfl, rfl, by decide +kernel, ⟨by decide, by decide⟩⟩
set_option maxRecDepth 20000 in
theorem vX5_sales_130 : KS kX5_sales 130 yX5_isSort wsX5_isSort rmX5_isSort 1 := ⟨_, _, _, _, gX5_sales_X5_isSort, rfl, rfl, rfl, by decide +kernel, ⟨by decide, by decide⟩⟩
set_option maxRecDepth 20000 in
theorem vX5_sales_77 : KS kX5_sales 77 yX5_within wsX5_within rmX5_within 3 := ⟨_, _, _, _, gX5_sales_X5_within, rfl, rfl, rfl, by decide +kernel, ⟨by decide, by decide⟩⟩
set_option maxRecDepth 20000 in
theorem vX5_sales_297 : KV kX5_sales 297 RX5 yX5_fillChances wsX5_fillChances rmX5_fillChances 3 := ⟨_, _, _, _, gX5_sales_X5_fillChances, rfl, rfl, rfl, by decide +kernel, ⟨by decide, by decide⟩⟩
set_option maxRecDepth 20000 in
theorem jX5_sales_301 : Cond.fieldLink RX5 301 (TX5 14).1 (TX5 14).2.1 (TX5 14).2.2.1 ∈ wsX5_sales := by decide +kernel
set_option maxRecDepth 20000 in
theorem iX5_sales_X5 : ∀ x ∈ u_ws RX5 TX5 16, x ∈ wsX5_sales := by decide +kernel
set_option maxRecDepth 20000 in
theorem vX5_sales_304 : KV kX5_sales 304 RX5 yX5_drawSteps wsX5_drawSteps rmX5_drawSteps 1 := ⟨_, _, _, _, gX5_sales_X5_drawSteps, rfl, rfl, rfl, by decide +kernel, ⟨by decide, by decide⟩⟩
def f_X5_sales_L57 (F : Nat) (a1 : Int32) (a2 : Int32) (a3 : Int32) (a4 : Int32) (x19 : Int32) : Nat → Int32 → Int32 → ST → Option (Int32 × ST)
  | 0, _, _, _ => none
  | n + 1, x16, x17, s18 =>
    (if a4 ≤ x17 then
    some (x16, s18)
    else
    obd (f_X5_drawSteps F s18 x19) (fun v21 =>
    olt ((T_stepsSold v21.2) + v21.1) (fun z23 =>
    olt (uT_stepsSold v21.2 z23) (fun s24 =>
    (if v21.1 < (1 : Int32) then
    f_X5_sales_L57 F a1 a2 a3 a4 x19 n x16 (x17 + 1) s24
    else
    f_X5_sales_L57 F a1 a2 a3 a4 x19 n (x16 + 1) (x17 + 1) s24)))))

def f_X5_sales (F : Nat) (s : ST) (a1 : Int32) (a2 : Int32) (a3 : Int32) (a4 : Int32) : Option (Int32 × ST) :=
    obd (f_X5_isWay F s a1) (fun v1 =>
    (if v1 = 0 then
    some ((-1 : Int32), s)
    else
    obd (f_X5_isStall F s a2) (fun v4 =>
    (if v4 = 0 then
    some ((-1 : Int32), s)
    else
    obd (f_X5_isSort F a3) (fun v7 =>
    (if v7 = 0 then
    some ((-1 : Int32), s)
    else
    obd (f_X5_within F a4 (1 : Int32) (200 : Int32)) (fun v10 =>
    (if v10 = 0 then
    some ((-1 : Int32), s)
    else
    obd (f_X5_fillChances F s a1 a2 a3) (fun v13 =>
    olt (uT_stepsSold v13.2 (0 : Int32)) (fun s15 =>
    f_X5_sales_L57 F a1 a2 a3 a4 v13.1 F (0 : Int32) (0 : Int32) s15))))))))))

set_option maxHeartbeats 4000000 in
set_option maxRecDepth 100000 in
theorem w_X5_sales_L57 {E : GE} {cs : CS} {ad : Nat → Nat} {F : Nat} {a1 : Int32} {a2 : Int32} {a3 : Int32} {a4 : Int32} {x19 : Int32} {r : (Int32 × ST)} (hty : eT E = tyA cs) (hr : Ri E kX5_sales r.1 (wT cs ad r.2)) : ∀ (n : Nat) (x16 : Int32) (x17 : Int32) (s18 : ST), f_X5_sales_L57 F a1 a2 a3 a4 x19 n x16 x17 s18 = some r → G E kX5_sales 0 0 57 [(0, .ref (ad 0)), (4, .int a4), (5, .int x19), (6, .int x16), (7, .int x17)] [] (wT cs ad s18) := by
  intro n
  induction n with
  | zero =>
    intro x16 x17 s18 hf
    cases (show (none : Option (Int32 × ST)) = some r from hf)
  | succ n ih =>
    intro x16 x17 s18 hf
    rw [f_X5_sales_L57] at hf
    refine g_iload 4 dX5_sales_57 rfl ?_
    refine g_iload 1 dX5_sales_59 rfl ?_
    refine g_icmp_ge (tgt := 98) dX5_sales_61 (by decide) (fun h20 => ?_) (fun h20 => ?_)
    · have hf := ift h20 hf
      refine g_iload 3 dX5_sales_98 rfl ?_
      obtain rfl := Option.some.inj hf
      exact hr _ _ dX5_sales_100
    · have hf := iff_ h20 hf
      refine g_aload_n 0 dX5_sales_64 rfl rfl ?_
      refine g_iload 2 dX5_sales_65 rfl ?_
      obtain ⟨v21, hc22, hf⟩ := obd_some hf
      refine g_callVi (ci := 5) (As := [.int x19]) (rest := []) (w2 := (wT cs ad v21.2)) 0 dX5_sales_67 vX5_sales_304 (c_X5_drawSteps ad hty hc22) rfl (mid0 _) rfl rfl 0 wlaT_0 rfl (Nat.le_of_ble_eq_true rfl) ⟨Nat.zero_le _, Nat.zero_le _⟩ (mid2 _ _) ?_
      refine g_istore (lv2 := [(8, .int v21.1), (0, .ref (ad 0)), (4, .int a4), (5, .int x19), (6, .int x16), (7, .int x17)]) dX5_sales_70 (by decide) rfl ?_
      refine g_aload_n 1 dX5_sales_72 rfl rfl ?_
      refine g_dup dX5_sales_73 rfl ?_
      refine g_get (ci := 5) (T := TX5) (N := 16) 0 14 (.int (T_stepsSold v21.2)) dX5_sales_74 iX5_sales_X5 rfl jX5_sales_301 (by decide) wlaT_0 rfl ?_
      refine g_iload 0 dX5_sales_77 rfl ?_
      refine g_iadd dX5_sales_79 ?_
      obtain ⟨z23, e_z23, hf⟩ := olt_some hf
      refine g_cast rfl rfl (congrArg (fun q => Value.int q :: [.ref (ad 0)]) e_z23) rfl ?_
      obtain ⟨s24, e_s24, hf⟩ := olt_some hf
      refine g_put (ci := 5) (T := TX5) (N := 16) (ty := .int) (w2 := (wT cs ad s24)) 0 14 (.int z23) tyX5 dX5_sales_80 iX5_sales_X5 tyX5_ok nmX5 rfl jX5_sales_301 (by decide) rfl rfl rfl rfl wlaT_0 (Nat.le_of_ble_eq_true rfl) (wlpT_0_14.trans (congrArg (wT cs ad) e_s24)) ?_
      refine g_iload 0 dX5_sales_83 rfl ?_
      refine g_iconst (v := (1 : Int32)) dX5_sales_85 (by decide) ?_
      refine g_icmp_lt (tgt := 92) dX5_sales_86 (by decide) (fun h25 => ?_) (fun h25 => ?_)
      · have hf := ift h25 hf
        refine g_iinc (lv2 := [(7, .int (x17 + 1)), (8, .int v21.1), (0, .ref (ad 0)), (4, .int a4), (5, .int x19), (6, .int x16)]) 5 dX5_sales_92 rfl (ii1 _) (by decide) rfl ?_
        refine g_goto (tgt := 57) dX5_sales_95 (by decide) ?_
        exact g_sub [2, 3, 4, 5, 0] rfl (ih x16 (x17 + 1) s24 hf)
      · have hf := iff_ h25 hf
        refine g_iinc (lv2 := [(6, .int (x16 + 1)), (8, .int v21.1), (0, .ref (ad 0)), (4, .int a4), (5, .int x19), (7, .int x17)]) 4 dX5_sales_89 rfl (ii1 _) (by decide) rfl ?_
        refine g_iinc (lv2 := [(7, .int (x17 + 1)), (6, .int (x16 + 1)), (8, .int v21.1), (0, .ref (ad 0)), (4, .int a4), (5, .int x19)]) 5 dX5_sales_92 rfl (ii1 _) (by decide) rfl ?_
        refine g_goto (tgt := 57) dX5_sales_95 (by decide) ?_
        exact g_sub [3, 4, 5, 1, 0] rfl (ih (x16 + 1) (x17 + 1) s24 hf)

set_option maxHeartbeats 4000000 in
set_option maxRecDepth 100000 in
theorem c_X5_sales {l : Launch} {D : va_G} {tys : List (ClassId × FieldType)} {X : XT} {cs : CS} (ad : Nat → Nat) {F : Nat} {s : ST} {a1 : Int32} {a2 : Int32} {a3 : Int32} {a4 : Int32} {r : (Int32 × ST)} (htyM : tys = tyA cs) (hf : f_X5_sales F s a1 a2 a3 a4 = some r) : Ci l D tys X yX5_sales wsX5_sales rmX5_sales [.ref (ad 0), .int a1, .int a2, .int a3, .int a4] (wT cs ad s) r.1 (wT cs ad r.2) := by
  refine Ci_ofG (by decide +kernel) rfl (Nat.le_of_ble_eq_true rfl) .int rfl (vp_nar_int _) (fun E _ _ hty0 hX0 hr => ?_)
  have hty := hty0.trans htyM
  have hr : Ri E kX5_sales r.1 (wT cs ad r.2) := hr
  show G E kX5_sales 0 0 0 [(0, .ref (ad 0)), (1, .int a1), (2, .int a2), (3, .int a3), (4, .int a4)] [] (wT cs ad s)
  unfold f_X5_sales at hf
  refine g_aload_n 0 dX5_sales_0 rfl rfl ?_
  refine g_iload_n 1 dX5_sales_1 rfl rfl ?_
  obtain ⟨v1, hc2, hf⟩ := obd_some hf
  refine g_callVi (ci := 5) (As := [.int a1]) (rest := []) (w2 := (wT cs ad s)) 0 dX5_sales_2 vX5_sales_115 (c_X5_isWay ad hty hc2) rfl (mid0 _) rfl rfl 0 wlaT_0 rfl (Nat.le_of_ble_eq_true rfl) ⟨Nat.zero_le _, Nat.zero_le _⟩ (mid2 _ _) ?_
  refine g_if_eq (tgt := 35) dX5_sales_5 (by decide) (fun h3 => ?_) (fun h3 => ?_)
  · have hf := ift h3 hf
    refine g_iconst (v := (-1 : Int32)) dX5_sales_35 (by decide) ?_
    obtain rfl := Option.some.inj hf
    exact hr _ _ dX5_sales_36
  · have hf := iff_ h3 hf
    refine g_aload_n 0 dX5_sales_8 rfl rfl ?_
    refine g_iload_n 2 dX5_sales_9 rfl rfl ?_
    obtain ⟨v4, hc5, hf⟩ := obd_some hf
    refine g_callVi (ci := 5) (As := [.int a2]) (rest := []) (w2 := (wT cs ad s)) 0 dX5_sales_10 vX5_sales_95 (c_X5_isStall ad hty hc5) rfl (mid0 _) rfl rfl 0 wlaT_0 rfl (Nat.le_of_ble_eq_true rfl) ⟨Nat.zero_le _, Nat.zero_le _⟩ (mid2 _ _) ?_
    refine g_if_eq (tgt := 35) dX5_sales_13 (by decide) (fun h6 => ?_) (fun h6 => ?_)
    · have hf := ift h6 hf
      refine g_iconst (v := (-1 : Int32)) dX5_sales_35 (by decide) ?_
      obtain rfl := Option.some.inj hf
      exact hr _ _ dX5_sales_36
    · have hf := iff_ h6 hf
      refine g_iload_n 3 dX5_sales_16 rfl rfl ?_
      obtain ⟨v7, hc8, hf⟩ := obd_some hf
      refine g_callSi (As := [.int a3]) (rest := []) (w2 := (wT cs ad s)) 0 dX5_sales_17 vX5_sales_130 (c_X5_isSort hty hc8) rfl (midm _) rfl (Nat.le_of_ble_eq_true rfl) ⟨Nat.zero_le _, Nat.zero_le _⟩ (midn _) ?_
      refine g_if_eq (tgt := 35) dX5_sales_20 (by decide) (fun h9 => ?_) (fun h9 => ?_)
      · have hf := ift h9 hf
        refine g_iconst (v := (-1 : Int32)) dX5_sales_35 (by decide) ?_
        obtain rfl := Option.some.inj hf
        exact hr _ _ dX5_sales_36
      · have hf := iff_ h9 hf
        refine g_iload 4 dX5_sales_23 rfl ?_
        refine g_iconst (v := (1 : Int32)) dX5_sales_25 (by decide) ?_
        refine g_sipush (v := (200 : Int32)) dX5_sales_26 (by decide) ?_
        obtain ⟨v10, hc11, hf⟩ := obd_some hf
        refine g_callSi (As := [.int a4, .int (1 : Int32), .int (200 : Int32)]) (rest := []) (w2 := (wT cs ad s)) 0 dX5_sales_29 vX5_sales_77 (c_X5_within hty hc11) rfl (midm _) rfl (Nat.le_of_ble_eq_true rfl) ⟨Nat.zero_le _, Nat.zero_le _⟩ (midn _) ?_
        refine g_if_ne (tgt := 37) dX5_sales_32 (by decide) (fun h12 => ?_) (fun h12 => ?_)
        · have hf := iff_ h12 hf
          refine g_aload_n 0 dX5_sales_37 rfl rfl ?_
          refine g_iload_n 1 dX5_sales_38 rfl rfl ?_
          refine g_iload_n 2 dX5_sales_39 rfl rfl ?_
          refine g_iload_n 3 dX5_sales_40 rfl rfl ?_
          obtain ⟨v13, hc14, hf⟩ := obd_some hf
          refine g_callVi (ci := 5) (As := [.int a1, .int a2, .int a3]) (rest := []) (w2 := (wT cs ad v13.2)) 0 dX5_sales_41 vX5_sales_297 (c_X5_fillChances ad hty hc14) rfl (mid0 _) rfl rfl 0 wlaT_0 rfl (Nat.le_of_ble_eq_true rfl) ⟨Nat.zero_le _, Nat.zero_le _⟩ (mid2 _ _) ?_
          refine g_istore (lv2 := [(5, .int v13.1), (0, .ref (ad 0)), (1, .int a1), (2, .int a2), (3, .int a3), (4, .int a4)]) dX5_sales_44 (by decide) rfl ?_
          refine g_iconst (v := (0 : Int32)) dX5_sales_46 (by decide) ?_
          refine g_istore (lv2 := [(6, .int (0 : Int32)), (5, .int v13.1), (0, .ref (ad 0)), (1, .int a1), (2, .int a2), (3, .int a3), (4, .int a4)]) dX5_sales_47 (by decide) rfl ?_
          refine g_aload_n 2 dX5_sales_49 rfl rfl ?_
          refine g_iconst (v := (0 : Int32)) dX5_sales_50 (by decide) ?_
          obtain ⟨s15, e_s15, hf⟩ := olt_some hf
          refine g_put (ci := 5) (T := TX5) (N := 16) (ty := .int) (w2 := (wT cs ad s15)) 0 14 (.int (0 : Int32)) tyX5 dX5_sales_51 iX5_sales_X5 tyX5_ok nmX5 rfl jX5_sales_301 (by decide) rfl rfl rfl rfl wlaT_0 (Nat.le_of_ble_eq_true rfl) (wlpT_0_14.trans (congrArg (wT cs ad) e_s15)) ?_
          refine g_iconst (v := (0 : Int32)) dX5_sales_54 (by decide) ?_
          refine g_istore (lv2 := [(7, .int (0 : Int32)), (6, .int (0 : Int32)), (5, .int v13.1), (0, .ref (ad 0)), (1, .int a1), (2, .int a2), (3, .int a3), (4, .int a4)]) dX5_sales_55 (by decide) rfl ?_
          exact g_sub [3, 7, 2, 1, 0] rfl (w_X5_sales_L57 hty hr F (0 : Int32) (0 : Int32) s15 hf)
        · have hf := ift h12 hf
          refine g_iconst (v := (-1 : Int32)) dX5_sales_35 (by decide) ?_
          obtain rfl := Option.some.inj hf
          exact hr _ _ dX5_sales_36

-- ThumbScale steps ()I
def rmX5_steps : Room := { frames := 0, cells := 0, slots := 0, locals := 0 }
def kX5_steps : MK := (cX5_steps, 1, RX5, wsX5_steps, (some .int), rmX5_steps)

set_option maxRecDepth 20000 in
theorem jX5_steps_301 : Cond.fieldLink RX5 301 (TX5 14).1 (TX5 14).2.1 (TX5 14).2.2.1 ∈ wsX5_steps := by decide +kernel
set_option maxRecDepth 20000 in
theorem iX5_steps_X5 : ∀ x ∈ u_ws RX5 TX5 16, x ∈ wsX5_steps := by decide +kernel
def f_X5_steps (F : Nat) (s : ST) : Option Int32 :=
    some (T_stepsSold s)

set_option maxHeartbeats 4000000 in
set_option maxRecDepth 100000 in
theorem c_X5_steps {l : Launch} {D : va_G} {tys : List (ClassId × FieldType)} {X : XT} {cs : CS} (ad : Nat → Nat) {F : Nat} {s : ST} {r : Int32} (htyM : tys = tyA cs) (hf : f_X5_steps F s = some r) : Ci l D tys X yX5_steps wsX5_steps rmX5_steps [.ref (ad 0)] (wT cs ad s) r (wT cs ad s) := by
  refine Ci_ofG (by decide +kernel) rfl (Nat.le_of_ble_eq_true rfl) .int rfl (vp_nar_int _) (fun E _ _ hty0 hX0 hr => ?_)
  have hty := hty0.trans htyM
  have hr : Ri E kX5_steps r (wT cs ad s) := hr
  show G E kX5_steps 0 0 0 [(0, .ref (ad 0))] [] (wT cs ad s)
  unfold f_X5_steps at hf
  refine g_aload_n 0 dX5_steps_0 rfl rfl ?_
  refine g_get (ci := 5) (T := TX5) (N := 16) 0 14 (.int (T_stepsSold s)) dX5_steps_1 iX5_steps_X5 rfl jX5_steps_301 (by decide) wlaT_0 rfl ?_
  obtain rfl := Option.some.inj hf
  exact hr _ _ dX5_steps_4

-- ThumbScale score (II)J
def rmX5_score : Room := { frames := 3, cells := 0, slots := 0, locals := 63 }
def kX5_score : MK := (cX5_score, 3, RX5, wsX5_score, (some .long), rmX5_score)

set_option maxRecDepth 20000 in
theorem vX5_score_161 : KV kX5_score 161 RX5 yX5_isBag wsX5_isBag rmX5_isBag 1 := ⟨_, _, _, _, gX5_score_X5_isBag, rfl, rfl, rfl, by decide +kernel, ⟨by decide, by decide⟩⟩
set_option maxRecDepth 20000 in
theorem vX5_score_307 : KV kX5_score 307 RX5 yX5_asWay wsX5_asWay rmX5_asWay 1 := ⟨_, _, _, _, gX5_score_X5_asWay, rfl, rfl, rfl, by decide +kernel, ⟨by decide, by decide⟩⟩
set_option maxRecDepth 20000 in
theorem vX5_score_310 : KV kX5_score 310 RX5 yX5_asHonest wsX5_asHonest rmX5_asHonest 1 := ⟨_, _, _, _, gX5_score_X5_asHonest, rfl, rfl, rfl, by decide +kernel, ⟨by decide, by decide⟩⟩
set_option maxRecDepth 20000 in
theorem vX5_score_313 : KV kX5_score 313 RX5 yX5_asScale wsX5_asScale rmX5_asScale 1 := ⟨_, _, _, _, gX5_score_X5_asScale, rfl, rfl, rfl, by decide +kernel, ⟨by decide, by decide⟩⟩
set_option maxRecDepth 20000 in
theorem vX5_score_316 : KV kX5_score 316 RX5 yX5_asThumb wsX5_asThumb rmX5_asThumb 1 := ⟨_, _, _, _, gX5_score_X5_asThumb, rfl, rfl, rfl, by decide +kernel, ⟨by decide, by decide⟩⟩
set_option maxRecDepth 20000 in
theorem vX5_score_319 : KV kX5_score 319 RX5 yX5_asChoose wsX5_asChoose rmX5_asChoose 1 := ⟨_, _, _, _, gX5_score_X5_asChoose, rfl, rfl, rfl, by decide +kernel, ⟨by decide, by decide⟩⟩
set_option maxRecDepth 20000 in
theorem vX5_score_322 : KV kX5_score 322 RX5 yX5_asRound wsX5_asRound rmX5_asRound 1 := ⟨_, _, _, _, gX5_score_X5_asRound, rfl, rfl, rfl, by decide +kernel, ⟨by decide, by decide⟩⟩
set_option maxRecDepth 20000 in
theorem vX5_score_325 : KV kX5_score 325 RX5 yX5_asTold wsX5_asTold rmX5_asTold 1 := ⟨_, _, _, _, gX5_score_X5_asTold, rfl, rfl, rfl, by decide +kernel, ⟨by decide, by decide⟩⟩
set_option maxRecDepth 20000 in
theorem qX5_score_164 : Cond.constantLong RX5 164 (-1000000000000000000 : Int64) ∈ wsX5_score := by decide +kernel
def f_X5_score (F : Nat) (s : ST) (a1 : Int32) (a2 : Int32) : Option (Int64 × ST) :=
    obd (f_X5_isBag F s a2) (fun v1 =>
    (if v1 = 0 then
    some ((-1000000000000000000 : Int64), s)
    else
    (if a1 = (0 : Int32) then
    obd (f_X5_asWay F s a2) (fun v6 =>
    some (v6.1, v6.2))
    else
    (if a1 = (1 : Int32) then
    obd (f_X5_asHonest F s a2) (fun v9 =>
    some (v9.1, v9.2))
    else
    (if a1 = (2 : Int32) then
    obd (f_X5_asScale F s a2) (fun v12 =>
    some (v12.1, v12.2))
    else
    (if a1 = (3 : Int32) then
    obd (f_X5_asThumb F s a2) (fun v15 =>
    some (v15.1, v15.2))
    else
    (if a1 = (4 : Int32) then
    obd (f_X5_asChoose F s a2) (fun v18 =>
    some (v18.1, v18.2))
    else
    (if a1 = (5 : Int32) then
    obd (f_X5_asRound F s a2) (fun v21 =>
    some (v21.1, v21.2))
    else
    (if a1 = (6 : Int32) then
    obd (f_X5_asTold F s a2) (fun v24 =>
    some (v24.1, v24.2))
    else
    some ((-1000000000000000000 : Int64), s))))))))))

set_option maxHeartbeats 4000000 in
set_option maxRecDepth 100000 in
theorem c_X5_score {l : Launch} {D : va_G} {tys : List (ClassId × FieldType)} {X : XT} {cs : CS} (ad : Nat → Nat) {F : Nat} {s : ST} {a1 : Int32} {a2 : Int32} {r : (Int64 × ST)} (htyM : tys = tyA cs) (hf : f_X5_score F s a1 a2 = some r) : Cl l D tys X yX5_score wsX5_score rmX5_score [.ref (ad 0), .int a1, .int a2] (wT cs ad s) r.1 (wT cs ad r.2) := by
  refine Cl_ofG (by decide +kernel) rfl (Nat.le_of_ble_eq_true rfl) (fun E _ _ hty0 hX0 hr => ?_)
  have hty := hty0.trans htyM
  have hr : Rl E kX5_score r.1 (wT cs ad r.2) := hr
  show G E kX5_score 0 0 0 [(0, .ref (ad 0)), (1, .int a1), (2, .int a2)] [] (wT cs ad s)
  unfold f_X5_score at hf
  refine g_aload_n 0 dX5_score_0 rfl rfl ?_
  refine g_iload_n 2 dX5_score_1 rfl rfl ?_
  obtain ⟨v1, hc2, hf⟩ := obd_some hf
  refine g_callVi (ci := 5) (As := [.int a2]) (rest := []) (w2 := (wT cs ad s)) 0 dX5_score_2 vX5_score_161 (c_X5_isBag ad hty hc2) rfl (mid0 _) rfl rfl 0 wlaT_0 rfl (Nat.le_of_ble_eq_true rfl) ⟨Nat.zero_le _, Nat.zero_le _⟩ (mid2 _ _) ?_
  refine g_if_ne (tgt := 12) dX5_score_5 (by decide) (fun h3 => ?_) (fun h3 => ?_)
  · have hf := iff_ h3 hf
    refine g_iload_n 1 dX5_score_12 rfl rfl ?_
    by_cases h5 : a1 = (0 : Int32)
    · have hf := ift h5 hf
      refine g_tableIn (off := 43) (tgt := 56) dX5_score_13 (by rw [h5] <;> decide) (by rw [h5] <;> decide) (by rw [h5] <;> decide) (by decide) ?_
      refine g_aload_n 0 dX5_score_56 rfl rfl ?_
      refine g_iload_n 2 dX5_score_57 rfl rfl ?_
      obtain ⟨v6, hc7, hf⟩ := obd_some hf
      refine g_callVl (ci := 5) (As := [.int a2]) (rest := []) (w2 := (wT cs ad v6.2)) 0 dX5_score_58 vX5_score_307 (c_X5_asWay ad hty hc7) rfl (mid0 _) rfl rfl 0 wlaT_0 rfl (Nat.le_of_ble_eq_true rfl) ⟨Nat.zero_le _, Nat.zero_le _⟩ (mid2 _ _) ?_
      obtain rfl := Option.some.inj hf
      exact hr _ _ dX5_score_61
    · have hf := iff_ h5 hf
      by_cases h8 : a1 = (1 : Int32)
      · have hf := ift h8 hf
        refine g_tableIn (off := 49) (tgt := 62) dX5_score_13 (by rw [h8] <;> decide) (by rw [h8] <;> decide) (by rw [h8] <;> decide) (by decide) ?_
        refine g_aload_n 0 dX5_score_62 rfl rfl ?_
        refine g_iload_n 2 dX5_score_63 rfl rfl ?_
        obtain ⟨v9, hc10, hf⟩ := obd_some hf
        refine g_callVl (ci := 5) (As := [.int a2]) (rest := []) (w2 := (wT cs ad v9.2)) 0 dX5_score_64 vX5_score_310 (c_X5_asHonest ad hty hc10) rfl (mid0 _) rfl rfl 0 wlaT_0 rfl (Nat.le_of_ble_eq_true rfl) ⟨Nat.zero_le _, Nat.zero_le _⟩ (mid2 _ _) ?_
        obtain rfl := Option.some.inj hf
        exact hr _ _ dX5_score_67
      · have hf := iff_ h8 hf
        by_cases h11 : a1 = (2 : Int32)
        · have hf := ift h11 hf
          refine g_tableIn (off := 55) (tgt := 68) dX5_score_13 (by rw [h11] <;> decide) (by rw [h11] <;> decide) (by rw [h11] <;> decide) (by decide) ?_
          refine g_aload_n 0 dX5_score_68 rfl rfl ?_
          refine g_iload_n 2 dX5_score_69 rfl rfl ?_
          obtain ⟨v12, hc13, hf⟩ := obd_some hf
          refine g_callVl (ci := 5) (As := [.int a2]) (rest := []) (w2 := (wT cs ad v12.2)) 0 dX5_score_70 vX5_score_313 (c_X5_asScale ad hty hc13) rfl (mid0 _) rfl rfl 0 wlaT_0 rfl (Nat.le_of_ble_eq_true rfl) ⟨Nat.zero_le _, Nat.zero_le _⟩ (mid2 _ _) ?_
          obtain rfl := Option.some.inj hf
          exact hr _ _ dX5_score_73
        · have hf := iff_ h11 hf
          by_cases h14 : a1 = (3 : Int32)
          · have hf := ift h14 hf
            refine g_tableIn (off := 61) (tgt := 74) dX5_score_13 (by rw [h14] <;> decide) (by rw [h14] <;> decide) (by rw [h14] <;> decide) (by decide) ?_
            refine g_aload_n 0 dX5_score_74 rfl rfl ?_
            refine g_iload_n 2 dX5_score_75 rfl rfl ?_
            obtain ⟨v15, hc16, hf⟩ := obd_some hf
            refine g_callVl (ci := 5) (As := [.int a2]) (rest := []) (w2 := (wT cs ad v15.2)) 0 dX5_score_76 vX5_score_316 (c_X5_asThumb ad hty hc16) rfl (mid0 _) rfl rfl 0 wlaT_0 rfl (Nat.le_of_ble_eq_true rfl) ⟨Nat.zero_le _, Nat.zero_le _⟩ (mid2 _ _) ?_
            obtain rfl := Option.some.inj hf
            exact hr _ _ dX5_score_79
          · have hf := iff_ h14 hf
            by_cases h17 : a1 = (4 : Int32)
            · have hf := ift h17 hf
              refine g_tableIn (off := 67) (tgt := 80) dX5_score_13 (by rw [h17] <;> decide) (by rw [h17] <;> decide) (by rw [h17] <;> decide) (by decide) ?_
              refine g_aload_n 0 dX5_score_80 rfl rfl ?_
              refine g_iload_n 2 dX5_score_81 rfl rfl ?_
              obtain ⟨v18, hc19, hf⟩ := obd_some hf
              refine g_callVl (ci := 5) (As := [.int a2]) (rest := []) (w2 := (wT cs ad v18.2)) 0 dX5_score_82 vX5_score_319 (c_X5_asChoose ad hty hc19) rfl (mid0 _) rfl rfl 0 wlaT_0 rfl (Nat.le_of_ble_eq_true rfl) ⟨Nat.zero_le _, Nat.zero_le _⟩ (mid2 _ _) ?_
              obtain rfl := Option.some.inj hf
              exact hr _ _ dX5_score_85
            · have hf := iff_ h17 hf
              by_cases h20 : a1 = (5 : Int32)
              · have hf := ift h20 hf
                refine g_tableIn (off := 73) (tgt := 86) dX5_score_13 (by rw [h20] <;> decide) (by rw [h20] <;> decide) (by rw [h20] <;> decide) (by decide) ?_
                refine g_aload_n 0 dX5_score_86 rfl rfl ?_
                refine g_iload_n 2 dX5_score_87 rfl rfl ?_
                obtain ⟨v21, hc22, hf⟩ := obd_some hf
                refine g_callVl (ci := 5) (As := [.int a2]) (rest := []) (w2 := (wT cs ad v21.2)) 0 dX5_score_88 vX5_score_322 (c_X5_asRound ad hty hc22) rfl (mid0 _) rfl rfl 0 wlaT_0 rfl (Nat.le_of_ble_eq_true rfl) ⟨Nat.zero_le _, Nat.zero_le _⟩ (mid2 _ _) ?_
                obtain rfl := Option.some.inj hf
                exact hr _ _ dX5_score_91
              · have hf := iff_ h20 hf
                by_cases h23 : a1 = (6 : Int32)
                · have hf := ift h23 hf
                  refine g_tableIn (off := 79) (tgt := 92) dX5_score_13 (by rw [h23] <;> decide) (by rw [h23] <;> decide) (by rw [h23] <;> decide) (by decide) ?_
                  refine g_aload_n 0 dX5_score_92 rfl rfl ?_
                  refine g_iload_n 2 dX5_score_93 rfl rfl ?_
                  obtain ⟨v24, hc25, hf⟩ := obd_some hf
                  refine g_callVl (ci := 5) (As := [.int a2]) (rest := []) (w2 := (wT cs ad v24.2)) 0 dX5_score_94 vX5_score_325 (c_X5_asTold ad hty hc25) rfl (mid0 _) rfl rfl 0 wlaT_0 rfl (Nat.le_of_ble_eq_true rfl) ⟨Nat.zero_le _, Nat.zero_le _⟩ (mid2 _ _) ?_
                  obtain rfl := Option.some.inj hf
                  exact hr _ _ dX5_score_97
                · have hf := iff_ h23 hf
                  have n_h5 := lv_neT (a := 0) h5 (by decide)
                  have n_h8 := lv_neT (a := 1) h8 (by decide)
                  have n_h11 := lv_neT (a := 2) h11 (by decide)
                  have n_h14 := lv_neT (a := 3) h14 (by decide)
                  have n_h17 := lv_neT (a := 4) h17 (by decide)
                  have n_h20 := lv_neT (a := 5) h20 (by decide)
                  have n_h23 := lv_neT (a := 6) h23 (by decide)
                  refine g_tableOut (tgt := 98) dX5_score_13 (by omega) (by decide) ?_
                  refine g_ldc2 (v := (-1000000000000000000 : Int64)) dX5_score_98 qX5_score_164 ?_
                  obtain rfl := Option.some.inj hf
                  exact hr _ _ dX5_score_101
  · have hf := ift h3 hf
    refine g_ldc2 (v := (-1000000000000000000 : Int64)) dX5_score_8 qX5_score_164 ?_
    obtain rfl := Option.some.inj hf
    exact hr _ _ dX5_score_11

-- ThumbScale keep (I)I
def rmX5_keep : Room := { frames := 1, cells := 0, slots := 0, locals := 22 }
def kX5_keep : MK := (cX5_keep, 2, RX5, wsX5_keep, (some .int), rmX5_keep)

set_option maxRecDepth 20000 in
theorem vX5_keep_77 : KS kX5_keep 77 yX5_within wsX5_within rmX5_within 3 := ⟨_, _, _, _, gX5_keep_X5_within, rfl, rfl, rfl, by decide +kernel, ⟨by decide, by decide⟩⟩
set_option maxRecDepth 20000 in
theorem jX5_keep_46 : Cond.fieldLink RX5 46 (TX5 7).1 (TX5 7).2.1 (TX5 7).2.2.1 ∈ wsX5_keep := by decide +kernel
set_option maxRecDepth 20000 in
theorem iX5_keep_X5 : ∀ x ∈ u_ws RX5 TX5 16, x ∈ wsX5_keep := by decide +kernel
set_option maxRecDepth 20000 in
theorem jX5_keep_38 : Cond.fieldLink RX5 38 (TX5 6).1 (TX5 6).2.1 (TX5 6).2.2.1 ∈ wsX5_keep := by decide +kernel
set_option maxRecDepth 20000 in
theorem vX5_keep_328 : KV kX5_keep 328 RX0 yX0_become wsX0_become rmX0_become 1 := ⟨_, _, _, _, gX5_keep_X0_become, rfl, rfl, rfl, by decide +kernel, ⟨by decide, by decide⟩⟩
set_option maxRecDepth 20000 in
theorem jX5_keep_50 : Cond.fieldLink RX5 50 (TX5 8).1 (TX5 8).2.1 (TX5 8).2.2.1 ∈ wsX5_keep := by decide +kernel
set_option maxRecDepth 20000 in
theorem jX5_keep_137 : Cond.fieldLink RX5 137 (TX0 0).1 (TX0 0).2.1 (TX0 0).2.2.1 ∈ wsX5_keep := by decide +kernel
set_option maxRecDepth 20000 in
theorem iX5_keep_X0 : ∀ x ∈ u_ws RX0 TX0 15, x ∈ wsX5_keep := by decide +kernel
def f_X5_keep (F : Nat) (s : ST) (a1 : Int32) : Option (Int32 × ST) :=
    obd (f_X5_within F a1 (0 : Int32) (1 : Int32)) (fun v1 =>
    (if v1 = 0 then
    some ((-1 : Int32), s)
    else
    (if a1 = (0 : Int32) then
    obd (f_X0_become_32_20 F s) (fun v4 =>
    ochi a1 2 (olt (uT_kept v4 (upd (T_kept v4) (Int32.toNatClampNeg a1) (vp_nar .boolean (1 : Int32)))) (fun s7 =>
    some ((B_bags (T_book s7)), s7))))
    else (if a1 = (1 : Int32) then
    obd (f_X0_become_42_20 F s) (fun v8 =>
    ochi a1 2 (olt (uT_kept v8 (upd (T_kept v8) (Int32.toNatClampNeg a1) (vp_nar .boolean (1 : Int32)))) (fun s11 =>
    some ((B_bags (T_book s11)), s11))))
    else none))))

set_option maxHeartbeats 4000000 in
set_option maxRecDepth 100000 in
theorem c_X5_keep {l : Launch} {D : va_G} {tys : List (ClassId × FieldType)} {X : XT} {cs : CS} (ad : Nat → Nat) {F : Nat} {s : ST} {a1 : Int32} {r : (Int32 × ST)} (htyM : tys = tyA cs) (hf : f_X5_keep F s a1 = some r) : Ci l D tys X yX5_keep wsX5_keep rmX5_keep [.ref (ad 0), .int a1] (wT cs ad s) r.1 (wT cs ad r.2) := by
  refine Ci_ofG (by decide +kernel) rfl (Nat.le_of_ble_eq_true rfl) .int rfl (vp_nar_int _) (fun E _ _ hty0 hX0 hr => ?_)
  have hty := hty0.trans htyM
  have hr : Ri E kX5_keep r.1 (wT cs ad r.2) := hr
  show G E kX5_keep 0 0 0 [(0, .ref (ad 0)), (1, .int a1)] [] (wT cs ad s)
  unfold f_X5_keep at hf
  refine g_iload_n 1 dX5_keep_0 rfl rfl ?_
  refine g_iconst (v := (0 : Int32)) dX5_keep_1 (by decide) ?_
  refine g_iconst (v := (1 : Int32)) dX5_keep_2 (by decide) ?_
  obtain ⟨v1, hc2, hf⟩ := obd_some hf
  refine g_callSi (As := [.int a1, .int (0 : Int32), .int (1 : Int32)]) (rest := []) (w2 := (wT cs ad s)) 0 dX5_keep_3 vX5_keep_77 (c_X5_within hty hc2) rfl (midm _) rfl (Nat.le_of_ble_eq_true rfl) ⟨Nat.zero_le _, Nat.zero_le _⟩ (midn _) ?_
  refine g_if_ne (tgt := 11) dX5_keep_6 (by decide) (fun h3 => ?_) (fun h3 => ?_)
  · have hf := iff_ h3 hf
    refine g_aload_n 0 dX5_keep_11 rfl rfl ?_
    refine g_get (ci := 5) (T := TX5) (N := 16) 0 7 (.ref (ad 30)) dX5_keep_12 iX5_keep_X5 rfl jX5_keep_46 (by decide) wlaT_0 rfl ?_
    refine g_iload_n 1 dX5_keep_15 rfl rfl ?_
    by_cases h12 : a1 = (0 : Int32)
    · have hf := ift h12 hf
      refine g_img (b := ad 32) 30 3 dX5_keep_16 wlaT_30 (tO hty) (vp_in_iff.mpr (by rw [h12]; decide)) (by rw [h12]; rfl) ?_
      refine g_aload_n 0 dX5_keep_17 rfl rfl ?_
      refine g_get (ci := 5) (T := TX5) (N := 16) 0 6 (.ref (ad 20)) dX5_keep_18 iX5_keep_X5 rfl jX5_keep_38 (by decide) wlaT_0 rfl ?_
      obtain ⟨v4, hc5, hf⟩ := obd_some hf
      refine g_callVv (ci := 0) (As := [.ref (ad 20)]) (rest := []) (w2 := (wT cs ad v4)) 0 dX5_keep_21 vX5_keep_328 (c_X0_become_32_20 ad hty hc5) rfl (mid0 _) rfl rfl 32 wlaT_32 rfl (Nat.le_of_ble_eq_true rfl) ⟨Nat.zero_le _, Nat.zero_le _⟩ (mid2 _ _) ?_
      refine g_aload_n 0 dX5_keep_24 rfl rfl ?_
      refine g_get (ci := 5) (T := TX5) (N := 16) 0 8 (.ref (ad 31)) dX5_keep_25 iX5_keep_X5 rfl jX5_keep_50 (by decide) wlaT_0 rfl ?_
      refine g_iload_n 1 dX5_keep_28 rfl rfl ?_
      refine g_iconst (v := (1 : Int32)) dX5_keep_29 (by decide) ?_
      obtain ⟨h6, hf⟩ := ochi_some hf
      obtain ⟨s7, e_s7, hf⟩ := olt_some hf
      refine g_zast (w2 := (wT cs ad s7)) 31 2 dX5_keep_30 wlaT_31 (tZ hty) h6 (wlsT_31.trans (congrArg (wT cs ad) e_s7)) ?_
      refine g_aload_n 0 dX5_keep_31 rfl rfl ?_
      refine g_get (ci := 5) (T := TX5) (N := 16) 0 6 (.ref (ad 20)) dX5_keep_32 iX5_keep_X5 rfl jX5_keep_38 (by decide) wlaT_0 rfl ?_
      refine g_get (ci := 0) (T := TX0) (N := 15) 20 0 (.int (B_bags (T_book s7))) dX5_keep_35 iX5_keep_X0 rfl jX5_keep_137 (by decide) wlaT_20 rfl ?_
      obtain rfl := Option.some.inj hf
      exact hr _ _ dX5_keep_38
    · have hf := iff_ h12 hf
      by_cases h13 : a1 = (1 : Int32)
      · have hf := ift h13 hf
        refine g_img (b := ad 42) 30 3 dX5_keep_16 wlaT_30 (tO hty) (vp_in_iff.mpr (by rw [h13]; decide)) (by rw [h13]; rfl) ?_
        refine g_aload_n 0 dX5_keep_17 rfl rfl ?_
        refine g_get (ci := 5) (T := TX5) (N := 16) 0 6 (.ref (ad 20)) dX5_keep_18 iX5_keep_X5 rfl jX5_keep_38 (by decide) wlaT_0 rfl ?_
        obtain ⟨v8, hc9, hf⟩ := obd_some hf
        refine g_callVv (ci := 0) (As := [.ref (ad 20)]) (rest := []) (w2 := (wT cs ad v8)) 0 dX5_keep_21 vX5_keep_328 (c_X0_become_42_20 ad hty hc9) rfl (mid0 _) rfl rfl 42 wlaT_42 rfl (Nat.le_of_ble_eq_true rfl) ⟨Nat.zero_le _, Nat.zero_le _⟩ (mid2 _ _) ?_
        refine g_aload_n 0 dX5_keep_24 rfl rfl ?_
        refine g_get (ci := 5) (T := TX5) (N := 16) 0 8 (.ref (ad 31)) dX5_keep_25 iX5_keep_X5 rfl jX5_keep_50 (by decide) wlaT_0 rfl ?_
        refine g_iload_n 1 dX5_keep_28 rfl rfl ?_
        refine g_iconst (v := (1 : Int32)) dX5_keep_29 (by decide) ?_
        obtain ⟨h10, hf⟩ := ochi_some hf
        obtain ⟨s11, e_s11, hf⟩ := olt_some hf
        refine g_zast (w2 := (wT cs ad s11)) 31 2 dX5_keep_30 wlaT_31 (tZ hty) h10 (wlsT_31.trans (congrArg (wT cs ad) e_s11)) ?_
        refine g_aload_n 0 dX5_keep_31 rfl rfl ?_
        refine g_get (ci := 5) (T := TX5) (N := 16) 0 6 (.ref (ad 20)) dX5_keep_32 iX5_keep_X5 rfl jX5_keep_38 (by decide) wlaT_0 rfl ?_
        refine g_get (ci := 0) (T := TX0) (N := 15) 20 0 (.int (B_bags (T_book s11))) dX5_keep_35 iX5_keep_X0 rfl jX5_keep_137 (by decide) wlaT_20 rfl ?_
        obtain rfl := Option.some.inj hf
        exact hr _ _ dX5_keep_38
      · have hf := iff_ h13 hf
        cases hf
  · have hf := ift h3 hf
    refine g_iconst (v := (-1 : Int32)) dX5_keep_9 (by decide) ?_
    obtain rfl := Option.some.inj hf
    exact hr _ _ dX5_keep_10

-- ThumbScale back (I)I
def rmX5_back : Room := { frames := 1, cells := 0, slots := 0, locals := 22 }
def kX5_back : MK := (cX5_back, 2, RX5, wsX5_back, (some .int), rmX5_back)

set_option maxRecDepth 20000 in
theorem vX5_back_77 : KS kX5_back 77 yX5_within wsX5_within rmX5_within 3 := ⟨_, _, _, _, gX5_back_X5_within, rfl, rfl, rfl, by decide +kernel, ⟨by decide, by decide⟩⟩
set_option maxRecDepth 20000 in
theorem jX5_back_50 : Cond.fieldLink RX5 50 (TX5 8).1 (TX5 8).2.1 (TX5 8).2.2.1 ∈ wsX5_back := by decide +kernel
set_option maxRecDepth 20000 in
theorem iX5_back_X5 : ∀ x ∈ u_ws RX5 TX5 16, x ∈ wsX5_back := by decide +kernel
set_option maxRecDepth 20000 in
theorem jX5_back_38 : Cond.fieldLink RX5 38 (TX5 6).1 (TX5 6).2.1 (TX5 6).2.2.1 ∈ wsX5_back := by decide +kernel
set_option maxRecDepth 20000 in
theorem jX5_back_46 : Cond.fieldLink RX5 46 (TX5 7).1 (TX5 7).2.1 (TX5 7).2.2.1 ∈ wsX5_back := by decide +kernel
set_option maxRecDepth 20000 in
theorem vX5_back_328 : KV kX5_back 328 RX0 yX0_become wsX0_become rmX0_become 1 := ⟨_, _, _, _, gX5_back_X0_become, rfl, rfl, rfl, by decide +kernel, ⟨by decide, by decide⟩⟩
set_option maxRecDepth 20000 in
theorem jX5_back_137 : Cond.fieldLink RX5 137 (TX0 0).1 (TX0 0).2.1 (TX0 0).2.2.1 ∈ wsX5_back := by decide +kernel
set_option maxRecDepth 20000 in
theorem iX5_back_X0 : ∀ x ∈ u_ws RX0 TX0 15, x ∈ wsX5_back := by decide +kernel
def f_X5_back (F : Nat) (s : ST) (a1 : Int32) : Option (Int32 × ST) :=
    obd (f_X5_within F a1 (0 : Int32) (1 : Int32)) (fun v1 =>
    (if v1 = 0 then
    some ((-1 : Int32), s)
    else
    ochi a1 2 (
    (if ((T_kept s) (Int32.toNatClampNeg a1)) = 0 then
    some ((-2 : Int32), s)
    else
    (if a1 = (0 : Int32) then
    obd (f_X0_become_20_32 F s) (fun v6 =>
    some ((B_bags (T_book v6)), v6))
    else (if a1 = (1 : Int32) then
    obd (f_X0_become_20_42 F s) (fun v8 =>
    some ((B_bags (T_book v8)), v8))
    else none))))))

set_option maxHeartbeats 4000000 in
set_option maxRecDepth 100000 in
theorem c_X5_back {l : Launch} {D : va_G} {tys : List (ClassId × FieldType)} {X : XT} {cs : CS} (ad : Nat → Nat) {F : Nat} {s : ST} {a1 : Int32} {r : (Int32 × ST)} (htyM : tys = tyA cs) (hf : f_X5_back F s a1 = some r) : Ci l D tys X yX5_back wsX5_back rmX5_back [.ref (ad 0), .int a1] (wT cs ad s) r.1 (wT cs ad r.2) := by
  refine Ci_ofG (by decide +kernel) rfl (Nat.le_of_ble_eq_true rfl) .int rfl (vp_nar_int _) (fun E _ _ hty0 hX0 hr => ?_)
  have hty := hty0.trans htyM
  have hr : Ri E kX5_back r.1 (wT cs ad r.2) := hr
  show G E kX5_back 0 0 0 [(0, .ref (ad 0)), (1, .int a1)] [] (wT cs ad s)
  unfold f_X5_back at hf
  refine g_iload_n 1 dX5_back_0 rfl rfl ?_
  refine g_iconst (v := (0 : Int32)) dX5_back_1 (by decide) ?_
  refine g_iconst (v := (1 : Int32)) dX5_back_2 (by decide) ?_
  obtain ⟨v1, hc2, hf⟩ := obd_some hf
  refine g_callSi (As := [.int a1, .int (0 : Int32), .int (1 : Int32)]) (rest := []) (w2 := (wT cs ad s)) 0 dX5_back_3 vX5_back_77 (c_X5_within hty hc2) rfl (midm _) rfl (Nat.le_of_ble_eq_true rfl) ⟨Nat.zero_le _, Nat.zero_le _⟩ (midn _) ?_
  refine g_if_ne (tgt := 11) dX5_back_6 (by decide) (fun h3 => ?_) (fun h3 => ?_)
  · have hf := iff_ h3 hf
    refine g_aload_n 0 dX5_back_11 rfl rfl ?_
    refine g_get (ci := 5) (T := TX5) (N := 16) 0 8 (.ref (ad 31)) dX5_back_12 iX5_back_X5 rfl jX5_back_50 (by decide) wlaT_0 rfl ?_
    refine g_iload_n 1 dX5_back_15 rfl rfl ?_
    obtain ⟨h4, hf⟩ := ochi_some hf
    refine g_zald 31 2 dX5_back_16 wlaT_31 (tZ hty) h4 ?_
    refine g_if_ne (tgt := 23) dX5_back_17 (by decide) (fun h5 => ?_) (fun h5 => ?_)
    · have hf := iff_ h5 hf
      refine g_aload_n 0 dX5_back_23 rfl rfl ?_
      refine g_get (ci := 5) (T := TX5) (N := 16) 0 6 (.ref (ad 20)) dX5_back_24 iX5_back_X5 rfl jX5_back_38 (by decide) wlaT_0 rfl ?_
      refine g_aload_n 0 dX5_back_27 rfl rfl ?_
      refine g_get (ci := 5) (T := TX5) (N := 16) 0 7 (.ref (ad 30)) dX5_back_28 iX5_back_X5 rfl jX5_back_46 (by decide) wlaT_0 rfl ?_
      refine g_iload_n 1 dX5_back_31 rfl rfl ?_
      by_cases h10 : a1 = (0 : Int32)
      · have hf := ift h10 hf
        refine g_img (b := ad 32) 30 3 dX5_back_32 wlaT_30 (tO hty) (vp_in_iff.mpr (by rw [h10]; decide)) (by rw [h10]; rfl) ?_
        obtain ⟨v6, hc7, hf⟩ := obd_some hf
        refine g_callVv (ci := 0) (As := [.ref (ad 32)]) (rest := []) (w2 := (wT cs ad v6)) 0 dX5_back_33 vX5_back_328 (c_X0_become_20_32 ad hty hc7) rfl (mid0 _) rfl rfl 20 wlaT_20 rfl (Nat.le_of_ble_eq_true rfl) ⟨Nat.zero_le _, Nat.zero_le _⟩ (mid2 _ _) ?_
        refine g_aload_n 0 dX5_back_36 rfl rfl ?_
        refine g_get (ci := 5) (T := TX5) (N := 16) 0 6 (.ref (ad 20)) dX5_back_37 iX5_back_X5 rfl jX5_back_38 (by decide) wlaT_0 rfl ?_
        refine g_get (ci := 0) (T := TX0) (N := 15) 20 0 (.int (B_bags (T_book v6))) dX5_back_40 iX5_back_X0 rfl jX5_back_137 (by decide) wlaT_20 rfl ?_
        obtain rfl := Option.some.inj hf
        exact hr _ _ dX5_back_43
      · have hf := iff_ h10 hf
        by_cases h11 : a1 = (1 : Int32)
        · have hf := ift h11 hf
          refine g_img (b := ad 42) 30 3 dX5_back_32 wlaT_30 (tO hty) (vp_in_iff.mpr (by rw [h11]; decide)) (by rw [h11]; rfl) ?_
          obtain ⟨v8, hc9, hf⟩ := obd_some hf
          refine g_callVv (ci := 0) (As := [.ref (ad 42)]) (rest := []) (w2 := (wT cs ad v8)) 0 dX5_back_33 vX5_back_328 (c_X0_become_20_42 ad hty hc9) rfl (mid0 _) rfl rfl 20 wlaT_20 rfl (Nat.le_of_ble_eq_true rfl) ⟨Nat.zero_le _, Nat.zero_le _⟩ (mid2 _ _) ?_
          refine g_aload_n 0 dX5_back_36 rfl rfl ?_
          refine g_get (ci := 5) (T := TX5) (N := 16) 0 6 (.ref (ad 20)) dX5_back_37 iX5_back_X5 rfl jX5_back_38 (by decide) wlaT_0 rfl ?_
          refine g_get (ci := 0) (T := TX0) (N := 15) 20 0 (.int (B_bags (T_book v8))) dX5_back_40 iX5_back_X0 rfl jX5_back_137 (by decide) wlaT_20 rfl ?_
          obtain rfl := Option.some.inj hf
          exact hr _ _ dX5_back_43
        · have hf := iff_ h11 hf
          cases hf
    · have hf := ift h5 hf
      refine g_bipush (v := (-2 : Int32)) dX5_back_20 (by decide) ?_
      obtain rfl := Option.some.inj hf
      exact hr _ _ dX5_back_22
  · have hf := ift h3 hf
    refine g_iconst (v := (-1 : Int32)) dX5_back_9 (by decide) ?_
    obtain rfl := Option.some.inj hf
    exact hr _ _ dX5_back_10

-- ThumbScale count (I)I
def rmX5_count : Room := { frames := 0, cells := 0, slots := 0, locals := 0 }
def kX5_count : MK := (cX5_count, 2, RX5, wsX5_count, (some .int), rmX5_count)

set_option maxRecDepth 20000 in
theorem jX5_count_16 : Cond.fieldLink RX5 16 (TX5 3).1 (TX5 3).2.1 (TX5 3).2.2.1 ∈ wsX5_count := by decide +kernel
set_option maxRecDepth 20000 in
theorem iX5_count_X5 : ∀ x ∈ u_ws RX5 TX5 16, x ∈ wsX5_count := by decide +kernel
set_option maxRecDepth 20000 in
theorem jX5_count_270 : Cond.fieldLink RX5 270 (TX2 3).1 (TX2 3).2.1 (TX2 3).2.2.1 ∈ wsX5_count := by decide +kernel
set_option maxRecDepth 20000 in
theorem iX5_count_X2 : ∀ x ∈ u_ws RX2 TX2 12, x ∈ wsX5_count := by decide +kernel
set_option maxRecDepth 20000 in
theorem jX5_count_230 : Cond.fieldLink RX5 230 (TX2 7).1 (TX2 7).2.1 (TX2 7).2.2.1 ∈ wsX5_count := by decide +kernel
set_option maxRecDepth 20000 in
theorem jX5_count_38 : Cond.fieldLink RX5 38 (TX5 6).1 (TX5 6).2.1 (TX5 6).2.2.1 ∈ wsX5_count := by decide +kernel
set_option maxRecDepth 20000 in
theorem jX5_count_137 : Cond.fieldLink RX5 137 (TX0 0).1 (TX0 0).2.1 (TX0 0).2.2.1 ∈ wsX5_count := by decide +kernel
set_option maxRecDepth 20000 in
theorem iX5_count_X0 : ∀ x ∈ u_ws RX0 TX0 15, x ∈ wsX5_count := by decide +kernel
set_option maxRecDepth 20000 in
theorem jX5_count_282 : Cond.fieldLink RX5 282 (TX0 7).1 (TX0 7).2.1 (TX0 7).2.2.1 ∈ wsX5_count := by decide +kernel
set_option maxRecDepth 20000 in
theorem jX5_count_81 : Cond.fieldLink RX5 81 (TX5 1).1 (TX5 1).2.1 (TX5 1).2.2.1 ∈ wsX5_count := by decide +kernel
set_option maxRecDepth 20000 in
theorem jX5_count_331 : Cond.fieldLink RX5 331 (TX2 0).1 (TX2 0).2.1 (TX2 0).2.2.1 ∈ wsX5_count := by decide +kernel
set_option maxRecDepth 20000 in
theorem jX5_count_279 : Cond.fieldLink RX5 279 (TX2 1).1 (TX2 1).2.1 (TX2 1).2.2.1 ∈ wsX5_count := by decide +kernel
set_option maxRecDepth 20000 in
theorem jX5_count_334 : Cond.fieldLink RX5 334 (TX2 2).1 (TX2 2).2.1 (TX2 2).2.2.1 ∈ wsX5_count := by decide +kernel
def f_X5_count (F : Nat) (s : ST) (a1 : Int32) : Option Int32 :=
    (if a1 = (0 : Int32) then
    some (M_stalls (T_market s))
    else
    (if a1 = (1 : Int32) then
    some (M_ways (T_market s))
    else
    (if a1 = (2 : Int32) then
    some (B_bags (T_book s))
    else
    (if a1 = (3 : Int32) then
    some (B_trials (T_book s))
    else
    (if a1 = (4 : Int32) then
    some (T_textLength s)
    else
    (if a1 = (5 : Int32) then
    some (M_less (T_market s))
    else
    (if a1 = (6 : Int32) then
    some (M_just (T_market s))
    else
    (if a1 = (7 : Int32) then
    some (M_more (T_market s))
    else
    some (-1 : Int32)))))))))

set_option maxHeartbeats 4000000 in
set_option maxRecDepth 100000 in
theorem c_X5_count {l : Launch} {D : va_G} {tys : List (ClassId × FieldType)} {X : XT} {cs : CS} (ad : Nat → Nat) {F : Nat} {s : ST} {a1 : Int32} {r : Int32} (htyM : tys = tyA cs) (hf : f_X5_count F s a1 = some r) : Ci l D tys X yX5_count wsX5_count rmX5_count [.ref (ad 0), .int a1] (wT cs ad s) r (wT cs ad s) := by
  refine Ci_ofG (by decide +kernel) rfl (Nat.le_of_ble_eq_true rfl) .int rfl (vp_nar_int _) (fun E _ _ hty0 hX0 hr => ?_)
  have hty := hty0.trans htyM
  have hr : Ri E kX5_count r (wT cs ad s) := hr
  show G E kX5_count 0 0 0 [(0, .ref (ad 0)), (1, .int a1)] [] (wT cs ad s)
  unfold f_X5_count at hf
  refine g_iload_n 1 dX5_count_0 rfl rfl ?_
  by_cases h2 : a1 = (0 : Int32)
  · have hf := ift h2 hf
    refine g_tableIn (off := 47) (tgt := 48) dX5_count_1 (by rw [h2] <;> decide) (by rw [h2] <;> decide) (by rw [h2] <;> decide) (by decide) ?_
    refine g_aload_n 0 dX5_count_48 rfl rfl ?_
    refine g_get (ci := 5) (T := TX5) (N := 16) 0 3 (.ref (ad 11)) dX5_count_49 iX5_count_X5 rfl jX5_count_16 (by decide) wlaT_0 rfl ?_
    refine g_get (ci := 2) (T := TX2) (N := 12) 11 3 (.int (M_stalls (T_market s))) dX5_count_52 iX5_count_X2 rfl jX5_count_270 (by decide) wlaT_11 rfl ?_
    obtain rfl := Option.some.inj hf
    exact hr _ _ dX5_count_55
  · have hf := iff_ h2 hf
    by_cases h3 : a1 = (1 : Int32)
    · have hf := ift h3 hf
      refine g_tableIn (off := 55) (tgt := 56) dX5_count_1 (by rw [h3] <;> decide) (by rw [h3] <;> decide) (by rw [h3] <;> decide) (by decide) ?_
      refine g_aload_n 0 dX5_count_56 rfl rfl ?_
      refine g_get (ci := 5) (T := TX5) (N := 16) 0 3 (.ref (ad 11)) dX5_count_57 iX5_count_X5 rfl jX5_count_16 (by decide) wlaT_0 rfl ?_
      refine g_get (ci := 2) (T := TX2) (N := 12) 11 7 (.int (M_ways (T_market s))) dX5_count_60 iX5_count_X2 rfl jX5_count_230 (by decide) wlaT_11 rfl ?_
      obtain rfl := Option.some.inj hf
      exact hr _ _ dX5_count_63
    · have hf := iff_ h3 hf
      by_cases h4 : a1 = (2 : Int32)
      · have hf := ift h4 hf
        refine g_tableIn (off := 63) (tgt := 64) dX5_count_1 (by rw [h4] <;> decide) (by rw [h4] <;> decide) (by rw [h4] <;> decide) (by decide) ?_
        refine g_aload_n 0 dX5_count_64 rfl rfl ?_
        refine g_get (ci := 5) (T := TX5) (N := 16) 0 6 (.ref (ad 20)) dX5_count_65 iX5_count_X5 rfl jX5_count_38 (by decide) wlaT_0 rfl ?_
        refine g_get (ci := 0) (T := TX0) (N := 15) 20 0 (.int (B_bags (T_book s))) dX5_count_68 iX5_count_X0 rfl jX5_count_137 (by decide) wlaT_20 rfl ?_
        obtain rfl := Option.some.inj hf
        exact hr _ _ dX5_count_71
      · have hf := iff_ h4 hf
        by_cases h5 : a1 = (3 : Int32)
        · have hf := ift h5 hf
          refine g_tableIn (off := 71) (tgt := 72) dX5_count_1 (by rw [h5] <;> decide) (by rw [h5] <;> decide) (by rw [h5] <;> decide) (by decide) ?_
          refine g_aload_n 0 dX5_count_72 rfl rfl ?_
          refine g_get (ci := 5) (T := TX5) (N := 16) 0 6 (.ref (ad 20)) dX5_count_73 iX5_count_X5 rfl jX5_count_38 (by decide) wlaT_0 rfl ?_
          refine g_get (ci := 0) (T := TX0) (N := 15) 20 7 (.int (B_trials (T_book s))) dX5_count_76 iX5_count_X0 rfl jX5_count_282 (by decide) wlaT_20 rfl ?_
          obtain rfl := Option.some.inj hf
          exact hr _ _ dX5_count_79
        · have hf := iff_ h5 hf
          by_cases h6 : a1 = (4 : Int32)
          · have hf := ift h6 hf
            refine g_tableIn (off := 79) (tgt := 80) dX5_count_1 (by rw [h6] <;> decide) (by rw [h6] <;> decide) (by rw [h6] <;> decide) (by decide) ?_
            refine g_aload_n 0 dX5_count_80 rfl rfl ?_
            refine g_get (ci := 5) (T := TX5) (N := 16) 0 1 (.int (T_textLength s)) dX5_count_81 iX5_count_X5 rfl jX5_count_81 (by decide) wlaT_0 rfl ?_
            obtain rfl := Option.some.inj hf
            exact hr _ _ dX5_count_84
          · have hf := iff_ h6 hf
            by_cases h7 : a1 = (5 : Int32)
            · have hf := ift h7 hf
              refine g_tableIn (off := 84) (tgt := 85) dX5_count_1 (by rw [h7] <;> decide) (by rw [h7] <;> decide) (by rw [h7] <;> decide) (by decide) ?_
              refine g_aload_n 0 dX5_count_85 rfl rfl ?_
              refine g_get (ci := 5) (T := TX5) (N := 16) 0 3 (.ref (ad 11)) dX5_count_86 iX5_count_X5 rfl jX5_count_16 (by decide) wlaT_0 rfl ?_
              refine g_get (ci := 2) (T := TX2) (N := 12) 11 0 (.int (M_less (T_market s))) dX5_count_89 iX5_count_X2 rfl jX5_count_331 (by decide) wlaT_11 rfl ?_
              obtain rfl := Option.some.inj hf
              exact hr _ _ dX5_count_92
            · have hf := iff_ h7 hf
              by_cases h8 : a1 = (6 : Int32)
              · have hf := ift h8 hf
                refine g_tableIn (off := 92) (tgt := 93) dX5_count_1 (by rw [h8] <;> decide) (by rw [h8] <;> decide) (by rw [h8] <;> decide) (by decide) ?_
                refine g_aload_n 0 dX5_count_93 rfl rfl ?_
                refine g_get (ci := 5) (T := TX5) (N := 16) 0 3 (.ref (ad 11)) dX5_count_94 iX5_count_X5 rfl jX5_count_16 (by decide) wlaT_0 rfl ?_
                refine g_get (ci := 2) (T := TX2) (N := 12) 11 1 (.int (M_just (T_market s))) dX5_count_97 iX5_count_X2 rfl jX5_count_279 (by decide) wlaT_11 rfl ?_
                obtain rfl := Option.some.inj hf
                exact hr _ _ dX5_count_100
              · have hf := iff_ h8 hf
                by_cases h9 : a1 = (7 : Int32)
                · have hf := ift h9 hf
                  refine g_tableIn (off := 100) (tgt := 101) dX5_count_1 (by rw [h9] <;> decide) (by rw [h9] <;> decide) (by rw [h9] <;> decide) (by decide) ?_
                  refine g_aload_n 0 dX5_count_101 rfl rfl ?_
                  refine g_get (ci := 5) (T := TX5) (N := 16) 0 3 (.ref (ad 11)) dX5_count_102 iX5_count_X5 rfl jX5_count_16 (by decide) wlaT_0 rfl ?_
                  refine g_get (ci := 2) (T := TX2) (N := 12) 11 2 (.int (M_more (T_market s))) dX5_count_105 iX5_count_X2 rfl jX5_count_334 (by decide) wlaT_11 rfl ?_
                  obtain rfl := Option.some.inj hf
                  exact hr _ _ dX5_count_108
                · have hf := iff_ h9 hf
                  have n_h2 := lv_neT (a := 0) h2 (by decide)
                  have n_h3 := lv_neT (a := 1) h3 (by decide)
                  have n_h4 := lv_neT (a := 2) h4 (by decide)
                  have n_h5 := lv_neT (a := 3) h5 (by decide)
                  have n_h6 := lv_neT (a := 4) h6 (by decide)
                  have n_h7 := lv_neT (a := 5) h7 (by decide)
                  have n_h8 := lv_neT (a := 6) h8 (by decide)
                  have n_h9 := lv_neT (a := 7) h9 (by decide)
                  refine g_tableOut (tgt := 109) dX5_count_1 (by omega) (by decide) ?_
                  refine g_iconst (v := (-1 : Int32)) dX5_count_109 (by decide) ?_
                  obtain rfl := Option.some.inj hf
                  exact hr _ _ dX5_count_110

-- ThumbScale trace ()J
def rmX5_trace : Room := { frames := 0, cells := 0, slots := 0, locals := 0 }
def kX5_trace : MK := (cX5_trace, 1, RX5, wsX5_trace, (some .long), rmX5_trace)

set_option maxRecDepth 20000 in
theorem jX5_trace_337 : Cond.fieldLink RX5 337 (TX5 15).1 (TX5 15).2.1 (TX5 15).2.2.1 ∈ wsX5_trace := by decide +kernel
set_option maxRecDepth 20000 in
theorem iX5_trace_X5 : ∀ x ∈ u_ws RX5 TX5 16, x ∈ wsX5_trace := by decide +kernel
def f_X5_trace (F : Nat) (s : ST) : Option Int64 :=
    some (T_traced s)

set_option maxHeartbeats 4000000 in
set_option maxRecDepth 100000 in
theorem c_X5_trace {l : Launch} {D : va_G} {tys : List (ClassId × FieldType)} {X : XT} {cs : CS} (ad : Nat → Nat) {F : Nat} {s : ST} {r : Int64} (htyM : tys = tyA cs) (hf : f_X5_trace F s = some r) : Cl l D tys X yX5_trace wsX5_trace rmX5_trace [.ref (ad 0)] (wT cs ad s) r (wT cs ad s) := by
  refine Cl_ofG (by decide +kernel) rfl (Nat.le_of_ble_eq_true rfl) (fun E _ _ hty0 hX0 hr => ?_)
  have hty := hty0.trans htyM
  have hr : Rl E kX5_trace r (wT cs ad s) := hr
  show G E kX5_trace 0 0 0 [(0, .ref (ad 0))] [] (wT cs ad s)
  unfold f_X5_trace at hf
  refine g_aload_n 0 dX5_trace_0 rfl rfl ?_
  refine g_get (ci := 5) (T := TX5) (N := 16) 0 15 (.long (T_traced s)) dX5_trace_1 iX5_trace_X5 rfl jX5_trace_337 (by decide) wlaT_0 rfl ?_
  obtain rfl := Option.some.inj hf
  exact hr _ _ dX5_trace_4
