-- ThumbScaleModel type (JI)I
def rmX6_type : Room := { frames := 1, cells := 0, slots := 0, locals := 22 }
def kX6_type : MK := (cX6_type, 5, RX6, wsX6_type, (some .int), rmX6_type)

set_option maxRecDepth 20000 in
theorem jX6_type_54 : Cond.fieldLink RX6 54 (TX6 0).1 (TX6 0).2.1 (TX6 0).2.2.1 ∈ wsX6_type := by decide +kernel
set_option maxRecDepth 20000 in
theorem iX6_type_X6 : ∀ x ∈ u_ws RX6 TX6 29, x ∈ wsX6_type := by decide +kernel
set_option maxRecDepth 20000 in
theorem vX6_type_61 : KS kX6_type 61 yX6_in wsX6_in rmX6_in 3 := ⟨_, _, _, _, gX6_type_X6_in, rfl, rfl, rfl, by decide +kernel, ⟨by decide, by decide⟩⟩
set_option maxRecDepth 20000 in
theorem jX6_type_76 : Cond.fieldLink RX6 76 (TX6 7).1 (TX6 7).2.1 (TX6 7).2.2.1 ∈ wsX6_type := by decide +kernel
set_option maxRecDepth 20000 in
theorem jX6_type_24 : Cond.fieldLink RX6 24 (TX6 6).1 (TX6 6).2.1 (TX6 6).2.2.1 ∈ wsX6_type := by decide +kernel
set_option maxRecDepth 20000 in
theorem qX6_type_79 : Cond.constantLong RX6 79 (255 : Int64) ∈ wsX6_type := by decide +kernel
def f_X6_type_L37 (F : Nat) (a1 : Int64) (a3 : Int32) : Nat → Int32 → SO → Option (Int32 × SO)
  | 0, _, _ => none
  | n + 1, x6, s7 =>
    (if x6 < 0 then
    some ((O_typed s7), s7)
    else
    olt (Int64.toInt32 ((a1 >>> (Int32.toInt64 ((8 : Int32) * x6) &&& 63)) &&& (255 : Int64))) (fun z9 =>
    ochi (O_typed s7) 400 (olt (uO_text s7 (upd (O_text s7) (Int32.toNatClampNeg (O_typed s7)) z9)) (fun s11 =>
    olt ((O_typed s11) + (1 : Int32)) (fun z12 =>
    olt (uO_typed s11 z12) (fun s13 =>
    f_X6_type_L37 F a1 a3 n (x6 + (-1)) s13))))))

def f_X6_type (F : Nat) (s : SO) (a1 : Int64) (a3 : Int32) : Option (Int32 × SO) :=
    olt (uO_thrown s (0 : Int32)) (fun s1 =>
    obd (f_X6_in F a3 (1 : Int32) (8 : Int32)) (fun v2 =>
    (if v2 = 0 then
    some ((-1 : Int32), s1)
    else
    (if ((O_typed s1) + a3) ≤ (400 : Int32) then
    f_X6_type_L37 F a1 a3 F (a3 - (1 : Int32)) s1
    else
    some ((-3 : Int32), s1)))))

set_option maxHeartbeats 4000000 in
set_option maxRecDepth 100000 in
theorem w_X6_type_L37 {E : GE} {cs : CS} {ad : Nat → Nat} {F : Nat} {a1 : Int64} {a3 : Int32} {r : (Int32 × SO)} (hty : eT E = tyA cs) (hr : Ri E kX6_type r.1 (wO cs ad r.2)) : ∀ (n : Nat) (x6 : Int32) (s7 : SO), f_X6_type_L37 F a1 a3 n x6 s7 = some r → G E kX6_type 0 0 37 [(0, .ref (ad 0)), (1, .long a1), (4, .int x6)] [] (wO cs ad s7) := by
  intro n
  induction n with
  | zero =>
    intro x6 s7 hf
    cases (show (none : Option (Int32 × SO)) = some r from hf)
  | succ n ih =>
    intro x6 s7 hf
    rw [f_X6_type_L37] at hf
    refine g_iload 2 dX6_type_37 rfl ?_
    refine g_if_lt (tgt := 79) dX6_type_39 (by decide) (fun h8 => ?_) (fun h8 => ?_)
    · have hf := ift h8 hf
      refine g_aload_n 0 dX6_type_79 rfl rfl ?_
      refine g_get (ci := 6) (T := TX6) (N := 29) 0 7 (.int (O_typed s7)) dX6_type_80 iX6_type_X6 rfl jX6_type_76 (by decide) wlaO_0 rfl ?_
      obtain rfl := Option.some.inj hf
      exact hr _ _ dX6_type_83
    · have hf := iff_ h8 hf
      refine g_aload_n 0 dX6_type_42 rfl rfl ?_
      refine g_get (ci := 6) (T := TX6) (N := 29) 0 6 (.ref (ad 5)) dX6_type_43 iX6_type_X6 rfl jX6_type_24 (by decide) wlaO_0 rfl ?_
      refine g_aload_n 0 dX6_type_46 rfl rfl ?_
      refine g_get (ci := 6) (T := TX6) (N := 29) 0 7 (.int (O_typed s7)) dX6_type_47 iX6_type_X6 rfl jX6_type_76 (by decide) wlaO_0 rfl ?_
      refine g_lload_n 1 dX6_type_50 rfl rfl ?_
      refine g_bipush (v := (8 : Int32)) dX6_type_51 (by decide) ?_
      refine g_iload 2 dX6_type_53 rfl ?_
      refine g_imul dX6_type_55 ?_
      refine g_lshr dX6_type_56 ?_
      refine g_ldc2 (v := (255 : Int64)) dX6_type_57 qX6_type_79 ?_
      refine g_land dX6_type_60 ?_
      refine g_l2i dX6_type_61 ?_
      obtain ⟨z9, e_z9, hf⟩ := olt_some hf
      refine g_cast rfl rfl (congrArg (fun q => Value.int q :: [.int (O_typed s7), .ref (ad 5)]) e_z9) rfl ?_
      obtain ⟨h10, hf⟩ := ochi_some hf
      obtain ⟨s11, e_s11, hf⟩ := olt_some hf
      refine g_iast (w2 := (wO cs ad s11)) 5 0 dX6_type_62 wlaO_5 (tI hty) h10 (wlsO_5.trans (congrArg (wO cs ad) e_s11)) ?_
      refine g_aload_n 0 dX6_type_63 rfl rfl ?_
      refine g_dup dX6_type_64 rfl ?_
      refine g_get (ci := 6) (T := TX6) (N := 29) 0 7 (.int (O_typed s11)) dX6_type_65 iX6_type_X6 rfl jX6_type_76 (by decide) wlaO_0 rfl ?_
      refine g_iconst (v := (1 : Int32)) dX6_type_68 (by decide) ?_
      refine g_iadd dX6_type_69 ?_
      obtain ⟨z12, e_z12, hf⟩ := olt_some hf
      refine g_cast rfl rfl (congrArg (fun q => Value.int q :: [.ref (ad 0)]) e_z12) rfl ?_
      obtain ⟨s13, e_s13, hf⟩ := olt_some hf
      refine g_put (ci := 6) (T := TX6) (N := 29) (ty := .int) (w2 := (wO cs ad s13)) 0 7 (.int z12) tyX6 dX6_type_70 iX6_type_X6 tyX6_ok nmX6 rfl jX6_type_76 (by decide) rfl rfl rfl rfl wlaO_0 (Nat.le_of_ble_eq_true rfl) (wlpO_0_7.trans (congrArg (wO cs ad) e_s13)) ?_
      refine g_iinc (lv2 := [(4, .int (x6 + (-1))), (0, .ref (ad 0)), (1, .long a1)]) 2 dX6_type_73 rfl (iim1 _) (by decide) rfl ?_
      refine g_goto (tgt := 37) dX6_type_76 (by decide) ?_
      exact g_sub [1, 2, 0] rfl (ih (x6 + (-1)) s13 hf)

set_option maxHeartbeats 4000000 in
set_option maxRecDepth 100000 in
theorem c_X6_type {l : Launch} {D : va_G} {tys : List (ClassId × FieldType)} {X : XT} {cs : CS} (ad : Nat → Nat) {F : Nat} {s : SO} {a1 : Int64} {a3 : Int32} {r : (Int32 × SO)} (htyM : tys = tyA cs) (hf : f_X6_type F s a1 a3 = some r) : Ci l D tys X yX6_type wsX6_type rmX6_type [.ref (ad 0), .long a1, .int a3] (wO cs ad s) r.1 (wO cs ad r.2) := by
  refine Ci_ofG (by decide +kernel) rfl (Nat.le_of_ble_eq_true rfl) .int rfl (vp_nar_int _) (fun E _ _ hty0 hX0 hr => ?_)
  have hty := hty0.trans htyM
  have hr : Ri E kX6_type r.1 (wO cs ad r.2) := hr
  show G E kX6_type 0 0 0 [(0, .ref (ad 0)), (1, .long a1), (3, .int a3)] [] (wO cs ad s)
  unfold f_X6_type at hf
  refine g_aload_n 0 dX6_type_0 rfl rfl ?_
  refine g_iconst (v := (0 : Int32)) dX6_type_1 (by decide) ?_
  obtain ⟨s1, e_s1, hf⟩ := olt_some hf
  refine g_put (ci := 6) (T := TX6) (N := 29) (ty := .int) (w2 := (wO cs ad s1)) 0 0 (.int (0 : Int32)) tyX6 dX6_type_2 iX6_type_X6 tyX6_ok nmX6 rfl jX6_type_54 (by decide) rfl rfl rfl rfl wlaO_0 (Nat.le_of_ble_eq_true rfl) (wlpO_0_0.trans (congrArg (wO cs ad) e_s1)) ?_
  refine g_iload_n 2 dX6_type_5 rfl rfl ?_
  refine g_iconst (v := (1 : Int32)) dX6_type_6 (by decide) ?_
  refine g_bipush (v := (8 : Int32)) dX6_type_7 (by decide) ?_
  obtain ⟨v2, hc3, hf⟩ := obd_some hf
  refine g_callSi (As := [.int a3, .int (1 : Int32), .int (8 : Int32)]) (rest := []) (w2 := (wO cs ad s1)) 0 dX6_type_9 vX6_type_61 (c_X6_in hty hc3) rfl (midm _) rfl (Nat.le_of_ble_eq_true rfl) ⟨Nat.zero_le _, Nat.zero_le _⟩ (midn _) ?_
  refine g_if_ne (tgt := 17) dX6_type_12 (by decide) (fun h4 => ?_) (fun h4 => ?_)
  · have hf := iff_ h4 hf
    refine g_aload_n 0 dX6_type_17 rfl rfl ?_
    refine g_get (ci := 6) (T := TX6) (N := 29) 0 7 (.int (O_typed s1)) dX6_type_18 iX6_type_X6 rfl jX6_type_76 (by decide) wlaO_0 rfl ?_
    refine g_iload_n 2 dX6_type_21 rfl rfl ?_
    refine g_iadd dX6_type_22 ?_
    refine g_sipush (v := (400 : Int32)) dX6_type_23 (by decide) ?_
    refine g_icmp_le (tgt := 32) dX6_type_26 (by decide) (fun h5 => ?_) (fun h5 => ?_)
    · have hf := ift h5 hf
      refine g_iload_n 2 dX6_type_32 rfl rfl ?_
      refine g_iconst (v := (1 : Int32)) dX6_type_33 (by decide) ?_
      refine g_isub dX6_type_34 ?_
      refine g_istore (lv2 := [(4, .int (a3 - (1 : Int32))), (0, .ref (ad 0)), (1, .long a1), (3, .int a3)]) dX6_type_35 (by decide) rfl ?_
      exact g_sub [1, 2, 0] rfl (w_X6_type_L37 hty hr F (a3 - (1 : Int32)) s1 hf)
    · have hf := iff_ h5 hf
      refine g_bipush (v := (-3 : Int32)) dX6_type_29 (by decide) ?_
      obtain rfl := Option.some.inj hf
      exact hr _ _ dX6_type_31
  · have hf := ift h4 hf
    refine g_iconst (v := (-1 : Int32)) dX6_type_15 (by decide) ?_
    obtain rfl := Option.some.inj hf
    exact hr _ _ dX6_type_16

-- ThumbScaleModel clear ()I
def rmX6_clear : Room := { frames := 0, cells := 0, slots := 0, locals := 0 }
def kX6_clear : MK := (cX6_clear, 2, RX6, wsX6_clear, (some .int), rmX6_clear)

set_option maxRecDepth 20000 in
theorem jX6_clear_54 : Cond.fieldLink RX6 54 (TX6 0).1 (TX6 0).2.1 (TX6 0).2.2.1 ∈ wsX6_clear := by decide +kernel
set_option maxRecDepth 20000 in
theorem iX6_clear_X6 : ∀ x ∈ u_ws RX6 TX6 29, x ∈ wsX6_clear := by decide +kernel
set_option maxRecDepth 20000 in
theorem jX6_clear_76 : Cond.fieldLink RX6 76 (TX6 7).1 (TX6 7).2.1 (TX6 7).2.2.1 ∈ wsX6_clear := by decide +kernel
def f_X6_clear (F : Nat) (s : SO) : Option (Int32 × SO) :=
    olt (uO_thrown s (0 : Int32)) (fun s1 =>
    olt (uO_typed s1 (0 : Int32)) (fun s2 =>
    some ((O_typed s1), s2)))

set_option maxHeartbeats 4000000 in
set_option maxRecDepth 100000 in
theorem c_X6_clear {l : Launch} {D : va_G} {tys : List (ClassId × FieldType)} {X : XT} {cs : CS} (ad : Nat → Nat) {F : Nat} {s : SO} {r : (Int32 × SO)} (htyM : tys = tyA cs) (hf : f_X6_clear F s = some r) : Ci l D tys X yX6_clear wsX6_clear rmX6_clear [.ref (ad 0)] (wO cs ad s) r.1 (wO cs ad r.2) := by
  refine Ci_ofG (by decide +kernel) rfl (Nat.le_of_ble_eq_true rfl) .int rfl (vp_nar_int _) (fun E _ _ hty0 hX0 hr => ?_)
  have hty := hty0.trans htyM
  have hr : Ri E kX6_clear r.1 (wO cs ad r.2) := hr
  show G E kX6_clear 0 0 0 [(0, .ref (ad 0))] [] (wO cs ad s)
  unfold f_X6_clear at hf
  refine g_aload_n 0 dX6_clear_0 rfl rfl ?_
  refine g_iconst (v := (0 : Int32)) dX6_clear_1 (by decide) ?_
  obtain ⟨s1, e_s1, hf⟩ := olt_some hf
  refine g_put (ci := 6) (T := TX6) (N := 29) (ty := .int) (w2 := (wO cs ad s1)) 0 0 (.int (0 : Int32)) tyX6 dX6_clear_2 iX6_clear_X6 tyX6_ok nmX6 rfl jX6_clear_54 (by decide) rfl rfl rfl rfl wlaO_0 (Nat.le_of_ble_eq_true rfl) (wlpO_0_0.trans (congrArg (wO cs ad) e_s1)) ?_
  refine g_aload_n 0 dX6_clear_5 rfl rfl ?_
  refine g_get (ci := 6) (T := TX6) (N := 29) 0 7 (.int (O_typed s1)) dX6_clear_6 iX6_clear_X6 rfl jX6_clear_76 (by decide) wlaO_0 rfl ?_
  refine g_istore_n (lv2 := [(1, .int (O_typed s1)), (0, .ref (ad 0))]) dX6_clear_9 rfl (by decide) rfl ?_
  refine g_aload_n 1 dX6_clear_10 rfl rfl ?_
  refine g_iconst (v := (0 : Int32)) dX6_clear_11 (by decide) ?_
  obtain ⟨s2, e_s2, hf⟩ := olt_some hf
  refine g_put (ci := 6) (T := TX6) (N := 29) (ty := .int) (w2 := (wO cs ad s2)) 0 7 (.int (0 : Int32)) tyX6 dX6_clear_12 iX6_clear_X6 tyX6_ok nmX6 rfl jX6_clear_76 (by decide) rfl rfl rfl rfl wlaO_0 (Nat.le_of_ble_eq_true rfl) (wlpO_0_7.trans (congrArg (wO cs ad) e_s2)) ?_
  refine g_iload_n 0 dX6_clear_15 rfl rfl ?_
  obtain rfl := Option.some.inj hf
  exact hr _ _ dX6_clear_16

-- ThumbScaleModel market ()I
def rmX6_market : Room := { frames := 7, cells := 0, slots := 0, locals := 163 }
def kX6_market : MK := (cX6_market, 5, RX6, wsX6_market, (some .int), rmX6_market)

set_option maxRecDepth 20000 in
theorem jX6_market_54 : Cond.fieldLink RX6 54 (TX6 0).1 (TX6 0).2.1 (TX6 0).2.2.1 ∈ wsX6_market := by decide +kernel
set_option maxRecDepth 20000 in
theorem iX6_market_X6 : ∀ x ∈ u_ws RX6 TX6 29, x ∈ wsX6_market := by decide +kernel
set_option maxRecDepth 20000 in
theorem vX6_market_143 : KV kX6_market 143 RX6 yX6_begins wsX6_begins rmX6_begins 0 := ⟨_, _, _, _, gX6_market_X6_begins, rfl, rfl, rfl, by decide +kernel, ⟨by decide, by decide⟩⟩
set_option maxRecDepth 20000 in
theorem vX6_market_118 : KV kX6_market 118 RX6 yX6_isWell wsX6_isWell rmX6_isWell 0 := ⟨_, _, _, _, gX6_market_X6_isWell, rfl, rfl, rfl, by decide +kernel, ⟨by decide, by decide⟩⟩
set_option maxRecDepth 20000 in
theorem jX6_market_133 : Cond.fieldLink RX6 133 (TX6 18).1 (TX6 18).2.1 (TX6 18).2.2.1 ∈ wsX6_market := by decide +kernel
set_option maxRecDepth 20000 in
theorem jX6_market_58 : Cond.fieldLink RX6 58 (TX6 16).1 (TX6 16).2.1 (TX6 16).2.2.1 ∈ wsX6_market := by decide +kernel
set_option maxRecDepth 20000 in
theorem jX6_market_136 : Cond.fieldLink RX6 136 (TX6 19).1 (TX6 19).2.1 (TX6 19).2.2.1 ∈ wsX6_market := by decide +kernel
set_option maxRecDepth 20000 in
theorem jX6_market_65 : Cond.fieldLink RX6 65 (TX6 17).1 (TX6 17).2.1 (TX6 17).2.2.1 ∈ wsX6_market := by decide +kernel
set_option maxRecDepth 20000 in
theorem jX6_market_7 : Cond.fieldLink RX6 7 (TX6 2).1 (TX6 2).2.1 (TX6 2).2.2.1 ∈ wsX6_market := by decide +kernel
set_option maxRecDepth 20000 in
theorem jX6_market_16 : Cond.fieldLink RX6 16 (TX6 4).1 (TX6 4).2.1 (TX6 4).2.2.1 ∈ wsX6_market := by decide +kernel
set_option maxRecDepth 20000 in
theorem jX6_market_76 : Cond.fieldLink RX6 76 (TX6 7).1 (TX6 7).2.1 (TX6 7).2.2.1 ∈ wsX6_market := by decide +kernel
set_option maxRecDepth 20000 in
theorem jX6_market_36 : Cond.fieldLink RX6 36 (TX6 20).1 (TX6 20).2.1 (TX6 20).2.2.1 ∈ wsX6_market := by decide +kernel
set_option maxRecDepth 20000 in
theorem jX6_market_33 : Cond.fieldLink RX6 33 (TX6 15).1 (TX6 15).2.1 (TX6 15).2.2.1 ∈ wsX6_market := by decide +kernel
set_option maxRecDepth 20000 in
theorem jX6_market_30 : Cond.fieldLink RX6 30 (TX6 14).1 (TX6 14).2.1 (TX6 14).2.2.1 ∈ wsX6_market := by decide +kernel
set_option maxRecDepth 20000 in
theorem jX6_market_27 : Cond.fieldLink RX6 27 (TX6 13).1 (TX6 13).2.1 (TX6 13).2.2.1 ∈ wsX6_market := by decide +kernel
set_option maxRecDepth 20000 in
theorem jX6_market_115 : Cond.fieldLink RX6 115 (TX6 12).1 (TX6 12).2.1 (TX6 12).2.2.1 ∈ wsX6_market := by decide +kernel
set_option maxRecDepth 20000 in
theorem jX6_market_105 : Cond.fieldLink RX6 105 (TX6 9).1 (TX6 9).2.1 (TX6 9).2.2.1 ∈ wsX6_market := by decide +kernel
set_option maxRecDepth 20000 in
theorem jX6_market_112 : Cond.fieldLink RX6 112 (TX6 11).1 (TX6 11).2.1 (TX6 11).2.2.1 ∈ wsX6_market := by decide +kernel
set_option maxRecDepth 20000 in
theorem vX6_market_125 : KV kX6_market 125 RX6 yX6_takes wsX6_takes rmX6_takes 1 := ⟨_, _, _, _, gX6_market_X6_takes, rfl, rfl, rfl, by decide +kernel, ⟨by decide, by decide⟩⟩
set_option maxRecDepth 20000 in
theorem vX6_market_152 : KV kX6_market 152 RX6 yX6_readsWay wsX6_readsWay rmX6_readsWay 0 := ⟨_, _, _, _, gX6_market_X6_readsWay, rfl, rfl, rfl, by decide +kernel, ⟨by decide, by decide⟩⟩
set_option maxRecDepth 20000 in
theorem vX6_market_149 : KV kX6_market 149 RX6 yX6_readsStall wsX6_readsStall rmX6_readsStall 0 := ⟨_, _, _, _, gX6_market_X6_readsStall, rfl, rfl, rfl, by decide +kernel, ⟨by decide, by decide⟩⟩
set_option maxRecDepth 20000 in
theorem vX6_market_146 : KV kX6_market 146 RX6 yX6_readsLuck wsX6_readsLuck rmX6_readsLuck 0 := ⟨_, _, _, _, gX6_market_X6_readsLuck, rfl, rfl, rfl, by decide +kernel, ⟨by decide, by decide⟩⟩
def f_X6_market_L350 (F : Nat) (x42 : Int32) : Nat → Int32 → SO → Option (Int32 × SO)
  | 0, _, _ => none
  | n + 1, x40, s41 =>
    (if (6 : Int32) ≤ x40 then
    olt (uO_typed s41 (0 : Int32)) (fun s44 =>
    some (x42, s44))
    else
    ochi x40 6 (olt (uO_beliefs s41 (upd (O_beliefs s41) (Int32.toNatClampNeg x40) (1 : Int32))) (fun s46 =>
    f_X6_market_L350 F x42 n (x40 + 1) s46)))

def f_X6_market_L266 (F : Nat) (x24 : Int32) : Nat → Int32 → SO → Option (Int32 × SO)
  | 0, _, _ => none
  | n + 1, x22, s23 =>
    (if (24 : Int32) ≤ x22 then
    olt (O_draftStalls s23) (fun z26 =>
    olt (uO_stalls s23 z26) (fun s27 =>
    olt (O_draftWays s27) (fun z28 =>
    olt (uO_ways s27 z28) (fun s29 =>
    ochi (0 : Int32) 264 (olt (uO_s s29 (upd (O_s s29) (Int32.toNatClampNeg (0 : Int32)) (0 : Int32))) (fun s31 =>
    ochi (181 : Int32) 264 (olt (uO_s s31 (upd (O_s s31) (Int32.toNatClampNeg (181 : Int32)) (0 : Int32))) (fun s33 =>
    ochi (262 : Int32) 264 (olt (uO_s s33 (upd (O_s s33) (Int32.toNatClampNeg (262 : Int32)) (0 : Int32))) (fun s35 =>
    ochi (0 : Int32) 2 (olt (uO_isKept s35 (upd (O_isKept s35) (Int32.toNatClampNeg (0 : Int32)) (vp_nar .boolean (0 : Int32)))) (fun s37 =>
    ochi (1 : Int32) 2 (olt (uO_isKept s37 (upd (O_isKept s37) (Int32.toNatClampNeg (1 : Int32)) (vp_nar .boolean (0 : Int32)))) (fun s39 =>
    f_X6_market_L350 F x24 F (0 : Int32) s39))))))))))))))
    else
    ochi ((24 : Int32) + x22) 48 (
    olt ((O_way s23) (Int32.toNatClampNeg ((24 : Int32) + x22))) (fun z48 =>
    ochi x22 48 (olt (uO_way s23 (upd (O_way s23) (Int32.toNatClampNeg x22) z48)) (fun s50 =>
    f_X6_market_L266 F x24 n (x22 + 1) s50)))))

def f_X6_market_L237 (F : Nat) (x20 : Int32) : Nat → Int32 → SO → Option (Int32 × SO)
  | 0, _, _ => none
  | n + 1, x18, s19 =>
    (if (18 : Int32) ≤ x18 then
    f_X6_market_L266 F x20 F (0 : Int32) s19
    else
    ochi ((18 : Int32) + x18) 36 (
    olt ((O_stall s19) (Int32.toNatClampNeg ((18 : Int32) + x18))) (fun z52 =>
    ochi x18 36 (olt (uO_stall s19 (upd (O_stall s19) (Int32.toNatClampNeg x18) z52)) (fun s54 =>
    f_X6_market_L237 F x20 n (x18 + 1) s54)))))

def f_X6_market_L210 (F : Nat) (x16 : Int32) : Nat → Int32 → SO → Option (Int32 × SO)
  | 0, _, _ => none
  | n + 1, x14, s15 =>
    (if (3 : Int32) ≤ x14 then
    f_X6_market_L237 F x16 F (0 : Int32) s15
    else
    ochi ((3 : Int32) + x14) 6 (
    olt ((O_luck s15) (Int32.toNatClampNeg ((3 : Int32) + x14))) (fun z56 =>
    ochi x14 6 (olt (uO_luck s15 (upd (O_luck s15) (Int32.toNatClampNeg x14) z56)) (fun s58 =>
    f_X6_market_L210 F x16 n (x14 + 1) s58)))))

def f_X6_market_L13 (F : Nat) : Nat → Int32 → Int32 → SO → Option (Int32 × SO)
  | 0, _, _, _ => none
  | n + 1, x4, x5, s6 =>
    obd (f_X6_isWell F s6) (fun v7 =>
    olt (fun (x9 : Int32) (s10 : SO) =>
    obd (f_X6_isWell F s10) (fun v11 =>
    (if v11 = 0 then
    some (((-10 : Int32) - (O_fault s10)), s10)
    else
    f_X6_market_L210 F x9 F (0 : Int32) s10))) (fun k59 =>
    (if v7 = 0 then
    k59 x4 s6
    else
    (if (O_token s6) = 0 then
    k59 x4 s6
    else
    obd ((if (O_value s6) = 0 then
    (if x5 = 0 then
    some (1 : Int32)
    else
    some (0 : Int32))
    else
    (if (O_value s6) = (1 : Int32) then
    (if (6 : Int32) ≤ (O_draftStalls s6) then
    some (0 : Int32)
    else
    some (1 : Int32))
    else
    (if (O_value s6) = (2 : Int32) then
    (if (6 : Int32) ≤ (O_draftWays s6) then
    some (0 : Int32)
    else
    some (1 : Int32))
    else
    some (0 : Int32))))) (fun v68 =>
    obd ((if (O_token s6) = (1 : Int32) then
    (if v68 = 0 then
    some (0 : Int32)
    else
    some (1 : Int32))
    else
    some (0 : Int32))) (fun v77 =>
    obd (f_X6_takes F s6 v77) (fun v80 =>
    obd (f_X6_isWell F v80.2) (fun v82 =>
    obd (olt (fun (x105 : Int32) (s106 : SO) =>
    obd (f_X6_isWell F s106) (fun v107 =>
    olt (fun (s109 : SO) =>
    obd (f_X6_isWell F s109) (fun v110 =>
    (if v110 = 0 then
    some (x105, s109)
    else
    obd (f_X6_readsWay F s109) (fun v113 =>
    some (x105, v113))))) (fun k115 =>
    (if v107 = 0 then
    k115 s106
    else
    (if v80.1 = (1 : Int32) then
    obd (f_X6_readsStall F s106) (fun v118 =>
    some (x105, v118))
    else
    k115 s106))))) (fun k120 =>
    (if v82 = 0 then
    k120 x5 v80.2
    else
    (if v80.1 = 0 then
    obd (f_X6_readsLuck F v80.2) (fun v123 =>
    some ((1 : Int32), v123))
    else
    k120 x5 v80.2)))) (fun v104 =>
    obd ((if (O_token v104.2) = (3 : Int32) then
    some (1 : Int32)
    else
    some (0 : Int32))) (fun v126 =>
    obd (f_X6_takes F v104.2 v126) (fun v128 =>
    f_X6_market_L13 F n (x4 + 1) v104.1 v128.2)))))))))))

def f_X6_market (F : Nat) (s : SO) : Option (Int32 × SO) :=
    olt (uO_thrown s (0 : Int32)) (fun s1 =>
    obd (f_X6_begins F s1) (fun v2 =>
    f_X6_market_L13 F F (0 : Int32) (0 : Int32) v2))

set_option maxHeartbeats 4000000 in
set_option maxRecDepth 100000 in
theorem w_X6_market_L350 {E : GE} {cs : CS} {ad : Nat → Nat} {F : Nat} {x42 : Int32} {r : (Int32 × SO)} (hty : eT E = tyA cs) (hr : Ri E kX6_market r.1 (wO cs ad r.2)) : ∀ (n : Nat) (x40 : Int32) (s41 : SO), f_X6_market_L350 F x42 n x40 s41 = some r → G E kX6_market 0 0 350 [(0, .ref (ad 0)), (1, .int x42), (3, .int x40)] [] (wO cs ad s41) := by
  intro n
  induction n with
  | zero =>
    intro x40 s41 hf
    cases (show (none : Option (Int32 × SO)) = some r from hf)
  | succ n ih =>
    intro x40 s41 hf
    rw [f_X6_market_L350] at hf
    refine g_iload_n 2 dX6_market_350 rfl rfl ?_
    refine g_bipush (v := (6 : Int32)) dX6_market_351 (by decide) ?_
    refine g_icmp_ge (tgt := 369) dX6_market_353 (by decide) (fun h43 => ?_) (fun h43 => ?_)
    · have hf := ift h43 hf
      refine g_aload_n 0 dX6_market_369 rfl rfl ?_
      refine g_iconst (v := (0 : Int32)) dX6_market_370 (by decide) ?_
      obtain ⟨s44, e_s44, hf⟩ := olt_some hf
      refine g_put (ci := 6) (T := TX6) (N := 29) (ty := .int) (w2 := (wO cs ad s44)) 0 7 (.int (0 : Int32)) tyX6 dX6_market_371 iX6_market_X6 tyX6_ok nmX6 rfl jX6_market_76 (by decide) rfl rfl rfl rfl wlaO_0 (Nat.le_of_ble_eq_true rfl) (wlpO_0_7.trans (congrArg (wO cs ad) e_s44)) ?_
      refine g_iload_n 1 dX6_market_374 rfl rfl ?_
      obtain rfl := Option.some.inj hf
      exact hr _ _ dX6_market_375
    · have hf := iff_ h43 hf
      refine g_aload_n 0 dX6_market_356 rfl rfl ?_
      refine g_get (ci := 6) (T := TX6) (N := 29) 0 20 (.ref (ad 9)) dX6_market_357 iX6_market_X6 rfl jX6_market_36 (by decide) wlaO_0 rfl ?_
      refine g_iload_n 2 dX6_market_360 rfl rfl ?_
      refine g_iconst (v := (1 : Int32)) dX6_market_361 (by decide) ?_
      obtain ⟨h45, hf⟩ := ochi_some hf
      obtain ⟨s46, e_s46, hf⟩ := olt_some hf
      refine g_iast (w2 := (wO cs ad s46)) 9 0 dX6_market_362 wlaO_9 (tI hty) h45 (wlsO_9.trans (congrArg (wO cs ad) e_s46)) ?_
      refine g_iinc (lv2 := [(3, .int (x40 + 1)), (0, .ref (ad 0)), (1, .int x42)]) 2 dX6_market_363 rfl (ii1 _) (by decide) rfl ?_
      refine g_goto (tgt := 350) dX6_market_366 (by decide) ?_
      exact g_sub [1, 2, 0] rfl (ih (x40 + 1) s46 hf)

set_option maxHeartbeats 4000000 in
set_option maxRecDepth 100000 in
theorem w_X6_market_L266 {E : GE} {cs : CS} {ad : Nat → Nat} {F : Nat} {x24 : Int32} {r : (Int32 × SO)} (hty : eT E = tyA cs) (hr : Ri E kX6_market r.1 (wO cs ad r.2)) : ∀ (n : Nat) (x22 : Int32) (s23 : SO), f_X6_market_L266 F x24 n x22 s23 = some r → G E kX6_market 0 0 266 [(0, .ref (ad 0)), (1, .int x24), (3, .int x22)] [] (wO cs ad s23) := by
  intro n
  induction n with
  | zero =>
    intro x22 s23 hf
    cases (show (none : Option (Int32 × SO)) = some r from hf)
  | succ n ih =>
    intro x22 s23 hf
    rw [f_X6_market_L266] at hf
    refine g_iload_n 2 dX6_market_266 rfl rfl ?_
    refine g_bipush (v := (24 : Int32)) dX6_market_267 (by decide) ?_
    refine g_icmp_ge (tgt := 293) dX6_market_269 (by decide) (fun h25 => ?_) (fun h25 => ?_)
    · have hf := ift h25 hf
      refine g_aload_n 0 dX6_market_293 rfl rfl ?_
      refine g_aload_n 0 dX6_market_294 rfl rfl ?_
      refine g_get (ci := 6) (T := TX6) (N := 29) 0 18 (.int (O_draftStalls s23)) dX6_market_295 iX6_market_X6 rfl jX6_market_133 (by decide) wlaO_0 rfl ?_
      obtain ⟨z26, e_z26, hf⟩ := olt_some hf
      refine g_cast rfl rfl (congrArg (fun q => Value.int q :: [.ref (ad 0)]) e_z26) rfl ?_
      obtain ⟨s27, e_s27, hf⟩ := olt_some hf
      refine g_put (ci := 6) (T := TX6) (N := 29) (ty := .int) (w2 := (wO cs ad s27)) 0 16 (.int z26) tyX6 dX6_market_298 iX6_market_X6 tyX6_ok nmX6 rfl jX6_market_58 (by decide) rfl rfl rfl rfl wlaO_0 (Nat.le_of_ble_eq_true rfl) (wlpO_0_16.trans (congrArg (wO cs ad) e_s27)) ?_
      refine g_aload_n 0 dX6_market_301 rfl rfl ?_
      refine g_aload_n 0 dX6_market_302 rfl rfl ?_
      refine g_get (ci := 6) (T := TX6) (N := 29) 0 19 (.int (O_draftWays s27)) dX6_market_303 iX6_market_X6 rfl jX6_market_136 (by decide) wlaO_0 rfl ?_
      obtain ⟨z28, e_z28, hf⟩ := olt_some hf
      refine g_cast rfl rfl (congrArg (fun q => Value.int q :: [.ref (ad 0)]) e_z28) rfl ?_
      obtain ⟨s29, e_s29, hf⟩ := olt_some hf
      refine g_put (ci := 6) (T := TX6) (N := 29) (ty := .int) (w2 := (wO cs ad s29)) 0 17 (.int z28) tyX6 dX6_market_306 iX6_market_X6 tyX6_ok nmX6 rfl jX6_market_65 (by decide) rfl rfl rfl rfl wlaO_0 (Nat.le_of_ble_eq_true rfl) (wlpO_0_17.trans (congrArg (wO cs ad) e_s29)) ?_
      refine g_aload_n 0 dX6_market_309 rfl rfl ?_
      refine g_get (ci := 6) (T := TX6) (N := 29) 0 2 (.ref (ad 1)) dX6_market_310 iX6_market_X6 rfl jX6_market_7 (by decide) wlaO_0 rfl ?_
      refine g_iconst (v := (0 : Int32)) dX6_market_313 (by decide) ?_
      refine g_iconst (v := (0 : Int32)) dX6_market_314 (by decide) ?_
      obtain ⟨h30, hf⟩ := ochi_some hf
      obtain ⟨s31, e_s31, hf⟩ := olt_some hf
      refine g_iast (w2 := (wO cs ad s31)) 1 0 dX6_market_315 wlaO_1 (tI hty) h30 (wlsO_1.trans (congrArg (wO cs ad) e_s31)) ?_
      refine g_aload_n 0 dX6_market_316 rfl rfl ?_
      refine g_get (ci := 6) (T := TX6) (N := 29) 0 2 (.ref (ad 1)) dX6_market_317 iX6_market_X6 rfl jX6_market_7 (by decide) wlaO_0 rfl ?_
      refine g_sipush (v := (181 : Int32)) dX6_market_320 (by decide) ?_
      refine g_iconst (v := (0 : Int32)) dX6_market_323 (by decide) ?_
      obtain ⟨h32, hf⟩ := ochi_some hf
      obtain ⟨s33, e_s33, hf⟩ := olt_some hf
      refine g_iast (w2 := (wO cs ad s33)) 1 0 dX6_market_324 wlaO_1 (tI hty) h32 (wlsO_1.trans (congrArg (wO cs ad) e_s33)) ?_
      refine g_aload_n 0 dX6_market_325 rfl rfl ?_
      refine g_get (ci := 6) (T := TX6) (N := 29) 0 2 (.ref (ad 1)) dX6_market_326 iX6_market_X6 rfl jX6_market_7 (by decide) wlaO_0 rfl ?_
      refine g_sipush (v := (262 : Int32)) dX6_market_329 (by decide) ?_
      refine g_iconst (v := (0 : Int32)) dX6_market_332 (by decide) ?_
      obtain ⟨h34, hf⟩ := ochi_some hf
      obtain ⟨s35, e_s35, hf⟩ := olt_some hf
      refine g_iast (w2 := (wO cs ad s35)) 1 0 dX6_market_333 wlaO_1 (tI hty) h34 (wlsO_1.trans (congrArg (wO cs ad) e_s35)) ?_
      refine g_aload_n 0 dX6_market_334 rfl rfl ?_
      refine g_get (ci := 6) (T := TX6) (N := 29) 0 4 (.ref (ad 3)) dX6_market_335 iX6_market_X6 rfl jX6_market_16 (by decide) wlaO_0 rfl ?_
      refine g_iconst (v := (0 : Int32)) dX6_market_338 (by decide) ?_
      refine g_iconst (v := (0 : Int32)) dX6_market_339 (by decide) ?_
      obtain ⟨h36, hf⟩ := ochi_some hf
      obtain ⟨s37, e_s37, hf⟩ := olt_some hf
      refine g_zast (w2 := (wO cs ad s37)) 3 2 dX6_market_340 wlaO_3 (tZ hty) h36 (wlsO_3.trans (congrArg (wO cs ad) e_s37)) ?_
      refine g_aload_n 0 dX6_market_341 rfl rfl ?_
      refine g_get (ci := 6) (T := TX6) (N := 29) 0 4 (.ref (ad 3)) dX6_market_342 iX6_market_X6 rfl jX6_market_16 (by decide) wlaO_0 rfl ?_
      refine g_iconst (v := (1 : Int32)) dX6_market_345 (by decide) ?_
      refine g_iconst (v := (0 : Int32)) dX6_market_346 (by decide) ?_
      obtain ⟨h38, hf⟩ := ochi_some hf
      obtain ⟨s39, e_s39, hf⟩ := olt_some hf
      refine g_zast (w2 := (wO cs ad s39)) 3 2 dX6_market_347 wlaO_3 (tZ hty) h38 (wlsO_3.trans (congrArg (wO cs ad) e_s39)) ?_
      refine g_iconst (v := (0 : Int32)) dX6_market_348 (by decide) ?_
      refine g_istore_n (lv2 := [(3, .int (0 : Int32)), (0, .ref (ad 0)), (1, .int x24)]) dX6_market_349 rfl (by decide) rfl ?_
      exact g_sub [1, 2, 0] rfl (w_X6_market_L350 hty hr F (0 : Int32) s39 hf)
    · have hf := iff_ h25 hf
      refine g_aload_n 0 dX6_market_272 rfl rfl ?_
      refine g_get (ci := 6) (T := TX6) (N := 29) 0 15 (.ref (ad 8)) dX6_market_273 iX6_market_X6 rfl jX6_market_33 (by decide) wlaO_0 rfl ?_
      refine g_iload_n 2 dX6_market_276 rfl rfl ?_
      refine g_aload_n 0 dX6_market_277 rfl rfl ?_
      refine g_get (ci := 6) (T := TX6) (N := 29) 0 15 (.ref (ad 8)) dX6_market_278 iX6_market_X6 rfl jX6_market_33 (by decide) wlaO_0 rfl ?_
      refine g_bipush (v := (24 : Int32)) dX6_market_281 (by decide) ?_
      refine g_iload_n 2 dX6_market_283 rfl rfl ?_
      refine g_iadd dX6_market_284 ?_
      obtain ⟨h47, hf⟩ := ochi_some hf
      refine g_iald 8 0 dX6_market_285 wlaO_8 (tI hty) h47 ?_
      obtain ⟨z48, e_z48, hf⟩ := olt_some hf
      refine g_cast rfl rfl (congrArg (fun q => Value.int q :: [.int x22, .ref (ad 8)]) e_z48) rfl ?_
      obtain ⟨h49, hf⟩ := ochi_some hf
      obtain ⟨s50, e_s50, hf⟩ := olt_some hf
      refine g_iast (w2 := (wO cs ad s50)) 8 0 dX6_market_286 wlaO_8 (tI hty) h49 (wlsO_8.trans (congrArg (wO cs ad) e_s50)) ?_
      refine g_iinc (lv2 := [(3, .int (x22 + 1)), (0, .ref (ad 0)), (1, .int x24)]) 2 dX6_market_287 rfl (ii1 _) (by decide) rfl ?_
      refine g_goto (tgt := 266) dX6_market_290 (by decide) ?_
      exact g_sub [1, 2, 0] rfl (ih (x22 + 1) s50 hf)

set_option maxHeartbeats 4000000 in
set_option maxRecDepth 100000 in
theorem w_X6_market_L237 {E : GE} {cs : CS} {ad : Nat → Nat} {F : Nat} {x20 : Int32} {r : (Int32 × SO)} (hty : eT E = tyA cs) (hr : Ri E kX6_market r.1 (wO cs ad r.2)) : ∀ (n : Nat) (x18 : Int32) (s19 : SO), f_X6_market_L237 F x20 n x18 s19 = some r → G E kX6_market 0 0 237 [(0, .ref (ad 0)), (1, .int x20), (3, .int x18)] [] (wO cs ad s19) := by
  intro n
  induction n with
  | zero =>
    intro x18 s19 hf
    cases (show (none : Option (Int32 × SO)) = some r from hf)
  | succ n ih =>
    intro x18 s19 hf
    rw [f_X6_market_L237] at hf
    refine g_iload_n 2 dX6_market_237 rfl rfl ?_
    refine g_bipush (v := (18 : Int32)) dX6_market_238 (by decide) ?_
    refine g_icmp_ge (tgt := 264) dX6_market_240 (by decide) (fun h21 => ?_) (fun h21 => ?_)
    · have hf := ift h21 hf
      refine g_iconst (v := (0 : Int32)) dX6_market_264 (by decide) ?_
      refine g_istore_n (lv2 := [(3, .int (0 : Int32)), (0, .ref (ad 0)), (1, .int x20)]) dX6_market_265 rfl (by decide) rfl ?_
      exact g_sub [1, 2, 0] rfl (w_X6_market_L266 hty hr F (0 : Int32) s19 hf)
    · have hf := iff_ h21 hf
      refine g_aload_n 0 dX6_market_243 rfl rfl ?_
      refine g_get (ci := 6) (T := TX6) (N := 29) 0 14 (.ref (ad 7)) dX6_market_244 iX6_market_X6 rfl jX6_market_30 (by decide) wlaO_0 rfl ?_
      refine g_iload_n 2 dX6_market_247 rfl rfl ?_
      refine g_aload_n 0 dX6_market_248 rfl rfl ?_
      refine g_get (ci := 6) (T := TX6) (N := 29) 0 14 (.ref (ad 7)) dX6_market_249 iX6_market_X6 rfl jX6_market_30 (by decide) wlaO_0 rfl ?_
      refine g_bipush (v := (18 : Int32)) dX6_market_252 (by decide) ?_
      refine g_iload_n 2 dX6_market_254 rfl rfl ?_
      refine g_iadd dX6_market_255 ?_
      obtain ⟨h51, hf⟩ := ochi_some hf
      refine g_iald 7 0 dX6_market_256 wlaO_7 (tI hty) h51 ?_
      obtain ⟨z52, e_z52, hf⟩ := olt_some hf
      refine g_cast rfl rfl (congrArg (fun q => Value.int q :: [.int x18, .ref (ad 7)]) e_z52) rfl ?_
      obtain ⟨h53, hf⟩ := ochi_some hf
      obtain ⟨s54, e_s54, hf⟩ := olt_some hf
      refine g_iast (w2 := (wO cs ad s54)) 7 0 dX6_market_257 wlaO_7 (tI hty) h53 (wlsO_7.trans (congrArg (wO cs ad) e_s54)) ?_
      refine g_iinc (lv2 := [(3, .int (x18 + 1)), (0, .ref (ad 0)), (1, .int x20)]) 2 dX6_market_258 rfl (ii1 _) (by decide) rfl ?_
      refine g_goto (tgt := 237) dX6_market_261 (by decide) ?_
      exact g_sub [1, 2, 0] rfl (ih (x18 + 1) s54 hf)

set_option maxHeartbeats 4000000 in
set_option maxRecDepth 100000 in
theorem w_X6_market_L210 {E : GE} {cs : CS} {ad : Nat → Nat} {F : Nat} {x16 : Int32} {r : (Int32 × SO)} (hty : eT E = tyA cs) (hr : Ri E kX6_market r.1 (wO cs ad r.2)) : ∀ (n : Nat) (x14 : Int32) (s15 : SO), f_X6_market_L210 F x16 n x14 s15 = some r → G E kX6_market 0 0 210 [(0, .ref (ad 0)), (1, .int x16), (3, .int x14)] [] (wO cs ad s15) := by
  intro n
  induction n with
  | zero =>
    intro x14 s15 hf
    cases (show (none : Option (Int32 × SO)) = some r from hf)
  | succ n ih =>
    intro x14 s15 hf
    rw [f_X6_market_L210] at hf
    refine g_iload_n 2 dX6_market_210 rfl rfl ?_
    refine g_iconst (v := (3 : Int32)) dX6_market_211 (by decide) ?_
    refine g_icmp_ge (tgt := 235) dX6_market_212 (by decide) (fun h17 => ?_) (fun h17 => ?_)
    · have hf := ift h17 hf
      refine g_iconst (v := (0 : Int32)) dX6_market_235 (by decide) ?_
      refine g_istore_n (lv2 := [(3, .int (0 : Int32)), (0, .ref (ad 0)), (1, .int x16)]) dX6_market_236 rfl (by decide) rfl ?_
      exact g_sub [1, 2, 0] rfl (w_X6_market_L237 hty hr F (0 : Int32) s15 hf)
    · have hf := iff_ h17 hf
      refine g_aload_n 0 dX6_market_215 rfl rfl ?_
      refine g_get (ci := 6) (T := TX6) (N := 29) 0 13 (.ref (ad 6)) dX6_market_216 iX6_market_X6 rfl jX6_market_27 (by decide) wlaO_0 rfl ?_
      refine g_iload_n 2 dX6_market_219 rfl rfl ?_
      refine g_aload_n 0 dX6_market_220 rfl rfl ?_
      refine g_get (ci := 6) (T := TX6) (N := 29) 0 13 (.ref (ad 6)) dX6_market_221 iX6_market_X6 rfl jX6_market_27 (by decide) wlaO_0 rfl ?_
      refine g_iconst (v := (3 : Int32)) dX6_market_224 (by decide) ?_
      refine g_iload_n 2 dX6_market_225 rfl rfl ?_
      refine g_iadd dX6_market_226 ?_
      obtain ⟨h55, hf⟩ := ochi_some hf
      refine g_iald 6 0 dX6_market_227 wlaO_6 (tI hty) h55 ?_
      obtain ⟨z56, e_z56, hf⟩ := olt_some hf
      refine g_cast rfl rfl (congrArg (fun q => Value.int q :: [.int x14, .ref (ad 6)]) e_z56) rfl ?_
      obtain ⟨h57, hf⟩ := ochi_some hf
      obtain ⟨s58, e_s58, hf⟩ := olt_some hf
      refine g_iast (w2 := (wO cs ad s58)) 6 0 dX6_market_228 wlaO_6 (tI hty) h57 (wlsO_6.trans (congrArg (wO cs ad) e_s58)) ?_
      refine g_iinc (lv2 := [(3, .int (x14 + 1)), (0, .ref (ad 0)), (1, .int x16)]) 2 dX6_market_229 rfl (ii1 _) (by decide) rfl ?_
      refine g_goto (tgt := 210) dX6_market_232 (by decide) ?_
      exact g_sub [1, 2, 0] rfl (ih (x14 + 1) s58 hf)

set_option maxHeartbeats 4000000 in
set_option maxRecDepth 100000 in
theorem w_X6_market_L13 {E : GE} {cs : CS} {ad : Nat → Nat} {F : Nat} {r : (Int32 × SO)} (hty : eT E = tyA cs) (hr : Ri E kX6_market r.1 (wO cs ad r.2)) : ∀ (n : Nat) (x4 : Int32) (x5 : Int32) (s6 : SO), f_X6_market_L13 F n x4 x5 s6 = some r → G E kX6_market 0 0 13 [(0, .ref (ad 0)), (1, .int x4), (2, .int x5)] [] (wO cs ad s6) := by
  intro n
  induction n with
  | zero =>
    intro x4 x5 s6 hf
    cases (show (none : Option (Int32 × SO)) = some r from hf)
  | succ n ih =>
    intro x4 x5 s6 hf
    rw [f_X6_market_L13] at hf
    refine g_aload_n 0 dX6_market_13 rfl rfl ?_
    obtain ⟨v7, hc8, hf⟩ := obd_some hf
    refine g_callVi (ci := 6) (As := []) (rest := []) (w2 := (wO cs ad s6)) 0 dX6_market_14 vX6_market_118 (c_X6_isWell ad hty hc8) rfl (mid0 _) rfl rfl 0 wlaO_0 rfl (Nat.le_of_ble_eq_true rfl) ⟨Nat.zero_le _, Nat.zero_le _⟩ (mid2 _ _) ?_
    obtain ⟨k59, e_k59, hf⟩ := olt_some hf
    have K_k59 : ∀ (x9 : Int32) (s10 : SO), k59 x9 s10 = some r → G E kX6_market 0 0 193 [(0, .ref (ad 0)), (1, .int x9)] [] (wO cs ad s10) := by
      intro x9 s10 hf
      rw [← e_k59] at hf
      refine g_aload_n 0 dX6_market_193 rfl rfl ?_
      obtain ⟨v11, hc12, hf⟩ := obd_some hf
      refine g_callVi (ci := 6) (As := []) (rest := []) (w2 := (wO cs ad s10)) 0 dX6_market_194 vX6_market_118 (c_X6_isWell ad hty hc12) rfl (mid0 _) rfl rfl 0 wlaO_0 rfl (Nat.le_of_ble_eq_true rfl) ⟨Nat.zero_le _, Nat.zero_le _⟩ (mid2 _ _) ?_
      refine g_if_ne (tgt := 208) dX6_market_197 (by decide) (fun h13 => ?_) (fun h13 => ?_)
      · have hf := iff_ h13 hf
        refine g_iconst (v := (0 : Int32)) dX6_market_208 (by decide) ?_
        refine g_istore_n (lv2 := [(3, .int (0 : Int32)), (0, .ref (ad 0)), (1, .int x9)]) dX6_market_209 rfl (by decide) rfl ?_
        exact g_sub [1, 2, 0] rfl (w_X6_market_L210 hty hr F (0 : Int32) s10 hf)
      · have hf := ift h13 hf
        refine g_bipush (v := (-10 : Int32)) dX6_market_200 (by decide) ?_
        refine g_aload_n 0 dX6_market_202 rfl rfl ?_
        refine g_get (ci := 6) (T := TX6) (N := 29) 0 12 (.int (O_fault s10)) dX6_market_203 iX6_market_X6 rfl jX6_market_115 (by decide) wlaO_0 rfl ?_
        refine g_isub dX6_market_206 ?_
        obtain rfl := Option.some.inj hf
        exact hr _ _ dX6_market_207
    refine g_if_eq (tgt := 193) dX6_market_17 (by decide) (fun h60 => ?_) (fun h60 => ?_)
    · have hf := ift h60 hf
      exact g_sub [0, 1] rfl (K_k59 x4 s6 hf)
    · have hf := iff_ h60 hf
      refine g_aload_n 0 dX6_market_20 rfl rfl ?_
      refine g_get (ci := 6) (T := TX6) (N := 29) 0 9 (.int (O_token s6)) dX6_market_21 iX6_market_X6 rfl jX6_market_105 (by decide) wlaO_0 rfl ?_
      refine g_if_eq (tgt := 193) dX6_market_24 (by decide) (fun h61 => ?_) (fun h61 => ?_)
      · have hf := ift h61 hf
        exact g_sub [0, 1] rfl (K_k59 x4 s6 hf)
      · have hf := iff_ h61 hf
        refine g_aload_n 0 dX6_market_27 rfl rfl ?_
        refine g_get (ci := 6) (T := TX6) (N := 29) 0 11 (.int (O_value s6)) dX6_market_28 iX6_market_X6 rfl jX6_market_112 (by decide) wlaO_0 rfl ?_
        obtain ⟨v68, hE_v68, hf⟩ := obd_some hf
        have J_v68 : G E kX6_market 0 0 93 [(0, .ref (ad 0)), (1, .int x4), (2, .int x5)] [.int v68] (wO cs ad s6) := by
          refine g_istore_n (lv2 := [(3, .int v68), (0, .ref (ad 0)), (1, .int x4), (2, .int x5)]) dX6_market_93 rfl (by decide) rfl ?_
          refine g_aload_n 1 dX6_market_94 rfl rfl ?_
          refine g_aload_n 1 dX6_market_95 rfl rfl ?_
          refine g_get (ci := 6) (T := TX6) (N := 29) 0 9 (.int (O_token s6)) dX6_market_96 iX6_market_X6 rfl jX6_market_105 (by decide) wlaO_0 rfl ?_
          refine g_iconst (v := (1 : Int32)) dX6_market_99 (by decide) ?_
          obtain ⟨v77, hE_v77, hf⟩ := obd_some hf
          have J_v77 : G E kX6_market 0 0 112 [(0, .ref (ad 0)), (1, .int x4), (2, .int x5)] [.int v77, .ref (ad 0)] (wO cs ad s6) := by
            obtain ⟨v80, hc81, hf⟩ := obd_some hf
            refine g_callVi (ci := 6) (As := [.int v77]) (rest := []) (w2 := (wO cs ad v80.2)) 0 dX6_market_112 vX6_market_125 (c_X6_takes ad hty hc81) rfl (mid0 _) rfl rfl 0 wlaO_0 rfl (Nat.le_of_ble_eq_true rfl) ⟨Nat.zero_le _, Nat.zero_le _⟩ (mid2 _ _) ?_
            refine g_istore (lv2 := [(4, .int v80.1), (0, .ref (ad 0)), (1, .int x4), (2, .int x5)]) dX6_market_115 (by decide) rfl ?_
            refine g_aload_n 1 dX6_market_117 rfl rfl ?_
            obtain ⟨v82, hc83, hf⟩ := obd_some hf
            refine g_callVi (ci := 6) (As := []) (rest := []) (w2 := (wO cs ad v80.2)) 0 dX6_market_118 vX6_market_118 (c_X6_isWell ad hty hc83) rfl (mid0 _) rfl rfl 0 wlaO_0 rfl (Nat.le_of_ble_eq_true rfl) ⟨Nat.zero_le _, Nat.zero_le _⟩ (mid2 _ _) ?_
            obtain ⟨v104, hE_v104, hf⟩ := obd_some hf
            have J_v104 : G E kX6_market 0 0 169 [(0, .ref (ad 0)), (1, .int x4), (2, .int v104.1)] [] (wO cs ad v104.2) := by
              refine g_aload_n 0 dX6_market_169 rfl rfl ?_
              refine g_aload_n 0 dX6_market_170 rfl rfl ?_
              refine g_get (ci := 6) (T := TX6) (N := 29) 0 9 (.int (O_token v104.2)) dX6_market_171 iX6_market_X6 rfl jX6_market_105 (by decide) wlaO_0 rfl ?_
              refine g_iconst (v := (3 : Int32)) dX6_market_174 (by decide) ?_
              obtain ⟨v126, hE_v126, hf⟩ := obd_some hf
              have J_v126 : G E kX6_market 0 0 183 [(0, .ref (ad 0)), (1, .int x4), (2, .int v104.1)] [.int v126, .ref (ad 0)] (wO cs ad v104.2) := by
                obtain ⟨v128, hc129, hf⟩ := obd_some hf
                refine g_callVi (ci := 6) (As := [.int v126]) (rest := []) (w2 := (wO cs ad v128.2)) 0 dX6_market_183 vX6_market_125 (c_X6_takes ad hty hc129) rfl (mid0 _) rfl rfl 0 wlaO_0 rfl (Nat.le_of_ble_eq_true rfl) ⟨Nat.zero_le _, Nat.zero_le _⟩ (mid2 _ _) ?_
                refine g_pop dX6_market_186 rfl ?_
                refine g_iinc (lv2 := [(1, .int (x4 + 1)), (0, .ref (ad 0)), (2, .int v104.1)]) 1 dX6_market_187 rfl (ii1 _) (by decide) rfl ?_
                refine g_goto (tgt := 13) dX6_market_190 (by decide) ?_
                exact g_sub [1, 0, 2] rfl (ih (x4 + 1) v104.1 v128.2 hf)
              have hf := hE_v126
              refine g_icmp_ne (tgt := 182) dX6_market_175 (by decide) (fun h127 => ?_) (fun h127 => ?_)
              · have hf := iff_ h127 hf
                refine g_iconst (v := (0 : Int32)) dX6_market_182 (by decide) ?_
                obtain rfl := Option.some.inj hf
                exact g_sub [0, 1, 2] rfl J_v126
              · have hf := ift h127 hf
                refine g_iconst (v := (1 : Int32)) dX6_market_178 (by decide) ?_
                refine g_goto (tgt := 183) dX6_market_179 (by decide) ?_
                obtain rfl := Option.some.inj hf
                exact g_sub [0, 1, 2] rfl J_v126
            have hf := hE_v104
            obtain ⟨k120, e_k120, hf⟩ := olt_some hf
            have K_k120 : ∀ (x105 : Int32) (s106 : SO), k120 x105 s106 = some v104 → G E kX6_market 0 0 138 [(0, .ref (ad 0)), (1, .int x4), (2, .int x105), (4, .int v80.1)] [] (wO cs ad s106) := by
              intro x105 s106 hf
              rw [← e_k120] at hf
              refine g_aload_n 0 dX6_market_138 rfl rfl ?_
              obtain ⟨v107, hc108, hf⟩ := obd_some hf
              refine g_callVi (ci := 6) (As := []) (rest := []) (w2 := (wO cs ad s106)) 0 dX6_market_139 vX6_market_118 (c_X6_isWell ad hty hc108) rfl (mid0 _) rfl rfl 0 wlaO_0 rfl (Nat.le_of_ble_eq_true rfl) ⟨Nat.zero_le _, Nat.zero_le _⟩ (mid2 _ _) ?_
              obtain ⟨k115, e_k115, hf⟩ := olt_some hf
              have K_k115 : ∀ (s109 : SO), k115 s109 = some v104 → G E kX6_market 0 0 158 [(0, .ref (ad 0)), (1, .int x4), (2, .int x105)] [] (wO cs ad s109) := by
                intro s109 hf
                rw [← e_k115] at hf
                refine g_aload_n 0 dX6_market_158 rfl rfl ?_
                obtain ⟨v110, hc111, hf⟩ := obd_some hf
                refine g_callVi (ci := 6) (As := []) (rest := []) (w2 := (wO cs ad s109)) 0 dX6_market_159 vX6_market_118 (c_X6_isWell ad hty hc111) rfl (mid0 _) rfl rfl 0 wlaO_0 rfl (Nat.le_of_ble_eq_true rfl) ⟨Nat.zero_le _, Nat.zero_le _⟩ (mid2 _ _) ?_
                refine g_if_eq (tgt := 169) dX6_market_162 (by decide) (fun h112 => ?_) (fun h112 => ?_)
                · have hf := ift h112 hf
                  obtain rfl := Option.some.inj hf
                  exact g_sub [0, 1, 2] rfl J_v104
                · have hf := iff_ h112 hf
                  refine g_aload_n 0 dX6_market_165 rfl rfl ?_
                  obtain ⟨v113, hc114, hf⟩ := obd_some hf
                  refine g_callVv (ci := 6) (As := []) (rest := []) (w2 := (wO cs ad v113)) 0 dX6_market_166 vX6_market_152 (c_X6_readsWay ad hty hc114) rfl (mid0 _) rfl rfl 0 wlaO_0 rfl (Nat.le_of_ble_eq_true rfl) ⟨Nat.zero_le _, Nat.zero_le _⟩ (mid2 _ _) ?_
                  obtain rfl := Option.some.inj hf
                  exact g_sub [0, 1, 2] rfl J_v104
              refine g_if_eq (tgt := 158) dX6_market_142 (by decide) (fun h116 => ?_) (fun h116 => ?_)
              · have hf := ift h116 hf
                exact g_sub [0, 1, 2] rfl (K_k115 s106 hf)
              · have hf := iff_ h116 hf
                refine g_iload 3 dX6_market_145 rfl ?_
                refine g_iconst (v := (1 : Int32)) dX6_market_147 (by decide) ?_
                refine g_icmp_ne (tgt := 158) dX6_market_148 (by decide) (fun h117 => ?_) (fun h117 => ?_)
                · have hf := iff_ h117 hf
                  exact g_sub [0, 1, 2] rfl (K_k115 s106 hf)
                · have hf := ift h117 hf
                  refine g_aload_n 0 dX6_market_151 rfl rfl ?_
                  obtain ⟨v118, hc119, hf⟩ := obd_some hf
                  refine g_callVv (ci := 6) (As := []) (rest := []) (w2 := (wO cs ad v118)) 0 dX6_market_152 vX6_market_149 (c_X6_readsStall ad hty hc119) rfl (mid0 _) rfl rfl 0 wlaO_0 rfl (Nat.le_of_ble_eq_true rfl) ⟨Nat.zero_le _, Nat.zero_le _⟩ (mid2 _ _) ?_
                  refine g_goto (tgt := 169) dX6_market_155 (by decide) ?_
                  obtain rfl := Option.some.inj hf
                  exact g_sub [0, 1, 2] rfl J_v104
            refine g_if_eq (tgt := 138) dX6_market_121 (by decide) (fun h121 => ?_) (fun h121 => ?_)
            · have hf := ift h121 hf
              exact g_sub [1, 2, 3, 0] rfl (K_k120 x5 v80.2 hf)
            · have hf := iff_ h121 hf
              refine g_iload 0 dX6_market_124 rfl ?_
              refine g_if_ne (tgt := 138) dX6_market_126 (by decide) (fun h122 => ?_) (fun h122 => ?_)
              · have hf := iff_ h122 hf
                exact g_sub [1, 2, 3, 0] rfl (K_k120 x5 v80.2 hf)
              · have hf := ift h122 hf
                refine g_iconst (v := (1 : Int32)) dX6_market_129 (by decide) ?_
                refine g_istore_n (lv2 := [(2, .int (1 : Int32)), (4, .int v80.1), (0, .ref (ad 0)), (1, .int x4)]) dX6_market_130 rfl (by decide) rfl ?_
                refine g_aload_n 2 dX6_market_131 rfl rfl ?_
                obtain ⟨v123, hc124, hf⟩ := obd_some hf
                refine g_callVv (ci := 6) (As := []) (rest := []) (w2 := (wO cs ad v123)) 0 dX6_market_132 vX6_market_146 (c_X6_readsLuck ad hty hc124) rfl (mid0 _) rfl rfl 0 wlaO_0 rfl (Nat.le_of_ble_eq_true rfl) ⟨Nat.zero_le _, Nat.zero_le _⟩ (mid2 _ _) ?_
                refine g_goto (tgt := 169) dX6_market_135 (by decide) ?_
                obtain rfl := Option.some.inj hf
                exact g_sub [2, 3, 0] rfl J_v104
          have hf := hE_v77
          refine g_icmp_ne (tgt := 111) dX6_market_100 (by decide) (fun h78 => ?_) (fun h78 => ?_)
          · have hf := iff_ h78 hf
            refine g_iconst (v := (0 : Int32)) dX6_market_111 (by decide) ?_
            obtain rfl := Option.some.inj hf
            exact g_sub [1, 2, 3] rfl J_v77
          · have hf := ift h78 hf
            refine g_iload_n 0 dX6_market_103 rfl rfl ?_
            refine g_if_eq (tgt := 111) dX6_market_104 (by decide) (fun h79 => ?_) (fun h79 => ?_)
            · have hf := ift h79 hf
              refine g_iconst (v := (0 : Int32)) dX6_market_111 (by decide) ?_
              obtain rfl := Option.some.inj hf
              exact g_sub [1, 2, 3] rfl J_v77
            · have hf := iff_ h79 hf
              refine g_iconst (v := (1 : Int32)) dX6_market_107 (by decide) ?_
              refine g_goto (tgt := 112) dX6_market_108 (by decide) ?_
              obtain rfl := Option.some.inj hf
              exact g_sub [1, 2, 3] rfl J_v77
        have hf := hE_v68
        refine g_if_ne (tgt := 46) dX6_market_31 (by decide) (fun h69 => ?_) (fun h69 => ?_)
        · have hf := iff_ h69 hf
          refine g_aload_n 0 dX6_market_46 rfl rfl ?_
          refine g_get (ci := 6) (T := TX6) (N := 29) 0 11 (.int (O_value s6)) dX6_market_47 iX6_market_X6 rfl jX6_market_112 (by decide) wlaO_0 rfl ?_
          refine g_iconst (v := (1 : Int32)) dX6_market_50 (by decide) ?_
          refine g_icmp_ne (tgt := 71) dX6_market_51 (by decide) (fun h70 => ?_) (fun h70 => ?_)
          · have hf := iff_ h70 hf
            refine g_aload_n 0 dX6_market_71 rfl rfl ?_
            refine g_get (ci := 6) (T := TX6) (N := 29) 0 11 (.int (O_value s6)) dX6_market_72 iX6_market_X6 rfl jX6_market_112 (by decide) wlaO_0 rfl ?_
            refine g_iconst (v := (2 : Int32)) dX6_market_75 (by decide) ?_
            refine g_icmp_ne (tgt := 92) dX6_market_76 (by decide) (fun h71 => ?_) (fun h71 => ?_)
            · have hf := iff_ h71 hf
              refine g_iconst (v := (0 : Int32)) dX6_market_92 (by decide) ?_
              obtain rfl := Option.some.inj hf
              exact g_sub [0, 1, 2] rfl J_v68
            · have hf := ift h71 hf
              refine g_aload_n 0 dX6_market_79 rfl rfl ?_
              refine g_get (ci := 6) (T := TX6) (N := 29) 0 19 (.int (O_draftWays s6)) dX6_market_80 iX6_market_X6 rfl jX6_market_136 (by decide) wlaO_0 rfl ?_
              refine g_bipush (v := (6 : Int32)) dX6_market_83 (by decide) ?_
              refine g_icmp_ge (tgt := 92) dX6_market_85 (by decide) (fun h72 => ?_) (fun h72 => ?_)
              · have hf := ift h72 hf
                refine g_iconst (v := (0 : Int32)) dX6_market_92 (by decide) ?_
                obtain rfl := Option.some.inj hf
                exact g_sub [0, 1, 2] rfl J_v68
              · have hf := iff_ h72 hf
                refine g_iconst (v := (1 : Int32)) dX6_market_88 (by decide) ?_
                refine g_goto (tgt := 93) dX6_market_89 (by decide) ?_
                obtain rfl := Option.some.inj hf
                exact g_sub [0, 1, 2] rfl J_v68
          · have hf := ift h70 hf
            refine g_aload_n 0 dX6_market_54 rfl rfl ?_
            refine g_get (ci := 6) (T := TX6) (N := 29) 0 18 (.int (O_draftStalls s6)) dX6_market_55 iX6_market_X6 rfl jX6_market_133 (by decide) wlaO_0 rfl ?_
            refine g_bipush (v := (6 : Int32)) dX6_market_58 (by decide) ?_
            refine g_icmp_ge (tgt := 67) dX6_market_60 (by decide) (fun h73 => ?_) (fun h73 => ?_)
            · have hf := ift h73 hf
              refine g_iconst (v := (0 : Int32)) dX6_market_67 (by decide) ?_
              refine g_goto (tgt := 93) dX6_market_68 (by decide) ?_
              obtain rfl := Option.some.inj hf
              exact g_sub [0, 1, 2] rfl J_v68
            · have hf := iff_ h73 hf
              refine g_iconst (v := (1 : Int32)) dX6_market_63 (by decide) ?_
              refine g_goto (tgt := 93) dX6_market_64 (by decide) ?_
              obtain rfl := Option.some.inj hf
              exact g_sub [0, 1, 2] rfl J_v68
        · have hf := ift h69 hf
          refine g_iload_n 2 dX6_market_34 rfl rfl ?_
          refine g_if_ne (tgt := 42) dX6_market_35 (by decide) (fun h74 => ?_) (fun h74 => ?_)
          · have hf := iff_ h74 hf
            refine g_iconst (v := (0 : Int32)) dX6_market_42 (by decide) ?_
            refine g_goto (tgt := 93) dX6_market_43 (by decide) ?_
            obtain rfl := Option.some.inj hf
            exact g_sub [0, 1, 2] rfl J_v68
          · have hf := ift h74 hf
            refine g_iconst (v := (1 : Int32)) dX6_market_38 (by decide) ?_
            refine g_goto (tgt := 93) dX6_market_39 (by decide) ?_
            obtain rfl := Option.some.inj hf
            exact g_sub [0, 1, 2] rfl J_v68

set_option maxHeartbeats 4000000 in
set_option maxRecDepth 100000 in
theorem c_X6_market {l : Launch} {D : va_G} {tys : List (ClassId × FieldType)} {X : XT} {cs : CS} (ad : Nat → Nat) {F : Nat} {s : SO} {r : (Int32 × SO)} (htyM : tys = tyA cs) (hf : f_X6_market F s = some r) : Ci l D tys X yX6_market wsX6_market rmX6_market [.ref (ad 0)] (wO cs ad s) r.1 (wO cs ad r.2) := by
  refine Ci_ofG (by decide +kernel) rfl (Nat.le_of_ble_eq_true rfl) .int rfl (vp_nar_int _) (fun E _ _ hty0 hX0 hr => ?_)
  have hty := hty0.trans htyM
  have hr : Ri E kX6_market r.1 (wO cs ad r.2) := hr
  show G E kX6_market 0 0 0 [(0, .ref (ad 0))] [] (wO cs ad s)
  unfold f_X6_market at hf
  refine g_aload_n 0 dX6_market_0 rfl rfl ?_
  refine g_iconst (v := (0 : Int32)) dX6_market_1 (by decide) ?_
  obtain ⟨s1, e_s1, hf⟩ := olt_some hf
  refine g_put (ci := 6) (T := TX6) (N := 29) (ty := .int) (w2 := (wO cs ad s1)) 0 0 (.int (0 : Int32)) tyX6 dX6_market_2 iX6_market_X6 tyX6_ok nmX6 rfl jX6_market_54 (by decide) rfl rfl rfl rfl wlaO_0 (Nat.le_of_ble_eq_true rfl) (wlpO_0_0.trans (congrArg (wO cs ad) e_s1)) ?_
  refine g_iconst (v := (0 : Int32)) dX6_market_5 (by decide) ?_
  refine g_istore_n (lv2 := [(1, .int (0 : Int32)), (0, .ref (ad 0))]) dX6_market_6 rfl (by decide) rfl ?_
  refine g_iconst (v := (0 : Int32)) dX6_market_7 (by decide) ?_
  refine g_istore_n (lv2 := [(2, .int (0 : Int32)), (1, .int (0 : Int32)), (0, .ref (ad 0))]) dX6_market_8 rfl (by decide) rfl ?_
  refine g_aload_n 2 dX6_market_9 rfl rfl ?_
  obtain ⟨v2, hc3, hf⟩ := obd_some hf
  refine g_callVv (ci := 6) (As := []) (rest := []) (w2 := (wO cs ad v2)) 0 dX6_market_10 vX6_market_143 (c_X6_begins ad hty hc3) rfl (mid0 _) rfl rfl 0 wlaO_0 rfl (Nat.le_of_ble_eq_true rfl) ⟨Nat.zero_le _, Nat.zero_le _⟩ (mid2 _ _) ?_
  exact g_sub [2, 1, 0] rfl (w_X6_market_L13 hty hr F (0 : Int32) (0 : Int32) v2 hf)

-- ThumbScaleModel stall (II)I
def rmX6_stall : Room := { frames := 2, cells := 0, slots := 0, locals := 45 }
def kX6_stall : MK := (cX6_stall, 3, RX6, wsX6_stall, (some .int), rmX6_stall)

set_option maxRecDepth 20000 in
theorem jX6_stall_54 : Cond.fieldLink RX6 54 (TX6 0).1 (TX6 0).2.1 (TX6 0).2.2.1 ∈ wsX6_stall := by decide +kernel
set_option maxRecDepth 20000 in
theorem iX6_stall_X6 : ∀ x ∈ u_ws RX6 TX6 29, x ∈ wsX6_stall := by decide +kernel
set_option maxRecDepth 20000 in
theorem vX6_stall_158 : KV kX6_stall 158 RX6 yX6_isStall wsX6_isStall rmX6_isStall 1 := ⟨_, _, _, _, gX6_stall_X6_isStall, rfl, rfl, rfl, by decide +kernel, ⟨by decide, by decide⟩⟩
set_option maxRecDepth 20000 in
theorem vX6_stall_61 : KS kX6_stall 61 yX6_in wsX6_in rmX6_in 3 := ⟨_, _, _, _, gX6_stall_X6_in, rfl, rfl, rfl, by decide +kernel, ⟨by decide, by decide⟩⟩
set_option maxRecDepth 20000 in
theorem vX6_stall_164 : KV kX6_stall 164 RX6 yX6_trialsOf wsX6_trialsOf rmX6_trialsOf 1 := ⟨_, _, _, _, gX6_stall_X6_trialsOf, rfl, rfl, rfl, by decide +kernel, ⟨by decide, by decide⟩⟩
set_option maxRecDepth 20000 in
theorem vX6_stall_161 : KV kX6_stall 161 RX6 yX6_bagsOf wsX6_bagsOf rmX6_bagsOf 1 := ⟨_, _, _, _, gX6_stall_X6_bagsOf, rfl, rfl, rfl, by decide +kernel, ⟨by decide, by decide⟩⟩
set_option maxRecDepth 20000 in
theorem jX6_stall_30 : Cond.fieldLink RX6 30 (TX6 14).1 (TX6 14).2.1 (TX6 14).2.2.1 ∈ wsX6_stall := by decide +kernel
def f_X6_stall (F : Nat) (s : SO) (a1 : Int32) (a2 : Int32) : Option (Int32 × SO) :=
    olt (uO_thrown s (0 : Int32)) (fun s1 =>
    obd (f_X6_isStall F s1 a1) (fun v2 =>
    (if v2 = 0 then
    some ((-1 : Int32), s1)
    else
    obd (f_X6_in F a2 (0 : Int32) (4 : Int32)) (fun v5 =>
    (if v5 = 0 then
    some ((-1 : Int32), s1)
    else
    (if (3 : Int32) ≤ a2 then
    (if a2 = (3 : Int32) then
    obd (f_X6_bagsOf F s1 a1) (fun v12 =>
    some (v12, s1))
    else
    obd (f_X6_trialsOf F s1 a1) (fun v10 =>
    some (v10, s1)))
    else
    ochi (((3 : Int32) * a1) + a2) 36 (
    some (((O_stall s1) (Int32.toNatClampNeg (((3 : Int32) * a1) + a2))), s1))))))))

set_option maxHeartbeats 4000000 in
set_option maxRecDepth 100000 in
theorem c_X6_stall {l : Launch} {D : va_G} {tys : List (ClassId × FieldType)} {X : XT} {cs : CS} (ad : Nat → Nat) {F : Nat} {s : SO} {a1 : Int32} {a2 : Int32} {r : (Int32 × SO)} (htyM : tys = tyA cs) (hf : f_X6_stall F s a1 a2 = some r) : Ci l D tys X yX6_stall wsX6_stall rmX6_stall [.ref (ad 0), .int a1, .int a2] (wO cs ad s) r.1 (wO cs ad r.2) := by
  refine Ci_ofG (by decide +kernel) rfl (Nat.le_of_ble_eq_true rfl) .int rfl (vp_nar_int _) (fun E _ _ hty0 hX0 hr => ?_)
  have hty := hty0.trans htyM
  have hr : Ri E kX6_stall r.1 (wO cs ad r.2) := hr
  show G E kX6_stall 0 0 0 [(0, .ref (ad 0)), (1, .int a1), (2, .int a2)] [] (wO cs ad s)
  unfold f_X6_stall at hf
  refine g_aload_n 0 dX6_stall_0 rfl rfl ?_
  refine g_iconst (v := (0 : Int32)) dX6_stall_1 (by decide) ?_
  obtain ⟨s1, e_s1, hf⟩ := olt_some hf
  refine g_put (ci := 6) (T := TX6) (N := 29) (ty := .int) (w2 := (wO cs ad s1)) 0 0 (.int (0 : Int32)) tyX6 dX6_stall_2 iX6_stall_X6 tyX6_ok nmX6 rfl jX6_stall_54 (by decide) rfl rfl rfl rfl wlaO_0 (Nat.le_of_ble_eq_true rfl) (wlpO_0_0.trans (congrArg (wO cs ad) e_s1)) ?_
  refine g_aload_n 0 dX6_stall_5 rfl rfl ?_
  refine g_iload_n 1 dX6_stall_6 rfl rfl ?_
  obtain ⟨v2, hc3, hf⟩ := obd_some hf
  refine g_callVi (ci := 6) (As := [.int a1]) (rest := []) (w2 := (wO cs ad s1)) 0 dX6_stall_7 vX6_stall_158 (c_X6_isStall ad hty hc3) rfl (mid0 _) rfl rfl 0 wlaO_0 rfl (Nat.le_of_ble_eq_true rfl) ⟨Nat.zero_le _, Nat.zero_le _⟩ (mid2 _ _) ?_
  refine g_if_eq (tgt := 22) dX6_stall_10 (by decide) (fun h4 => ?_) (fun h4 => ?_)
  · have hf := ift h4 hf
    refine g_iconst (v := (-1 : Int32)) dX6_stall_22 (by decide) ?_
    refine g_goto (tgt := 62) dX6_stall_23 (by decide) ?_
    obtain rfl := Option.some.inj hf
    exact hr _ _ dX6_stall_62
  · have hf := iff_ h4 hf
    refine g_iload_n 2 dX6_stall_13 rfl rfl ?_
    refine g_iconst (v := (0 : Int32)) dX6_stall_14 (by decide) ?_
    refine g_iconst (v := (4 : Int32)) dX6_stall_15 (by decide) ?_
    obtain ⟨v5, hc6, hf⟩ := obd_some hf
    refine g_callSi (As := [.int a2, .int (0 : Int32), .int (4 : Int32)]) (rest := []) (w2 := (wO cs ad s1)) 0 dX6_stall_16 vX6_stall_61 (c_X6_in hty hc6) rfl (midm _) rfl (Nat.le_of_ble_eq_true rfl) ⟨Nat.zero_le _, Nat.zero_le _⟩ (midn _) ?_
    refine g_if_ne (tgt := 26) dX6_stall_19 (by decide) (fun h7 => ?_) (fun h7 => ?_)
    · have hf := iff_ h7 hf
      refine g_iload_n 2 dX6_stall_26 rfl rfl ?_
      refine g_iconst (v := (3 : Int32)) dX6_stall_27 (by decide) ?_
      refine g_icmp_ge (tgt := 44) dX6_stall_28 (by decide) (fun h8 => ?_) (fun h8 => ?_)
      · have hf := ift h8 hf
        refine g_iload_n 2 dX6_stall_44 rfl rfl ?_
        refine g_iconst (v := (3 : Int32)) dX6_stall_45 (by decide) ?_
        refine g_icmp_ne (tgt := 57) dX6_stall_46 (by decide) (fun h9 => ?_) (fun h9 => ?_)
        · have hf := iff_ h9 hf
          refine g_aload_n 0 dX6_stall_57 rfl rfl ?_
          refine g_iload_n 1 dX6_stall_58 rfl rfl ?_
          obtain ⟨v10, hc11, hf⟩ := obd_some hf
          refine g_callVi (ci := 6) (As := [.int a1]) (rest := []) (w2 := (wO cs ad s1)) 0 dX6_stall_59 vX6_stall_164 (c_X6_trialsOf ad hty hc11) rfl (mid0 _) rfl rfl 0 wlaO_0 rfl (Nat.le_of_ble_eq_true rfl) ⟨Nat.zero_le _, Nat.zero_le _⟩ (mid2 _ _) ?_
          obtain rfl := Option.some.inj hf
          exact hr _ _ dX6_stall_62
        · have hf := ift h9 hf
          refine g_aload_n 0 dX6_stall_49 rfl rfl ?_
          refine g_iload_n 1 dX6_stall_50 rfl rfl ?_
          obtain ⟨v12, hc13, hf⟩ := obd_some hf
          refine g_callVi (ci := 6) (As := [.int a1]) (rest := []) (w2 := (wO cs ad s1)) 0 dX6_stall_51 vX6_stall_161 (c_X6_bagsOf ad hty hc13) rfl (mid0 _) rfl rfl 0 wlaO_0 rfl (Nat.le_of_ble_eq_true rfl) ⟨Nat.zero_le _, Nat.zero_le _⟩ (mid2 _ _) ?_
          refine g_goto (tgt := 62) dX6_stall_54 (by decide) ?_
          obtain rfl := Option.some.inj hf
          exact hr _ _ dX6_stall_62
      · have hf := iff_ h8 hf
        refine g_aload_n 0 dX6_stall_31 rfl rfl ?_
        refine g_get (ci := 6) (T := TX6) (N := 29) 0 14 (.ref (ad 7)) dX6_stall_32 iX6_stall_X6 rfl jX6_stall_30 (by decide) wlaO_0 rfl ?_
        refine g_iconst (v := (3 : Int32)) dX6_stall_35 (by decide) ?_
        refine g_iload_n 1 dX6_stall_36 rfl rfl ?_
        refine g_imul dX6_stall_37 ?_
        refine g_iload_n 2 dX6_stall_38 rfl rfl ?_
        refine g_iadd dX6_stall_39 ?_
        obtain ⟨h14, hf⟩ := ochi_some hf
        refine g_iald 7 0 dX6_stall_40 wlaO_7 (tI hty) h14 ?_
        refine g_goto (tgt := 62) dX6_stall_41 (by decide) ?_
        obtain rfl := Option.some.inj hf
        exact hr _ _ dX6_stall_62
    · have hf := ift h7 hf
      refine g_iconst (v := (-1 : Int32)) dX6_stall_22 (by decide) ?_
      refine g_goto (tgt := 62) dX6_stall_23 (by decide) ?_
      obtain rfl := Option.some.inj hf
      exact hr _ _ dX6_stall_62

-- ThumbScaleModel way (II)I
def rmX6_way : Room := { frames := 2, cells := 0, slots := 0, locals := 43 }
def kX6_way : MK := (cX6_way, 3, RX6, wsX6_way, (some .int), rmX6_way)

set_option maxRecDepth 20000 in
theorem jX6_way_54 : Cond.fieldLink RX6 54 (TX6 0).1 (TX6 0).2.1 (TX6 0).2.2.1 ∈ wsX6_way := by decide +kernel
set_option maxRecDepth 20000 in
theorem iX6_way_X6 : ∀ x ∈ u_ws RX6 TX6 29, x ∈ wsX6_way := by decide +kernel
set_option maxRecDepth 20000 in
theorem vX6_way_167 : KV kX6_way 167 RX6 yX6_isWay wsX6_isWay rmX6_isWay 1 := ⟨_, _, _, _, gX6_way_X6_isWay, rfl, rfl, rfl, by decide +kernel, ⟨by decide, by decide⟩⟩
set_option maxRecDepth 20000 in
theorem vX6_way_61 : KS kX6_way 61 yX6_in wsX6_in rmX6_in 3 := ⟨_, _, _, _, gX6_way_X6_in, rfl, rfl, rfl, by decide +kernel, ⟨by decide, by decide⟩⟩
set_option maxRecDepth 20000 in
theorem jX6_way_33 : Cond.fieldLink RX6 33 (TX6 15).1 (TX6 15).2.1 (TX6 15).2.2.1 ∈ wsX6_way := by decide +kernel
def f_X6_way (F : Nat) (s : SO) (a1 : Int32) (a2 : Int32) : Option (Int32 × SO) :=
    olt (uO_thrown s (0 : Int32)) (fun s1 =>
    obd (f_X6_isWay F s1 a1) (fun v2 =>
    (if v2 = 0 then
    some ((-1 : Int32), s1)
    else
    obd (f_X6_in F a2 (0 : Int32) (3 : Int32)) (fun v5 =>
    (if v5 = 0 then
    some ((-1 : Int32), s1)
    else
    ochi (((4 : Int32) * a1) + a2) 48 (
    some (((O_way s1) (Int32.toNatClampNeg (((4 : Int32) * a1) + a2))), s1)))))))

set_option maxHeartbeats 4000000 in
set_option maxRecDepth 100000 in
theorem c_X6_way {l : Launch} {D : va_G} {tys : List (ClassId × FieldType)} {X : XT} {cs : CS} (ad : Nat → Nat) {F : Nat} {s : SO} {a1 : Int32} {a2 : Int32} {r : (Int32 × SO)} (htyM : tys = tyA cs) (hf : f_X6_way F s a1 a2 = some r) : Ci l D tys X yX6_way wsX6_way rmX6_way [.ref (ad 0), .int a1, .int a2] (wO cs ad s) r.1 (wO cs ad r.2) := by
  refine Ci_ofG (by decide +kernel) rfl (Nat.le_of_ble_eq_true rfl) .int rfl (vp_nar_int _) (fun E _ _ hty0 hX0 hr => ?_)
  have hty := hty0.trans htyM
  have hr : Ri E kX6_way r.1 (wO cs ad r.2) := hr
  show G E kX6_way 0 0 0 [(0, .ref (ad 0)), (1, .int a1), (2, .int a2)] [] (wO cs ad s)
  unfold f_X6_way at hf
  refine g_aload_n 0 dX6_way_0 rfl rfl ?_
  refine g_iconst (v := (0 : Int32)) dX6_way_1 (by decide) ?_
  obtain ⟨s1, e_s1, hf⟩ := olt_some hf
  refine g_put (ci := 6) (T := TX6) (N := 29) (ty := .int) (w2 := (wO cs ad s1)) 0 0 (.int (0 : Int32)) tyX6 dX6_way_2 iX6_way_X6 tyX6_ok nmX6 rfl jX6_way_54 (by decide) rfl rfl rfl rfl wlaO_0 (Nat.le_of_ble_eq_true rfl) (wlpO_0_0.trans (congrArg (wO cs ad) e_s1)) ?_
  refine g_aload_n 0 dX6_way_5 rfl rfl ?_
  refine g_iload_n 1 dX6_way_6 rfl rfl ?_
  obtain ⟨v2, hc3, hf⟩ := obd_some hf
  refine g_callVi (ci := 6) (As := [.int a1]) (rest := []) (w2 := (wO cs ad s1)) 0 dX6_way_7 vX6_way_167 (c_X6_isWay ad hty hc3) rfl (mid0 _) rfl rfl 0 wlaO_0 rfl (Nat.le_of_ble_eq_true rfl) ⟨Nat.zero_le _, Nat.zero_le _⟩ (mid2 _ _) ?_
  refine g_if_eq (tgt := 35) dX6_way_10 (by decide) (fun h4 => ?_) (fun h4 => ?_)
  · have hf := ift h4 hf
    refine g_iconst (v := (-1 : Int32)) dX6_way_35 (by decide) ?_
    obtain rfl := Option.some.inj hf
    exact hr _ _ dX6_way_36
  · have hf := iff_ h4 hf
    refine g_iload_n 2 dX6_way_13 rfl rfl ?_
    refine g_iconst (v := (0 : Int32)) dX6_way_14 (by decide) ?_
    refine g_iconst (v := (3 : Int32)) dX6_way_15 (by decide) ?_
    obtain ⟨v5, hc6, hf⟩ := obd_some hf
    refine g_callSi (As := [.int a2, .int (0 : Int32), .int (3 : Int32)]) (rest := []) (w2 := (wO cs ad s1)) 0 dX6_way_16 vX6_way_61 (c_X6_in hty hc6) rfl (midm _) rfl (Nat.le_of_ble_eq_true rfl) ⟨Nat.zero_le _, Nat.zero_le _⟩ (midn _) ?_
    refine g_if_eq (tgt := 35) dX6_way_19 (by decide) (fun h7 => ?_) (fun h7 => ?_)
    · have hf := ift h7 hf
      refine g_iconst (v := (-1 : Int32)) dX6_way_35 (by decide) ?_
      obtain rfl := Option.some.inj hf
      exact hr _ _ dX6_way_36
    · have hf := iff_ h7 hf
      refine g_aload_n 0 dX6_way_22 rfl rfl ?_
      refine g_get (ci := 6) (T := TX6) (N := 29) 0 15 (.ref (ad 8)) dX6_way_23 iX6_way_X6 rfl jX6_way_33 (by decide) wlaO_0 rfl ?_
      refine g_iconst (v := (4 : Int32)) dX6_way_26 (by decide) ?_
      refine g_iload_n 1 dX6_way_27 rfl rfl ?_
      refine g_imul dX6_way_28 ?_
      refine g_iload_n 2 dX6_way_29 rfl rfl ?_
      refine g_iadd dX6_way_30 ?_
      obtain ⟨h8, hf⟩ := ochi_some hf
      refine g_iald 8 0 dX6_way_31 wlaO_8 (tI hty) h8 ?_
      refine g_goto (tgt := 36) dX6_way_32 (by decide) ?_
      obtain rfl := Option.some.inj hf
      exact hr _ _ dX6_way_36

-- ThumbScaleModel often (IIII)I
def rmX6_often : Room := { frames := 3, cells := 0, slots := 0, locals := 71 }
def kX6_often : MK := (cX6_often, 5, RX6, wsX6_often, (some .int), rmX6_often)

set_option maxRecDepth 20000 in
theorem jX6_often_54 : Cond.fieldLink RX6 54 (TX6 0).1 (TX6 0).2.1 (TX6 0).2.2.1 ∈ wsX6_often := by decide +kernel
set_option maxRecDepth 20000 in
theorem iX6_often_X6 : ∀ x ∈ u_ws RX6 TX6 29, x ∈ wsX6_often := by decide +kernel
set_option maxRecDepth 20000 in
theorem vX6_often_167 : KV kX6_often 167 RX6 yX6_isWay wsX6_isWay rmX6_isWay 1 := ⟨_, _, _, _, gX6_often_X6_isWay, rfl, rfl, rfl, by decide +kernel, ⟨by decide, by decide⟩⟩
set_option maxRecDepth 20000 in
theorem vX6_often_158 : KV kX6_often 158 RX6 yX6_isStall wsX6_isStall rmX6_isStall 1 := ⟨_, _, _, _, gX6_often_X6_isStall, rfl, rfl, rfl, by decide +kernel, ⟨by decide, by decide⟩⟩
set_option maxRecDepth 20000 in
theorem vX6_often_173 : KS kX6_often 173 yX6_isSort wsX6_isSort rmX6_isSort 1 := ⟨_, _, _, _, gX6_often_X6_isSort, rfl, rfl, rfl, by decide +kernel, ⟨by decide, by decide⟩⟩
set_option maxRecDepth 20000 in
theorem vX6_often_176 : KV kX6_often 176 RX6 yX6_oftenOf wsX6_oftenOf rmX6_oftenOf 4 := ⟨_, _, _, _, gX6_often_X6_oftenOf, rfl, rfl, rfl, by decide +kernel, ⟨by decide, by decide⟩⟩
def f_X6_often (F : Nat) (s : SO) (a1 : Int32) (a2 : Int32) (a3 : Int32) (a4 : Int32) : Option (Int32 × SO) :=
    olt (uO_thrown s (0 : Int32)) (fun s1 =>
    obd (f_X6_isWay F s1 a1) (fun v2 =>
    (if v2 = 0 then
    some ((-1 : Int32), s1)
    else
    obd (f_X6_isStall F s1 a2) (fun v5 =>
    (if v5 = 0 then
    some ((-1 : Int32), s1)
    else
    obd (f_X6_isSort F a3) (fun v8 =>
    (if v8 = 0 then
    some ((-1 : Int32), s1)
    else
    obd (f_X6_oftenOf F s1 a1 a2 a3 a4) (fun v11 =>
    some (v11, s1)))))))))

set_option maxHeartbeats 4000000 in
set_option maxRecDepth 100000 in
theorem c_X6_often {l : Launch} {D : va_G} {tys : List (ClassId × FieldType)} {X : XT} {cs : CS} (ad : Nat → Nat) {F : Nat} {s : SO} {a1 : Int32} {a2 : Int32} {a3 : Int32} {a4 : Int32} {r : (Int32 × SO)} (htyM : tys = tyA cs) (hf : f_X6_often F s a1 a2 a3 a4 = some r) : Ci l D tys X yX6_often wsX6_often rmX6_often [.ref (ad 0), .int a1, .int a2, .int a3, .int a4] (wO cs ad s) r.1 (wO cs ad r.2) := by
  refine Ci_ofG (by decide +kernel) rfl (Nat.le_of_ble_eq_true rfl) .int rfl (vp_nar_int _) (fun E _ _ hty0 hX0 hr => ?_)
  have hty := hty0.trans htyM
  have hr : Ri E kX6_often r.1 (wO cs ad r.2) := hr
  show G E kX6_often 0 0 0 [(0, .ref (ad 0)), (1, .int a1), (2, .int a2), (3, .int a3), (4, .int a4)] [] (wO cs ad s)
  unfold f_X6_often at hf
  refine g_aload_n 0 dX6_often_0 rfl rfl ?_
  refine g_iconst (v := (0 : Int32)) dX6_often_1 (by decide) ?_
  obtain ⟨s1, e_s1, hf⟩ := olt_some hf
  refine g_put (ci := 6) (T := TX6) (N := 29) (ty := .int) (w2 := (wO cs ad s1)) 0 0 (.int (0 : Int32)) tyX6 dX6_often_2 iX6_often_X6 tyX6_ok nmX6 rfl jX6_often_54 (by decide) rfl rfl rfl rfl wlaO_0 (Nat.le_of_ble_eq_true rfl) (wlpO_0_0.trans (congrArg (wO cs ad) e_s1)) ?_
  refine g_aload_n 0 dX6_often_5 rfl rfl ?_
  refine g_iload_n 1 dX6_often_6 rfl rfl ?_
  obtain ⟨v2, hc3, hf⟩ := obd_some hf
  refine g_callVi (ci := 6) (As := [.int a1]) (rest := []) (w2 := (wO cs ad s1)) 0 dX6_often_7 vX6_often_167 (c_X6_isWay ad hty hc3) rfl (mid0 _) rfl rfl 0 wlaO_0 rfl (Nat.le_of_ble_eq_true rfl) ⟨Nat.zero_le _, Nat.zero_le _⟩ (mid2 _ _) ?_
  refine g_if_eq (tgt := 40) dX6_often_10 (by decide) (fun h4 => ?_) (fun h4 => ?_)
  · have hf := ift h4 hf
    refine g_iconst (v := (-1 : Int32)) dX6_often_40 (by decide) ?_
    obtain rfl := Option.some.inj hf
    exact hr _ _ dX6_often_41
  · have hf := iff_ h4 hf
    refine g_aload_n 0 dX6_often_13 rfl rfl ?_
    refine g_iload_n 2 dX6_often_14 rfl rfl ?_
    obtain ⟨v5, hc6, hf⟩ := obd_some hf
    refine g_callVi (ci := 6) (As := [.int a2]) (rest := []) (w2 := (wO cs ad s1)) 0 dX6_often_15 vX6_often_158 (c_X6_isStall ad hty hc6) rfl (mid0 _) rfl rfl 0 wlaO_0 rfl (Nat.le_of_ble_eq_true rfl) ⟨Nat.zero_le _, Nat.zero_le _⟩ (mid2 _ _) ?_
    refine g_if_eq (tgt := 40) dX6_often_18 (by decide) (fun h7 => ?_) (fun h7 => ?_)
    · have hf := ift h7 hf
      refine g_iconst (v := (-1 : Int32)) dX6_often_40 (by decide) ?_
      obtain rfl := Option.some.inj hf
      exact hr _ _ dX6_often_41
    · have hf := iff_ h7 hf
      refine g_iload_n 3 dX6_often_21 rfl rfl ?_
      obtain ⟨v8, hc9, hf⟩ := obd_some hf
      refine g_callSi (As := [.int a3]) (rest := []) (w2 := (wO cs ad s1)) 0 dX6_often_22 vX6_often_173 (c_X6_isSort hty hc9) rfl (midm _) rfl (Nat.le_of_ble_eq_true rfl) ⟨Nat.zero_le _, Nat.zero_le _⟩ (midn _) ?_
      refine g_if_eq (tgt := 40) dX6_often_25 (by decide) (fun h10 => ?_) (fun h10 => ?_)
      · have hf := ift h10 hf
        refine g_iconst (v := (-1 : Int32)) dX6_often_40 (by decide) ?_
        obtain rfl := Option.some.inj hf
        exact hr _ _ dX6_often_41
      · have hf := iff_ h10 hf
        refine g_aload_n 0 dX6_often_28 rfl rfl ?_
        refine g_iload_n 1 dX6_often_29 rfl rfl ?_
        refine g_iload_n 2 dX6_often_30 rfl rfl ?_
        refine g_iload_n 3 dX6_often_31 rfl rfl ?_
        refine g_iload 4 dX6_often_32 rfl ?_
        obtain ⟨v11, hc12, hf⟩ := obd_some hf
        refine g_callVi (ci := 6) (As := [.int a1, .int a2, .int a3, .int a4]) (rest := []) (w2 := (wO cs ad s1)) 0 dX6_often_34 vX6_often_176 (c_X6_oftenOf ad hty hc12) rfl (mid0 _) rfl rfl 0 wlaO_0 rfl (Nat.le_of_ble_eq_true rfl) ⟨Nat.zero_le _, Nat.zero_le _⟩ (mid2 _ _) ?_
        refine g_goto (tgt := 41) dX6_often_37 (by decide) ?_
        obtain rfl := Option.some.inj hf
        exact hr _ _ dX6_often_41

-- ThumbScaleModel bag (IIIIII)I
def rmX6_bag_ : Room := { frames := 2, cells := 0, slots := 0, locals := 43 }
def kX6_bag_ : MK := (cX6_bag_, 8, RX6, wsX6_bag_, (some .int), rmX6_bag_)

set_option maxRecDepth 20000 in
theorem jX6_bag__54 : Cond.fieldLink RX6 54 (TX6 0).1 (TX6 0).2.1 (TX6 0).2.2.1 ∈ wsX6_bag_ := by decide +kernel
set_option maxRecDepth 20000 in
theorem iX6_bag__X6 : ∀ x ∈ u_ws RX6 TX6 29, x ∈ wsX6_bag_ := by decide +kernel
set_option maxRecDepth 20000 in
theorem vX6_bag__158 : KV kX6_bag_ 158 RX6 yX6_isStall wsX6_isStall rmX6_isStall 1 := ⟨_, _, _, _, gX6_bag__X6_isStall, rfl, rfl, rfl, by decide +kernel, ⟨by decide, by decide⟩⟩
set_option maxRecDepth 20000 in
theorem vX6_bag__61 : KS kX6_bag_ 61 yX6_in wsX6_in rmX6_in 3 := ⟨_, _, _, _, gX6_bag__X6_in, rfl, rfl, rfl, by decide +kernel, ⟨by decide, by decide⟩⟩
set_option maxRecDepth 20000 in
theorem vX6_bag__173 : KS kX6_bag_ 173 yX6_isSort wsX6_isSort rmX6_isSort 1 := ⟨_, _, _, _, gX6_bag__X6_isSort, rfl, rfl, rfl, by decide +kernel, ⟨by decide, by decide⟩⟩
set_option maxRecDepth 20000 in
theorem jX6_bag__7 : Cond.fieldLink RX6 7 (TX6 2).1 (TX6 2).2.1 (TX6 2).2.2.1 ∈ wsX6_bag_ := by decide +kernel
def f_X6_bag_ (F : Nat) (s : SO) (a1 : Int32) (a2 : Int32) (a3 : Int32) (a4 : Int32) (a5 : Int32) (a6 : Int32) : Option (Int32 × SO) :=
    olt (uO_thrown s (0 : Int32)) (fun s1 =>
    obd (f_X6_isStall F s1 a1) (fun v2 =>
    (if v2 = 0 then
    some ((-1 : Int32), s1)
    else
    obd (f_X6_in F a2 (0 : Int32) (11 : Int32)) (fun v5 =>
    (if v5 = 0 then
    some ((-1 : Int32), s1)
    else
    obd (f_X6_isSort F a3) (fun v8 =>
    (if v8 = 0 then
    some ((-1 : Int32), s1)
    else
    obd (f_X6_in F a4 (1 : Int32) (999 : Int32)) (fun v11 =>
    (if v11 = 0 then
    some ((-1 : Int32), s1)
    else
    obd (f_X6_in F a5 (0 : Int32) (999 : Int32)) (fun v14 =>
    (if v14 = 0 then
    some ((-1 : Int32), s1)
    else
    obd (f_X6_in F a6 (0 : Int32) (99 : Int32)) (fun v17 =>
    (if v17 = 0 then
    some ((-1 : Int32), s1)
    else
    ochi (0 : Int32) 264 (
    (if ((O_s s1) (Int32.toNatClampNeg (0 : Int32))) = (30 : Int32) then
    some ((-3 : Int32), s1)
    else
    ochi (0 : Int32) 264 (
    olt ((1 : Int32) + ((6 : Int32) * ((O_s s1) (Int32.toNatClampNeg (0 : Int32))))) (fun z23 =>
    ochi z23 264 (olt (uO_s s1 (upd (O_s s1) (Int32.toNatClampNeg z23) a1)) (fun s25 =>
    ochi (z23 + (1 : Int32)) 264 (olt (uO_s s25 (upd (O_s s25) (Int32.toNatClampNeg (z23 + (1 : Int32))) a2)) (fun s27 =>
    ochi (z23 + (2 : Int32)) 264 (olt (uO_s s27 (upd (O_s s27) (Int32.toNatClampNeg (z23 + (2 : Int32))) a3)) (fun s29 =>
    ochi (z23 + (3 : Int32)) 264 (olt (uO_s s29 (upd (O_s s29) (Int32.toNatClampNeg (z23 + (3 : Int32))) a4)) (fun s31 =>
    ochi (z23 + (4 : Int32)) 264 (olt (uO_s s31 (upd (O_s s31) (Int32.toNatClampNeg (z23 + (4 : Int32))) a5)) (fun s33 =>
    ochi (z23 + (5 : Int32)) 264 (olt (uO_s s33 (upd (O_s s33) (Int32.toNatClampNeg (z23 + (5 : Int32))) a6)) (fun s35 =>
    ochi (0 : Int32) 264 (
    olt (((O_s s35) (Int32.toNatClampNeg (0 : Int32))) + (1 : Int32)) (fun z37 =>
    ochi (0 : Int32) 264 (olt (uO_s s35 (upd (O_s s35) (Int32.toNatClampNeg (0 : Int32)) z37)) (fun s39 =>
    ochi (0 : Int32) 264 (
    some ((((O_s s39) (Int32.toNatClampNeg (0 : Int32))) - (1 : Int32)), s39)))))))))))))))))))))))))))))))))))

set_option maxHeartbeats 4000000 in
set_option maxRecDepth 100000 in
theorem c_X6_bag_ {l : Launch} {D : va_G} {tys : List (ClassId × FieldType)} {X : XT} {cs : CS} (ad : Nat → Nat) {F : Nat} {s : SO} {a1 : Int32} {a2 : Int32} {a3 : Int32} {a4 : Int32} {a5 : Int32} {a6 : Int32} {r : (Int32 × SO)} (htyM : tys = tyA cs) (hf : f_X6_bag_ F s a1 a2 a3 a4 a5 a6 = some r) : Ci l D tys X yX6_bag_ wsX6_bag_ rmX6_bag_ [.ref (ad 0), .int a1, .int a2, .int a3, .int a4, .int a5, .int a6] (wO cs ad s) r.1 (wO cs ad r.2) := by
  refine Ci_ofG (by decide +kernel) rfl (Nat.le_of_ble_eq_true rfl) .int rfl (vp_nar_int _) (fun E _ _ hty0 hX0 hr => ?_)
  have hty := hty0.trans htyM
  have hr : Ri E kX6_bag_ r.1 (wO cs ad r.2) := hr
  show G E kX6_bag_ 0 0 0 [(0, .ref (ad 0)), (1, .int a1), (2, .int a2), (3, .int a3), (4, .int a4), (5, .int a5), (6, .int a6)] [] (wO cs ad s)
  unfold f_X6_bag_ at hf
  refine g_aload_n 0 dX6_bag__0 rfl rfl ?_
  refine g_iconst (v := (0 : Int32)) dX6_bag__1 (by decide) ?_
  obtain ⟨s1, e_s1, hf⟩ := olt_some hf
  refine g_put (ci := 6) (T := TX6) (N := 29) (ty := .int) (w2 := (wO cs ad s1)) 0 0 (.int (0 : Int32)) tyX6 dX6_bag__2 iX6_bag__X6 tyX6_ok nmX6 rfl jX6_bag__54 (by decide) rfl rfl rfl rfl wlaO_0 (Nat.le_of_ble_eq_true rfl) (wlpO_0_0.trans (congrArg (wO cs ad) e_s1)) ?_
  refine g_aload_n 0 dX6_bag__5 rfl rfl ?_
  refine g_iload_n 1 dX6_bag__6 rfl rfl ?_
  obtain ⟨v2, hc3, hf⟩ := obd_some hf
  refine g_callVi (ci := 6) (As := [.int a1]) (rest := []) (w2 := (wO cs ad s1)) 0 dX6_bag__7 vX6_bag__158 (c_X6_isStall ad hty hc3) rfl (mid0 _) rfl rfl 0 wlaO_0 rfl (Nat.le_of_ble_eq_true rfl) ⟨Nat.zero_le _, Nat.zero_le _⟩ (mid2 _ _) ?_
  refine g_if_eq (tgt := 65) dX6_bag__10 (by decide) (fun h4 => ?_) (fun h4 => ?_)
  · have hf := ift h4 hf
    refine g_iconst (v := (-1 : Int32)) dX6_bag__65 (by decide) ?_
    obtain rfl := Option.some.inj hf
    exact hr _ _ dX6_bag__66
  · have hf := iff_ h4 hf
    refine g_iload_n 2 dX6_bag__13 rfl rfl ?_
    refine g_iconst (v := (0 : Int32)) dX6_bag__14 (by decide) ?_
    refine g_bipush (v := (11 : Int32)) dX6_bag__15 (by decide) ?_
    obtain ⟨v5, hc6, hf⟩ := obd_some hf
    refine g_callSi (As := [.int a2, .int (0 : Int32), .int (11 : Int32)]) (rest := []) (w2 := (wO cs ad s1)) 0 dX6_bag__17 vX6_bag__61 (c_X6_in hty hc6) rfl (midm _) rfl (Nat.le_of_ble_eq_true rfl) ⟨Nat.zero_le _, Nat.zero_le _⟩ (midn _) ?_
    refine g_if_eq (tgt := 65) dX6_bag__20 (by decide) (fun h7 => ?_) (fun h7 => ?_)
    · have hf := ift h7 hf
      refine g_iconst (v := (-1 : Int32)) dX6_bag__65 (by decide) ?_
      obtain rfl := Option.some.inj hf
      exact hr _ _ dX6_bag__66
    · have hf := iff_ h7 hf
      refine g_iload_n 3 dX6_bag__23 rfl rfl ?_
      obtain ⟨v8, hc9, hf⟩ := obd_some hf
      refine g_callSi (As := [.int a3]) (rest := []) (w2 := (wO cs ad s1)) 0 dX6_bag__24 vX6_bag__173 (c_X6_isSort hty hc9) rfl (midm _) rfl (Nat.le_of_ble_eq_true rfl) ⟨Nat.zero_le _, Nat.zero_le _⟩ (midn _) ?_
      refine g_if_eq (tgt := 65) dX6_bag__27 (by decide) (fun h10 => ?_) (fun h10 => ?_)
      · have hf := ift h10 hf
        refine g_iconst (v := (-1 : Int32)) dX6_bag__65 (by decide) ?_
        obtain rfl := Option.some.inj hf
        exact hr _ _ dX6_bag__66
      · have hf := iff_ h10 hf
        refine g_iload 4 dX6_bag__30 rfl ?_
        refine g_iconst (v := (1 : Int32)) dX6_bag__32 (by decide) ?_
        refine g_sipush (v := (999 : Int32)) dX6_bag__33 (by decide) ?_
        obtain ⟨v11, hc12, hf⟩ := obd_some hf
        refine g_callSi (As := [.int a4, .int (1 : Int32), .int (999 : Int32)]) (rest := []) (w2 := (wO cs ad s1)) 0 dX6_bag__36 vX6_bag__61 (c_X6_in hty hc12) rfl (midm _) rfl (Nat.le_of_ble_eq_true rfl) ⟨Nat.zero_le _, Nat.zero_le _⟩ (midn _) ?_
        refine g_if_eq (tgt := 65) dX6_bag__39 (by decide) (fun h13 => ?_) (fun h13 => ?_)
        · have hf := ift h13 hf
          refine g_iconst (v := (-1 : Int32)) dX6_bag__65 (by decide) ?_
          obtain rfl := Option.some.inj hf
          exact hr _ _ dX6_bag__66
        · have hf := iff_ h13 hf
          refine g_iload 5 dX6_bag__42 rfl ?_
          refine g_iconst (v := (0 : Int32)) dX6_bag__44 (by decide) ?_
          refine g_sipush (v := (999 : Int32)) dX6_bag__45 (by decide) ?_
          obtain ⟨v14, hc15, hf⟩ := obd_some hf
          refine g_callSi (As := [.int a5, .int (0 : Int32), .int (999 : Int32)]) (rest := []) (w2 := (wO cs ad s1)) 0 dX6_bag__48 vX6_bag__61 (c_X6_in hty hc15) rfl (midm _) rfl (Nat.le_of_ble_eq_true rfl) ⟨Nat.zero_le _, Nat.zero_le _⟩ (midn _) ?_
          refine g_if_eq (tgt := 65) dX6_bag__51 (by decide) (fun h16 => ?_) (fun h16 => ?_)
          · have hf := ift h16 hf
            refine g_iconst (v := (-1 : Int32)) dX6_bag__65 (by decide) ?_
            obtain rfl := Option.some.inj hf
            exact hr _ _ dX6_bag__66
          · have hf := iff_ h16 hf
            refine g_iload 6 dX6_bag__54 rfl ?_
            refine g_iconst (v := (0 : Int32)) dX6_bag__56 (by decide) ?_
            refine g_bipush (v := (99 : Int32)) dX6_bag__57 (by decide) ?_
            obtain ⟨v17, hc18, hf⟩ := obd_some hf
            refine g_callSi (As := [.int a6, .int (0 : Int32), .int (99 : Int32)]) (rest := []) (w2 := (wO cs ad s1)) 0 dX6_bag__59 vX6_bag__61 (c_X6_in hty hc18) rfl (midm _) rfl (Nat.le_of_ble_eq_true rfl) ⟨Nat.zero_le _, Nat.zero_le _⟩ (midn _) ?_
            refine g_if_ne (tgt := 67) dX6_bag__62 (by decide) (fun h19 => ?_) (fun h19 => ?_)
            · have hf := iff_ h19 hf
              refine g_aload_n 0 dX6_bag__67 rfl rfl ?_
              refine g_get (ci := 6) (T := TX6) (N := 29) 0 2 (.ref (ad 1)) dX6_bag__68 iX6_bag__X6 rfl jX6_bag__7 (by decide) wlaO_0 rfl ?_
              refine g_iconst (v := (0 : Int32)) dX6_bag__71 (by decide) ?_
              obtain ⟨h20, hf⟩ := ochi_some hf
              refine g_iald 1 0 dX6_bag__72 wlaO_1 (tI hty) h20 ?_
              refine g_bipush (v := (30 : Int32)) dX6_bag__73 (by decide) ?_
              refine g_icmp_ne (tgt := 81) dX6_bag__75 (by decide) (fun h21 => ?_) (fun h21 => ?_)
              · have hf := iff_ h21 hf
                refine g_iconst (v := (1 : Int32)) dX6_bag__81 (by decide) ?_
                refine g_bipush (v := (6 : Int32)) dX6_bag__82 (by decide) ?_
                refine g_aload_n 0 dX6_bag__84 rfl rfl ?_
                refine g_get (ci := 6) (T := TX6) (N := 29) 0 2 (.ref (ad 1)) dX6_bag__85 iX6_bag__X6 rfl jX6_bag__7 (by decide) wlaO_0 rfl ?_
                refine g_iconst (v := (0 : Int32)) dX6_bag__88 (by decide) ?_
                obtain ⟨h22, hf⟩ := ochi_some hf
                refine g_iald 1 0 dX6_bag__89 wlaO_1 (tI hty) h22 ?_
                refine g_imul dX6_bag__90 ?_
                refine g_iadd dX6_bag__91 ?_
                obtain ⟨z23, e_z23, hf⟩ := olt_some hf
                refine g_cast rfl rfl (congrArg (fun q => Value.int q :: []) e_z23) rfl ?_
                refine g_istore (lv2 := [(7, .int z23), (0, .ref (ad 0)), (1, .int a1), (2, .int a2), (3, .int a3), (4, .int a4), (5, .int a5), (6, .int a6)]) dX6_bag__92 (by decide) rfl ?_
                refine g_aload_n 1 dX6_bag__94 rfl rfl ?_
                refine g_get (ci := 6) (T := TX6) (N := 29) 0 2 (.ref (ad 1)) dX6_bag__95 iX6_bag__X6 rfl jX6_bag__7 (by decide) wlaO_0 rfl ?_
                refine g_iload 0 dX6_bag__98 rfl ?_
                refine g_iload_n 2 dX6_bag__100 rfl rfl ?_
                obtain ⟨h24, hf⟩ := ochi_some hf
                obtain ⟨s25, e_s25, hf⟩ := olt_some hf
                refine g_iast (w2 := (wO cs ad s25)) 1 0 dX6_bag__101 wlaO_1 (tI hty) h24 (wlsO_1.trans (congrArg (wO cs ad) e_s25)) ?_
                refine g_aload_n 1 dX6_bag__102 rfl rfl ?_
                refine g_get (ci := 6) (T := TX6) (N := 29) 0 2 (.ref (ad 1)) dX6_bag__103 iX6_bag__X6 rfl jX6_bag__7 (by decide) wlaO_0 rfl ?_
                refine g_iload 0 dX6_bag__106 rfl ?_
                refine g_iconst (v := (1 : Int32)) dX6_bag__108 (by decide) ?_
                refine g_iadd dX6_bag__109 ?_
                refine g_iload_n 3 dX6_bag__110 rfl rfl ?_
                obtain ⟨h26, hf⟩ := ochi_some hf
                obtain ⟨s27, e_s27, hf⟩ := olt_some hf
                refine g_iast (w2 := (wO cs ad s27)) 1 0 dX6_bag__111 wlaO_1 (tI hty) h26 (wlsO_1.trans (congrArg (wO cs ad) e_s27)) ?_
                refine g_aload_n 1 dX6_bag__112 rfl rfl ?_
                refine g_get (ci := 6) (T := TX6) (N := 29) 0 2 (.ref (ad 1)) dX6_bag__113 iX6_bag__X6 rfl jX6_bag__7 (by decide) wlaO_0 rfl ?_
                refine g_iload 0 dX6_bag__116 rfl ?_
                refine g_iconst (v := (2 : Int32)) dX6_bag__118 (by decide) ?_
                refine g_iadd dX6_bag__119 ?_
                refine g_iload_n 4 dX6_bag__120 rfl rfl ?_
                obtain ⟨h28, hf⟩ := ochi_some hf
                obtain ⟨s29, e_s29, hf⟩ := olt_some hf
                refine g_iast (w2 := (wO cs ad s29)) 1 0 dX6_bag__121 wlaO_1 (tI hty) h28 (wlsO_1.trans (congrArg (wO cs ad) e_s29)) ?_
                refine g_aload_n 1 dX6_bag__122 rfl rfl ?_
                refine g_get (ci := 6) (T := TX6) (N := 29) 0 2 (.ref (ad 1)) dX6_bag__123 iX6_bag__X6 rfl jX6_bag__7 (by decide) wlaO_0 rfl ?_
                refine g_iload 0 dX6_bag__126 rfl ?_
                refine g_iconst (v := (3 : Int32)) dX6_bag__128 (by decide) ?_
                refine g_iadd dX6_bag__129 ?_
                refine g_iload 5 dX6_bag__130 rfl ?_
                obtain ⟨h30, hf⟩ := ochi_some hf
                obtain ⟨s31, e_s31, hf⟩ := olt_some hf
                refine g_iast (w2 := (wO cs ad s31)) 1 0 dX6_bag__132 wlaO_1 (tI hty) h30 (wlsO_1.trans (congrArg (wO cs ad) e_s31)) ?_
                refine g_aload_n 1 dX6_bag__133 rfl rfl ?_
                refine g_get (ci := 6) (T := TX6) (N := 29) 0 2 (.ref (ad 1)) dX6_bag__134 iX6_bag__X6 rfl jX6_bag__7 (by decide) wlaO_0 rfl ?_
                refine g_iload 0 dX6_bag__137 rfl ?_
                refine g_iconst (v := (4 : Int32)) dX6_bag__139 (by decide) ?_
                refine g_iadd dX6_bag__140 ?_
                refine g_iload 6 dX6_bag__141 rfl ?_
                obtain ⟨h32, hf⟩ := ochi_some hf
                obtain ⟨s33, e_s33, hf⟩ := olt_some hf
                refine g_iast (w2 := (wO cs ad s33)) 1 0 dX6_bag__143 wlaO_1 (tI hty) h32 (wlsO_1.trans (congrArg (wO cs ad) e_s33)) ?_
                refine g_aload_n 1 dX6_bag__144 rfl rfl ?_
                refine g_get (ci := 6) (T := TX6) (N := 29) 0 2 (.ref (ad 1)) dX6_bag__145 iX6_bag__X6 rfl jX6_bag__7 (by decide) wlaO_0 rfl ?_
                refine g_iload 0 dX6_bag__148 rfl ?_
                refine g_iconst (v := (5 : Int32)) dX6_bag__150 (by decide) ?_
                refine g_iadd dX6_bag__151 ?_
                refine g_iload 7 dX6_bag__152 rfl ?_
                obtain ⟨h34, hf⟩ := ochi_some hf
                obtain ⟨s35, e_s35, hf⟩ := olt_some hf
                refine g_iast (w2 := (wO cs ad s35)) 1 0 dX6_bag__154 wlaO_1 (tI hty) h34 (wlsO_1.trans (congrArg (wO cs ad) e_s35)) ?_
                refine g_aload_n 1 dX6_bag__155 rfl rfl ?_
                refine g_get (ci := 6) (T := TX6) (N := 29) 0 2 (.ref (ad 1)) dX6_bag__156 iX6_bag__X6 rfl jX6_bag__7 (by decide) wlaO_0 rfl ?_
                refine g_iconst (v := (0 : Int32)) dX6_bag__159 (by decide) ?_
                refine g_dup2 dX6_bag__160 rfl rfl ?_
                obtain ⟨h36, hf⟩ := ochi_some hf
                refine g_iald 1 0 dX6_bag__161 wlaO_1 (tI hty) h36 ?_
                refine g_iconst (v := (1 : Int32)) dX6_bag__162 (by decide) ?_
                refine g_iadd dX6_bag__163 ?_
                obtain ⟨z37, e_z37, hf⟩ := olt_some hf
                refine g_cast rfl rfl (congrArg (fun q => Value.int q :: [.int (0 : Int32), .ref (ad 1)]) e_z37) rfl ?_
                obtain ⟨h38, hf⟩ := ochi_some hf
                obtain ⟨s39, e_s39, hf⟩ := olt_some hf
                refine g_iast (w2 := (wO cs ad s39)) 1 0 dX6_bag__164 wlaO_1 (tI hty) h38 (wlsO_1.trans (congrArg (wO cs ad) e_s39)) ?_
                refine g_aload_n 1 dX6_bag__165 rfl rfl ?_
                refine g_get (ci := 6) (T := TX6) (N := 29) 0 2 (.ref (ad 1)) dX6_bag__166 iX6_bag__X6 rfl jX6_bag__7 (by decide) wlaO_0 rfl ?_
                refine g_iconst (v := (0 : Int32)) dX6_bag__169 (by decide) ?_
                obtain ⟨h40, hf⟩ := ochi_some hf
                refine g_iald 1 0 dX6_bag__170 wlaO_1 (tI hty) h40 ?_
                refine g_iconst (v := (1 : Int32)) dX6_bag__171 (by decide) ?_
                refine g_isub dX6_bag__172 ?_
                obtain rfl := Option.some.inj hf
                exact hr _ _ dX6_bag__173
              · have hf := ift h21 hf
                refine g_bipush (v := (-3 : Int32)) dX6_bag__78 (by decide) ?_
                obtain rfl := Option.some.inj hf
                exact hr _ _ dX6_bag__80
            · have hf := ift h19 hf
              refine g_iconst (v := (-1 : Int32)) dX6_bag__65 (by decide) ?_
              obtain rfl := Option.some.inj hf
              exact hr _ _ dX6_bag__66

-- ThumbScaleModel about (II)J
def rmX6_about : Room := { frames := 3, cells := 0, slots := 0, locals := 65 }
def kX6_about : MK := (cX6_about, 3, RX6, wsX6_about, (some .long), rmX6_about)

set_option maxRecDepth 20000 in
theorem jX6_about_54 : Cond.fieldLink RX6 54 (TX6 0).1 (TX6 0).2.1 (TX6 0).2.2.1 ∈ wsX6_about := by decide +kernel
set_option maxRecDepth 20000 in
theorem iX6_about_X6 : ∀ x ∈ u_ws RX6 TX6 29, x ∈ wsX6_about := by decide +kernel
set_option maxRecDepth 20000 in
theorem vX6_about_186 : KV kX6_about 186 RX6 yX6_isBag wsX6_isBag rmX6_isBag 1 := ⟨_, _, _, _, gX6_about_X6_isBag, rfl, rfl, rfl, by decide +kernel, ⟨by decide, by decide⟩⟩
set_option maxRecDepth 20000 in
theorem qX6_about_189 : Cond.constantLong RX6 189 (-1000000000000000000 : Int64) ∈ wsX6_about := by decide +kernel
set_option maxRecDepth 20000 in
theorem vX6_about_61 : KS kX6_about 61 yX6_in wsX6_in rmX6_in 3 := ⟨_, _, _, _, gX6_about_X6_in, rfl, rfl, rfl, by decide +kernel, ⟨by decide, by decide⟩⟩
set_option maxRecDepth 20000 in
theorem vX6_about_191 : KV kX6_about 191 RX6 yX6_stepsOf wsX6_stepsOf rmX6_stepsOf 1 := ⟨_, _, _, _, gX6_about_X6_stepsOf, rfl, rfl, rfl, by decide +kernel, ⟨by decide, by decide⟩⟩
set_option maxRecDepth 20000 in
theorem vX6_about_180 : KV kX6_about 180 RX6 yX6_shortOf wsX6_shortOf rmX6_shortOf 1 := ⟨_, _, _, _, gX6_about_X6_shortOf, rfl, rfl, rfl, by decide +kernel, ⟨by decide, by decide⟩⟩
set_option maxRecDepth 20000 in
theorem vX6_about_155 : KV kX6_about 155 RX6 yX6_bag wsX6_bag rmX6_bag 2 := ⟨_, _, _, _, gX6_about_X6_bag, rfl, rfl, rfl, by decide +kernel, ⟨by decide, by decide⟩⟩
def f_X6_about (F : Nat) (s : SO) (a1 : Int32) (a2 : Int32) : Option (Int64 × SO) :=
    olt (uO_thrown s (0 : Int32)) (fun s1 =>
    obd (f_X6_isBag F s1 a1) (fun v2 =>
    (if v2 = 0 then
    some ((-1000000000000000000 : Int64), s1)
    else
    obd (f_X6_in F a2 (0 : Int32) (4 : Int32)) (fun v5 =>
    (if v5 = 0 then
    some ((-1000000000000000000 : Int64), s1)
    else
    (if (3 : Int32) ≤ a2 then
    (if a2 = (3 : Int32) then
    obd (f_X6_shortOf F s1 a1) (fun v12 =>
    some ((Int32.toInt64 v12), s1))
    else
    obd (f_X6_stepsOf F s1 a1) (fun v10 =>
    some ((Int32.toInt64 v10), s1)))
    else
    obd (f_X6_bag F s1 a1 a2) (fun v14 =>
    some ((Int32.toInt64 v14), s1))))))))

set_option maxHeartbeats 4000000 in
set_option maxRecDepth 100000 in
theorem c_X6_about {l : Launch} {D : va_G} {tys : List (ClassId × FieldType)} {X : XT} {cs : CS} (ad : Nat → Nat) {F : Nat} {s : SO} {a1 : Int32} {a2 : Int32} {r : (Int64 × SO)} (htyM : tys = tyA cs) (hf : f_X6_about F s a1 a2 = some r) : Cl l D tys X yX6_about wsX6_about rmX6_about [.ref (ad 0), .int a1, .int a2] (wO cs ad s) r.1 (wO cs ad r.2) := by
  refine Cl_ofG (by decide +kernel) rfl (Nat.le_of_ble_eq_true rfl) (fun E _ _ hty0 hX0 hr => ?_)
  have hty := hty0.trans htyM
  have hr : Rl E kX6_about r.1 (wO cs ad r.2) := hr
  show G E kX6_about 0 0 0 [(0, .ref (ad 0)), (1, .int a1), (2, .int a2)] [] (wO cs ad s)
  unfold f_X6_about at hf
  refine g_aload_n 0 dX6_about_0 rfl rfl ?_
  refine g_iconst (v := (0 : Int32)) dX6_about_1 (by decide) ?_
  obtain ⟨s1, e_s1, hf⟩ := olt_some hf
  refine g_put (ci := 6) (T := TX6) (N := 29) (ty := .int) (w2 := (wO cs ad s1)) 0 0 (.int (0 : Int32)) tyX6 dX6_about_2 iX6_about_X6 tyX6_ok nmX6 rfl jX6_about_54 (by decide) rfl rfl rfl rfl wlaO_0 (Nat.le_of_ble_eq_true rfl) (wlpO_0_0.trans (congrArg (wO cs ad) e_s1)) ?_
  refine g_aload_n 0 dX6_about_5 rfl rfl ?_
  refine g_iload_n 1 dX6_about_6 rfl rfl ?_
  obtain ⟨v2, hc3, hf⟩ := obd_some hf
  refine g_callVi (ci := 6) (As := [.int a1]) (rest := []) (w2 := (wO cs ad s1)) 0 dX6_about_7 vX6_about_186 (c_X6_isBag ad hty hc3) rfl (mid0 _) rfl rfl 0 wlaO_0 rfl (Nat.le_of_ble_eq_true rfl) ⟨Nat.zero_le _, Nat.zero_le _⟩ (mid2 _ _) ?_
  refine g_if_eq (tgt := 22) dX6_about_10 (by decide) (fun h4 => ?_) (fun h4 => ?_)
  · have hf := ift h4 hf
    refine g_ldc2 (v := (-1000000000000000000 : Int64)) dX6_about_22 qX6_about_189 ?_
    refine g_goto (tgt := 63) dX6_about_25 (by decide) ?_
    obtain rfl := Option.some.inj hf
    exact hr _ _ dX6_about_63
  · have hf := iff_ h4 hf
    refine g_iload_n 2 dX6_about_13 rfl rfl ?_
    refine g_iconst (v := (0 : Int32)) dX6_about_14 (by decide) ?_
    refine g_iconst (v := (4 : Int32)) dX6_about_15 (by decide) ?_
    obtain ⟨v5, hc6, hf⟩ := obd_some hf
    refine g_callSi (As := [.int a2, .int (0 : Int32), .int (4 : Int32)]) (rest := []) (w2 := (wO cs ad s1)) 0 dX6_about_16 vX6_about_61 (c_X6_in hty hc6) rfl (midm _) rfl (Nat.le_of_ble_eq_true rfl) ⟨Nat.zero_le _, Nat.zero_le _⟩ (midn _) ?_
    refine g_if_ne (tgt := 28) dX6_about_19 (by decide) (fun h7 => ?_) (fun h7 => ?_)
    · have hf := iff_ h7 hf
      refine g_iload_n 2 dX6_about_28 rfl rfl ?_
      refine g_iconst (v := (3 : Int32)) dX6_about_29 (by decide) ?_
      refine g_icmp_ge (tgt := 43) dX6_about_30 (by decide) (fun h8 => ?_) (fun h8 => ?_)
      · have hf := ift h8 hf
        refine g_iload_n 2 dX6_about_43 rfl rfl ?_
        refine g_iconst (v := (3 : Int32)) dX6_about_44 (by decide) ?_
        refine g_icmp_ne (tgt := 57) dX6_about_45 (by decide) (fun h9 => ?_) (fun h9 => ?_)
        · have hf := iff_ h9 hf
          refine g_aload_n 0 dX6_about_57 rfl rfl ?_
          refine g_iload_n 1 dX6_about_58 rfl rfl ?_
          obtain ⟨v10, hc11, hf⟩ := obd_some hf
          refine g_callVi (ci := 6) (As := [.int a1]) (rest := []) (w2 := (wO cs ad s1)) 0 dX6_about_59 vX6_about_191 (c_X6_stepsOf ad hty hc11) rfl (mid0 _) rfl rfl 0 wlaO_0 rfl (Nat.le_of_ble_eq_true rfl) ⟨Nat.zero_le _, Nat.zero_le _⟩ (mid2 _ _) ?_
          refine g_i2l dX6_about_62 ?_
          obtain rfl := Option.some.inj hf
          exact hr _ _ dX6_about_63
        · have hf := ift h9 hf
          refine g_aload_n 0 dX6_about_48 rfl rfl ?_
          refine g_iload_n 1 dX6_about_49 rfl rfl ?_
          obtain ⟨v12, hc13, hf⟩ := obd_some hf
          refine g_callVi (ci := 6) (As := [.int a1]) (rest := []) (w2 := (wO cs ad s1)) 0 dX6_about_50 vX6_about_180 (c_X6_shortOf ad hty hc13) rfl (mid0 _) rfl rfl 0 wlaO_0 rfl (Nat.le_of_ble_eq_true rfl) ⟨Nat.zero_le _, Nat.zero_le _⟩ (mid2 _ _) ?_
          refine g_i2l dX6_about_53 ?_
          refine g_goto (tgt := 63) dX6_about_54 (by decide) ?_
          obtain rfl := Option.some.inj hf
          exact hr _ _ dX6_about_63
      · have hf := iff_ h8 hf
        refine g_aload_n 0 dX6_about_33 rfl rfl ?_
        refine g_iload_n 1 dX6_about_34 rfl rfl ?_
        refine g_iload_n 2 dX6_about_35 rfl rfl ?_
        obtain ⟨v14, hc15, hf⟩ := obd_some hf
        refine g_callVi (ci := 6) (As := [.int a1, .int a2]) (rest := []) (w2 := (wO cs ad s1)) 0 dX6_about_36 vX6_about_155 (c_X6_bag ad hty hc15) rfl (mid0 _) rfl rfl 0 wlaO_0 rfl (Nat.le_of_ble_eq_true rfl) ⟨Nat.zero_le _, Nat.zero_le _⟩ (mid2 _ _) ?_
        refine g_i2l dX6_about_39 ?_
        refine g_goto (tgt := 63) dX6_about_40 (by decide) ?_
        obtain rfl := Option.some.inj hf
        exact hr _ _ dX6_about_63
    · have hf := ift h7 hf
      refine g_ldc2 (v := (-1000000000000000000 : Int64)) dX6_about_22 qX6_about_189 ?_
      refine g_goto (tgt := 63) dX6_about_25 (by decide) ?_
      obtain rfl := Option.some.inj hf
      exact hr _ _ dX6_about_63

-- ThumbScaleModel look (IIIIII)I
def rmX6_look : Room := { frames := 4, cells := 0, slots := 0, locals := 94 }
def kX6_look : MK := (cX6_look, 7, RX6, wsX6_look, (some .int), rmX6_look)

set_option maxRecDepth 20000 in
theorem jX6_look_54 : Cond.fieldLink RX6 54 (TX6 0).1 (TX6 0).2.1 (TX6 0).2.2.1 ∈ wsX6_look := by decide +kernel
set_option maxRecDepth 20000 in
theorem iX6_look_X6 : ∀ x ∈ u_ws RX6 TX6 29, x ∈ wsX6_look := by decide +kernel
set_option maxRecDepth 20000 in
theorem vX6_look_194 : KV kX6_look 194 RX6 yX6_isLook wsX6_isLook rmX6_isLook 4 := ⟨_, _, _, _, gX6_look_X6_isLook, rfl, rfl, rfl, by decide +kernel, ⟨by decide, by decide⟩⟩
set_option maxRecDepth 20000 in
theorem vX6_look_61 : KS kX6_look 61 yX6_in wsX6_in rmX6_in 3 := ⟨_, _, _, _, gX6_look_X6_in, rfl, rfl, rfl, by decide +kernel, ⟨by decide, by decide⟩⟩
set_option maxRecDepth 20000 in
theorem vX6_look_198 : KV kX6_look 198 RX6 yX6_looked wsX6_looked rmX6_looked 6 := ⟨_, _, _, _, gX6_look_X6_looked, rfl, rfl, rfl, by decide +kernel, ⟨by decide, by decide⟩⟩
def f_X6_look (F : Nat) (s : SO) (a1 : Int32) (a2 : Int32) (a3 : Int32) (a4 : Int32) (a5 : Int32) (a6 : Int32) : Option (Int32 × SO) :=
    olt (uO_thrown s (0 : Int32)) (fun s1 =>
    obd (f_X6_isLook F s1 a1 a2 a3 a4) (fun v2 =>
    (if v2 = 0 then
    some ((-1 : Int32), s1)
    else
    obd (f_X6_in F a6 (0 : Int32) (1 : Int32)) (fun v5 =>
    (if v5 = 0 then
    some ((-1 : Int32), s1)
    else
    obd ((if a6 = (1 : Int32) then
    some (1 : Int32)
    else
    some (0 : Int32))) (fun v9 =>
    obd (f_X6_looked F s1 a1 a2 a3 a4 a5 v9) (fun v11 =>
    some (v11, s1))))))))

set_option maxHeartbeats 4000000 in
set_option maxRecDepth 100000 in
theorem c_X6_look {l : Launch} {D : va_G} {tys : List (ClassId × FieldType)} {X : XT} {cs : CS} (ad : Nat → Nat) {F : Nat} {s : SO} {a1 : Int32} {a2 : Int32} {a3 : Int32} {a4 : Int32} {a5 : Int32} {a6 : Int32} {r : (Int32 × SO)} (htyM : tys = tyA cs) (hf : f_X6_look F s a1 a2 a3 a4 a5 a6 = some r) : Ci l D tys X yX6_look wsX6_look rmX6_look [.ref (ad 0), .int a1, .int a2, .int a3, .int a4, .int a5, .int a6] (wO cs ad s) r.1 (wO cs ad r.2) := by
  refine Ci_ofG (by decide +kernel) rfl (Nat.le_of_ble_eq_true rfl) .int rfl (vp_nar_int _) (fun E _ _ hty0 hX0 hr => ?_)
  have hty := hty0.trans htyM
  have hr : Ri E kX6_look r.1 (wO cs ad r.2) := hr
  show G E kX6_look 0 0 0 [(0, .ref (ad 0)), (1, .int a1), (2, .int a2), (3, .int a3), (4, .int a4), (5, .int a5), (6, .int a6)] [] (wO cs ad s)
  unfold f_X6_look at hf
  refine g_aload_n 0 dX6_look_0 rfl rfl ?_
  refine g_iconst (v := (0 : Int32)) dX6_look_1 (by decide) ?_
  obtain ⟨s1, e_s1, hf⟩ := olt_some hf
  refine g_put (ci := 6) (T := TX6) (N := 29) (ty := .int) (w2 := (wO cs ad s1)) 0 0 (.int (0 : Int32)) tyX6 dX6_look_2 iX6_look_X6 tyX6_ok nmX6 rfl jX6_look_54 (by decide) rfl rfl rfl rfl wlaO_0 (Nat.le_of_ble_eq_true rfl) (wlpO_0_0.trans (congrArg (wO cs ad) e_s1)) ?_
  refine g_aload_n 0 dX6_look_5 rfl rfl ?_
  refine g_iload_n 1 dX6_look_6 rfl rfl ?_
  refine g_iload_n 2 dX6_look_7 rfl rfl ?_
  refine g_iload_n 3 dX6_look_8 rfl rfl ?_
  refine g_iload 4 dX6_look_9 rfl ?_
  obtain ⟨v2, hc3, hf⟩ := obd_some hf
  refine g_callVi (ci := 6) (As := [.int a1, .int a2, .int a3, .int a4]) (rest := []) (w2 := (wO cs ad s1)) 0 dX6_look_11 vX6_look_194 (c_X6_isLook ad hty hc3) rfl (mid0 _) rfl rfl 0 wlaO_0 rfl (Nat.le_of_ble_eq_true rfl) ⟨Nat.zero_le _, Nat.zero_le _⟩ (mid2 _ _) ?_
  refine g_if_eq (tgt := 52) dX6_look_14 (by decide) (fun h4 => ?_) (fun h4 => ?_)
  · have hf := ift h4 hf
    refine g_iconst (v := (-1 : Int32)) dX6_look_52 (by decide) ?_
    obtain rfl := Option.some.inj hf
    exact hr _ _ dX6_look_53
  · have hf := iff_ h4 hf
    refine g_iload 6 dX6_look_17 rfl ?_
    refine g_iconst (v := (0 : Int32)) dX6_look_19 (by decide) ?_
    refine g_iconst (v := (1 : Int32)) dX6_look_20 (by decide) ?_
    obtain ⟨v5, hc6, hf⟩ := obd_some hf
    refine g_callSi (As := [.int a6, .int (0 : Int32), .int (1 : Int32)]) (rest := []) (w2 := (wO cs ad s1)) 0 dX6_look_21 vX6_look_61 (c_X6_in hty hc6) rfl (midm _) rfl (Nat.le_of_ble_eq_true rfl) ⟨Nat.zero_le _, Nat.zero_le _⟩ (midn _) ?_
    refine g_if_eq (tgt := 52) dX6_look_24 (by decide) (fun h7 => ?_) (fun h7 => ?_)
    · have hf := ift h7 hf
      refine g_iconst (v := (-1 : Int32)) dX6_look_52 (by decide) ?_
      obtain rfl := Option.some.inj hf
      exact hr _ _ dX6_look_53
    · have hf := iff_ h7 hf
      refine g_aload_n 0 dX6_look_27 rfl rfl ?_
      refine g_iload_n 1 dX6_look_28 rfl rfl ?_
      refine g_iload_n 2 dX6_look_29 rfl rfl ?_
      refine g_iload_n 3 dX6_look_30 rfl rfl ?_
      refine g_iload 4 dX6_look_31 rfl ?_
      refine g_iload 5 dX6_look_33 rfl ?_
      refine g_iload 6 dX6_look_35 rfl ?_
      refine g_iconst (v := (1 : Int32)) dX6_look_37 (by decide) ?_
      obtain ⟨v9, hE_v9, hf⟩ := obd_some hf
      have J_v9 : G E kX6_look 0 0 46 [(0, .ref (ad 0)), (1, .int a1), (2, .int a2), (3, .int a3), (4, .int a4), (5, .int a5), (6, .int a6)] [.int v9, .int a5, .int a4, .int a3, .int a2, .int a1, .ref (ad 0)] (wO cs ad s1) := by
        obtain ⟨v11, hc12, hf⟩ := obd_some hf
        refine g_callVi (ci := 6) (As := [.int a1, .int a2, .int a3, .int a4, .int a5, .int v9]) (rest := []) (w2 := (wO cs ad s1)) 0 dX6_look_46 vX6_look_198 (c_X6_looked ad hty hc12) rfl (mid0 _) rfl rfl 0 wlaO_0 rfl (Nat.le_of_ble_eq_true rfl) ⟨Nat.zero_le _, Nat.zero_le _⟩ (mid2 _ _) ?_
        refine g_goto (tgt := 53) dX6_look_49 (by decide) ?_
        obtain rfl := Option.some.inj hf
        exact hr _ _ dX6_look_53
      have hf := hE_v9
      refine g_icmp_ne (tgt := 45) dX6_look_38 (by decide) (fun h10 => ?_) (fun h10 => ?_)
      · have hf := iff_ h10 hf
        refine g_iconst (v := (0 : Int32)) dX6_look_45 (by decide) ?_
        obtain rfl := Option.some.inj hf
        exact g_sub [0, 1, 2, 3, 4, 5, 6] rfl J_v9
      · have hf := ift h10 hf
        refine g_iconst (v := (1 : Int32)) dX6_look_41 (by decide) ?_
        refine g_goto (tgt := 46) dX6_look_42 (by decide) ?_
        obtain rfl := Option.some.inj hf
        exact g_sub [0, 1, 2, 3, 4, 5, 6] rfl J_v9

-- ThumbScaleModel seldom (IIIII)J
def rmX6_seldom : Room := { frames := 4, cells := 0, slots := 0, locals := 94 }
def kX6_seldom : MK := (cX6_seldom, 8, RX6, wsX6_seldom, (some .long), rmX6_seldom)

set_option maxRecDepth 20000 in
theorem jX6_seldom_54 : Cond.fieldLink RX6 54 (TX6 0).1 (TX6 0).2.1 (TX6 0).2.2.1 ∈ wsX6_seldom := by decide +kernel
set_option maxRecDepth 20000 in
theorem iX6_seldom_X6 : ∀ x ∈ u_ws RX6 TX6 29, x ∈ wsX6_seldom := by decide +kernel
set_option maxRecDepth 20000 in
theorem vX6_seldom_194 : KV kX6_seldom 194 RX6 yX6_isLook wsX6_isLook rmX6_isLook 4 := ⟨_, _, _, _, gX6_seldom_X6_isLook, rfl, rfl, rfl, by decide +kernel, ⟨by decide, by decide⟩⟩
set_option maxRecDepth 20000 in
theorem vX6_seldom_198 : KV kX6_seldom 198 RX6 yX6_looked wsX6_looked rmX6_looked 6 := ⟨_, _, _, _, gX6_seldom_X6_looked, rfl, rfl, rfl, by decide +kernel, ⟨by decide, by decide⟩⟩
set_option maxRecDepth 20000 in
theorem jX6_seldom_27 : Cond.fieldLink RX6 27 (TX6 13).1 (TX6 13).2.1 (TX6 13).2.2.1 ∈ wsX6_seldom := by decide +kernel
set_option maxRecDepth 20000 in
theorem jX6_seldom_20 : Cond.fieldLink RX6 20 (TX6 5).1 (TX6 5).2.1 (TX6 5).2.2.1 ∈ wsX6_seldom := by decide +kernel
set_option maxRecDepth 20000 in
theorem vX6_seldom_209 : KV kX6_seldom 209 RX6 yX6_rows wsX6_rows rmX6_rows 3 := ⟨_, _, _, _, gX6_seldom_X6_rows, rfl, rfl, rfl, by decide +kernel, ⟨by decide, by decide⟩⟩
set_option maxRecDepth 20000 in
theorem qX6_seldom_213 : Cond.constantLong RX6 213 (10 : Int64) ∈ wsX6_seldom := by decide +kernel
set_option maxRecDepth 20000 in
theorem vX6_seldom_202 : KS kX6_seldom 202 yX6_power wsX6_power rmX6_power 2 := ⟨_, _, _, _, gX6_seldom_X6_power, rfl, rfl, rfl, by decide +kernel, ⟨by decide, by decide⟩⟩
set_option maxRecDepth 20000 in
theorem jX6_seldom_7 : Cond.fieldLink RX6 7 (TX6 2).1 (TX6 2).2.1 (TX6 2).2.2.1 ∈ wsX6_seldom := by decide +kernel
set_option maxRecDepth 20000 in
theorem qX6_seldom_207 : Cond.constantLong RX6 207 (-2 : Int64) ∈ wsX6_seldom := by decide +kernel
set_option maxRecDepth 20000 in
theorem qX6_seldom_205 : Cond.constantLong RX6 205 (-1 : Int64) ∈ wsX6_seldom := by decide +kernel
def f_X6_seldom (F : Nat) (s : SO) (a1 : Int32) (a2 : Int32) (a3 : Int32) (a4 : Int32) (a5 : Int32) : Option (Int64 × SO) :=
    olt (uO_thrown s (0 : Int32)) (fun s1 =>
    obd (f_X6_isLook F s1 a1 a2 a3 a4) (fun v2 =>
    (if v2 = 0 then
    some ((-1 : Int64), s1)
    else
    obd (f_X6_looked F s1 a1 a2 a3 a4 a5 (0 : Int32)) (fun v5 =>
    (if v5 ≤ (18 : Int32) then
    obd ((if 0 ≤ a5 then
    (if a5 = 0 then
    ochi (1 : Int32) 6 (
    ochi (2 : Int32) 6 (
    some (((O_luck s1) (Int32.toNatClampNeg (1 : Int32))) + ((O_luck s1) (Int32.toNatClampNeg (2 : Int32))))))
    else
    (if a5 = (1 : Int32) then
    ochi (2 : Int32) 6 (
    some ((O_luck s1) (Int32.toNatClampNeg (2 : Int32))))
    else
    some (0 : Int32)))
    else
    some (10 : Int32))) (fun v14 =>
    obd (f_X6_looked F s1 a1 a2 a3 a4 a5 (1 : Int32)) (fun v21 =>
    obd (f_X6_rows F s1 v5 v21 v14) (fun v23 =>
    ochi (0 : Int32) 6 (olt (uO_latest s1 (vp_updL (O_latest s1) (Int32.toNatClampNeg (0 : Int32)) v23)) (fun s26 =>
    obd (f_X6_power F (10 : Int64) v5) (fun v27 =>
    ochi (1 : Int32) 6 (olt (uO_latest s26 (vp_updL (O_latest s26) (Int32.toNatClampNeg (1 : Int32)) v27)) (fun s30 =>
    ochi (262 : Int32) 264 (
    ochi (262 : Int32) 264 (
    obd ((if (999 : Int32) ≤ ((O_s s30) (Int32.toNatClampNeg (262 : Int32))) then
    some (0 : Int32)
    else
    some (1 : Int32))) (fun v34 =>
    olt (((O_s s30) (Int32.toNatClampNeg (262 : Int32))) + v34) (fun z36 =>
    ochi (262 : Int32) 264 (olt (uO_s s30 (upd (O_s s30) (Int32.toNatClampNeg (262 : Int32)) z36)) (fun s38 =>
    ochi (0 : Int32) 6 (
    some (((O_latest s38) (Int32.toNatClampNeg (0 : Int32))), s38))))))))))))))))
    else
    some ((-2 : Int64), s1))))))

set_option maxHeartbeats 4000000 in
set_option maxRecDepth 100000 in
theorem c_X6_seldom {l : Launch} {D : va_G} {tys : List (ClassId × FieldType)} {X : XT} {cs : CS} (ad : Nat → Nat) {F : Nat} {s : SO} {a1 : Int32} {a2 : Int32} {a3 : Int32} {a4 : Int32} {a5 : Int32} {r : (Int64 × SO)} (htyM : tys = tyA cs) (hf : f_X6_seldom F s a1 a2 a3 a4 a5 = some r) : Cl l D tys X yX6_seldom wsX6_seldom rmX6_seldom [.ref (ad 0), .int a1, .int a2, .int a3, .int a4, .int a5] (wO cs ad s) r.1 (wO cs ad r.2) := by
  refine Cl_ofG (by decide +kernel) rfl (Nat.le_of_ble_eq_true rfl) (fun E _ _ hty0 hX0 hr => ?_)
  have hty := hty0.trans htyM
  have hr : Rl E kX6_seldom r.1 (wO cs ad r.2) := hr
  show G E kX6_seldom 0 0 0 [(0, .ref (ad 0)), (1, .int a1), (2, .int a2), (3, .int a3), (4, .int a4), (5, .int a5)] [] (wO cs ad s)
  unfold f_X6_seldom at hf
  refine g_aload_n 0 dX6_seldom_0 rfl rfl ?_
  refine g_iconst (v := (0 : Int32)) dX6_seldom_1 (by decide) ?_
  obtain ⟨s1, e_s1, hf⟩ := olt_some hf
  refine g_put (ci := 6) (T := TX6) (N := 29) (ty := .int) (w2 := (wO cs ad s1)) 0 0 (.int (0 : Int32)) tyX6 dX6_seldom_2 iX6_seldom_X6 tyX6_ok nmX6 rfl jX6_seldom_54 (by decide) rfl rfl rfl rfl wlaO_0 (Nat.le_of_ble_eq_true rfl) (wlpO_0_0.trans (congrArg (wO cs ad) e_s1)) ?_
  refine g_aload_n 0 dX6_seldom_5 rfl rfl ?_
  refine g_iload_n 1 dX6_seldom_6 rfl rfl ?_
  refine g_iload_n 2 dX6_seldom_7 rfl rfl ?_
  refine g_iload_n 3 dX6_seldom_8 rfl rfl ?_
  refine g_iload 4 dX6_seldom_9 rfl ?_
  obtain ⟨v2, hc3, hf⟩ := obd_some hf
  refine g_callVi (ci := 6) (As := [.int a1, .int a2, .int a3, .int a4]) (rest := []) (w2 := (wO cs ad s1)) 0 dX6_seldom_11 vX6_seldom_194 (c_X6_isLook ad hty hc3) rfl (mid0 _) rfl rfl 0 wlaO_0 rfl (Nat.le_of_ble_eq_true rfl) ⟨Nat.zero_le _, Nat.zero_le _⟩ (mid2 _ _) ?_
  refine g_if_ne (tgt := 21) dX6_seldom_14 (by decide) (fun h4 => ?_) (fun h4 => ?_)
  · have hf := iff_ h4 hf
    refine g_aload_n 0 dX6_seldom_21 rfl rfl ?_
    refine g_iload_n 1 dX6_seldom_22 rfl rfl ?_
    refine g_iload_n 2 dX6_seldom_23 rfl rfl ?_
    refine g_iload_n 3 dX6_seldom_24 rfl rfl ?_
    refine g_iload 4 dX6_seldom_25 rfl ?_
    refine g_iload 5 dX6_seldom_27 rfl ?_
    refine g_iconst (v := (0 : Int32)) dX6_seldom_29 (by decide) ?_
    obtain ⟨v5, hc6, hf⟩ := obd_some hf
    refine g_callVi (ci := 6) (As := [.int a1, .int a2, .int a3, .int a4, .int a5, .int (0 : Int32)]) (rest := []) (w2 := (wO cs ad s1)) 0 dX6_seldom_30 vX6_seldom_198 (c_X6_looked ad hty hc6) rfl (mid0 _) rfl rfl 0 wlaO_0 rfl (Nat.le_of_ble_eq_true rfl) ⟨Nat.zero_le _, Nat.zero_le _⟩ (mid2 _ _) ?_
    refine g_istore (lv2 := [(6, .int v5), (0, .ref (ad 0)), (1, .int a1), (2, .int a2), (3, .int a3), (4, .int a4), (5, .int a5)]) dX6_seldom_33 (by decide) rfl ?_
    refine g_iload 0 dX6_seldom_35 rfl ?_
    refine g_bipush (v := (18 : Int32)) dX6_seldom_37 (by decide) ?_
    refine g_icmp_le (tgt := 46) dX6_seldom_39 (by decide) (fun h7 => ?_) (fun h7 => ?_)
    · have hf := ift h7 hf
      refine g_iload 6 dX6_seldom_46 rfl ?_
      obtain ⟨v14, hE_v14, hf⟩ := obd_some hf
      have J_v14 : G E kX6_seldom 0 0 93 [(0, .ref (ad 0)), (1, .int a1), (2, .int a2), (3, .int a3), (4, .int a4), (5, .int a5), (6, .int v5)] [.int v14] (wO cs ad s1) := by
        refine g_istore (lv2 := [(7, .int v14), (0, .ref (ad 0)), (1, .int a1), (2, .int a2), (3, .int a3), (4, .int a4), (5, .int a5), (6, .int v5)]) dX6_seldom_93 (by decide) rfl ?_
        refine g_aload_n 1 dX6_seldom_95 rfl rfl ?_
        refine g_get (ci := 6) (T := TX6) (N := 29) 0 5 (.ref (ad 4)) dX6_seldom_96 iX6_seldom_X6 rfl jX6_seldom_20 (by decide) wlaO_0 rfl ?_
        refine g_iconst (v := (0 : Int32)) dX6_seldom_99 (by decide) ?_
        refine g_aload_n 1 dX6_seldom_100 rfl rfl ?_
        refine g_iload 7 dX6_seldom_101 rfl ?_
        refine g_aload_n 1 dX6_seldom_103 rfl rfl ?_
        refine g_iload_n 2 dX6_seldom_104 rfl rfl ?_
        refine g_iload_n 3 dX6_seldom_105 rfl rfl ?_
        refine g_iload_n 4 dX6_seldom_106 rfl rfl ?_
        refine g_iload 5 dX6_seldom_107 rfl ?_
        refine g_iload 6 dX6_seldom_109 rfl ?_
        refine g_iconst (v := (1 : Int32)) dX6_seldom_111 (by decide) ?_
        obtain ⟨v21, hc22, hf⟩ := obd_some hf
        refine g_callVi (ci := 6) (As := [.int a1, .int a2, .int a3, .int a4, .int a5, .int (1 : Int32)]) (rest := [.int v5, .ref (ad 0), .int (0 : Int32), .ref (ad 4)]) (w2 := (wO cs ad s1)) 0 dX6_seldom_112 vX6_seldom_198 (c_X6_looked ad hty hc22) rfl (mid0 _) rfl rfl 0 wlaO_0 rfl (Nat.le_of_ble_eq_true rfl) ⟨Nat.zero_le _, Nat.zero_le _⟩ (mid2 _ _) ?_
        refine g_iload 0 dX6_seldom_115 rfl ?_
        obtain ⟨v23, hc24, hf⟩ := obd_some hf
        refine g_callVl (ci := 6) (As := [.int v5, .int v21, .int v14]) (rest := [.int (0 : Int32), .ref (ad 4)]) (w2 := (wO cs ad s1)) 0 dX6_seldom_117 vX6_seldom_209 (c_X6_rows ad hty hc24) rfl (mid0 _) rfl rfl 0 wlaO_0 rfl (Nat.le_of_ble_eq_true rfl) ⟨Nat.zero_le _, Nat.zero_le _⟩ (mid2 _ _) ?_
        obtain ⟨h25, hf⟩ := ochi_some hf
        obtain ⟨s26, e_s26, hf⟩ := olt_some hf
        refine g_last (w2 := (wO cs ad s26)) 4 1 dX6_seldom_120 wlaO_4 (tJ hty) h25 (wlsO_4.trans (congrArg (wO cs ad) e_s26)) ?_
        refine g_aload_n 1 dX6_seldom_121 rfl rfl ?_
        refine g_get (ci := 6) (T := TX6) (N := 29) 0 5 (.ref (ad 4)) dX6_seldom_122 iX6_seldom_X6 rfl jX6_seldom_20 (by decide) wlaO_0 rfl ?_
        refine g_iconst (v := (1 : Int32)) dX6_seldom_125 (by decide) ?_
        refine g_ldc2 (v := (10 : Int64)) dX6_seldom_126 qX6_seldom_213 ?_
        refine g_iload 7 dX6_seldom_129 rfl ?_
        obtain ⟨v27, hc28, hf⟩ := obd_some hf
        refine g_callSl (As := [.long (10 : Int64), .int v5]) (rest := [.int (1 : Int32), .ref (ad 4)]) (w2 := (wO cs ad s26)) 0 dX6_seldom_131 vX6_seldom_202 (c_X6_power hty hc28) rfl (midm _) rfl (Nat.le_of_ble_eq_true rfl) ⟨Nat.zero_le _, Nat.zero_le _⟩ (midn _) ?_
        obtain ⟨h29, hf⟩ := ochi_some hf
        obtain ⟨s30, e_s30, hf⟩ := olt_some hf
        refine g_last (w2 := (wO cs ad s30)) 4 1 dX6_seldom_134 wlaO_4 (tJ hty) h29 (wlsO_4.trans (congrArg (wO cs ad) e_s30)) ?_
        refine g_aload_n 1 dX6_seldom_135 rfl rfl ?_
        refine g_get (ci := 6) (T := TX6) (N := 29) 0 2 (.ref (ad 1)) dX6_seldom_136 iX6_seldom_X6 rfl jX6_seldom_7 (by decide) wlaO_0 rfl ?_
        refine g_sipush (v := (262 : Int32)) dX6_seldom_139 (by decide) ?_
        refine g_dup2 dX6_seldom_142 rfl rfl ?_
        obtain ⟨h31, hf⟩ := ochi_some hf
        refine g_iald 1 0 dX6_seldom_143 wlaO_1 (tI hty) h31 ?_
        refine g_aload_n 1 dX6_seldom_144 rfl rfl ?_
        refine g_get (ci := 6) (T := TX6) (N := 29) 0 2 (.ref (ad 1)) dX6_seldom_145 iX6_seldom_X6 rfl jX6_seldom_7 (by decide) wlaO_0 rfl ?_
        refine g_sipush (v := (262 : Int32)) dX6_seldom_148 (by decide) ?_
        obtain ⟨h32, hf⟩ := ochi_some hf
        refine g_iald 1 0 dX6_seldom_151 wlaO_1 (tI hty) h32 ?_
        refine g_sipush (v := (999 : Int32)) dX6_seldom_152 (by decide) ?_
        obtain ⟨v34, hE_v34, hf⟩ := obd_some hf
        have J_v34 : G E kX6_seldom 0 0 163 [(0, .ref (ad 0)), (1, .int a1), (2, .int a2), (3, .int a3), (4, .int a4), (5, .int a5)] [.int v34, .int ((O_s s30) (Int32.toNatClampNeg (262 : Int32))), .int (262 : Int32), .ref (ad 1)] (wO cs ad s30) := by
          refine g_iadd dX6_seldom_163 ?_
          obtain ⟨z36, e_z36, hf⟩ := olt_some hf
          refine g_cast rfl rfl (congrArg (fun q => Value.int q :: [.int (262 : Int32), .ref (ad 1)]) e_z36) rfl ?_
          obtain ⟨h37, hf⟩ := ochi_some hf
          obtain ⟨s38, e_s38, hf⟩ := olt_some hf
          refine g_iast (w2 := (wO cs ad s38)) 1 0 dX6_seldom_164 wlaO_1 (tI hty) h37 (wlsO_1.trans (congrArg (wO cs ad) e_s38)) ?_
          refine g_aload_n 0 dX6_seldom_165 rfl rfl ?_
          refine g_get (ci := 6) (T := TX6) (N := 29) 0 5 (.ref (ad 4)) dX6_seldom_166 iX6_seldom_X6 rfl jX6_seldom_20 (by decide) wlaO_0 rfl ?_
          refine g_iconst (v := (0 : Int32)) dX6_seldom_169 (by decide) ?_
          obtain ⟨h39, hf⟩ := ochi_some hf
          refine g_lald 4 1 dX6_seldom_170 wlaO_4 (tJ hty) h39 ?_
          obtain rfl := Option.some.inj hf
          exact hr _ _ dX6_seldom_171
        have hf := hE_v34
        refine g_icmp_ge (tgt := 162) dX6_seldom_155 (by decide) (fun h35 => ?_) (fun h35 => ?_)
        · have hf := ift h35 hf
          refine g_iconst (v := (0 : Int32)) dX6_seldom_162 (by decide) ?_
          obtain rfl := Option.some.inj hf
          exact g_sub [1, 2, 3, 4, 5, 6] rfl J_v34
        · have hf := iff_ h35 hf
          refine g_iconst (v := (1 : Int32)) dX6_seldom_158 (by decide) ?_
          refine g_goto (tgt := 163) dX6_seldom_159 (by decide) ?_
          obtain rfl := Option.some.inj hf
          exact g_sub [1, 2, 3, 4, 5, 6] rfl J_v34
      have hf := hE_v14
      refine g_if_ge (tgt := 56) dX6_seldom_48 (by decide) (fun h15 => ?_) (fun h15 => ?_)
      · have hf := ift h15 hf
        refine g_iload 6 dX6_seldom_56 rfl ?_
        refine g_if_ne (tgt := 77) dX6_seldom_58 (by decide) (fun h16 => ?_) (fun h16 => ?_)
        · have hf := iff_ h16 hf
          refine g_iload 6 dX6_seldom_77 rfl ?_
          refine g_iconst (v := (1 : Int32)) dX6_seldom_79 (by decide) ?_
          refine g_icmp_ne (tgt := 92) dX6_seldom_80 (by decide) (fun h17 => ?_) (fun h17 => ?_)
          · have hf := iff_ h17 hf
            refine g_iconst (v := (0 : Int32)) dX6_seldom_92 (by decide) ?_
            obtain rfl := Option.some.inj hf
            exact g_sub [1, 2, 3, 4, 5, 6, 0] rfl J_v14
          · have hf := ift h17 hf
            refine g_aload_n 1 dX6_seldom_83 rfl rfl ?_
            refine g_get (ci := 6) (T := TX6) (N := 29) 0 13 (.ref (ad 6)) dX6_seldom_84 iX6_seldom_X6 rfl jX6_seldom_27 (by decide) wlaO_0 rfl ?_
            refine g_iconst (v := (2 : Int32)) dX6_seldom_87 (by decide) ?_
            obtain ⟨h18, hf⟩ := ochi_some hf
            refine g_iald 6 0 dX6_seldom_88 wlaO_6 (tI hty) h18 ?_
            refine g_goto (tgt := 93) dX6_seldom_89 (by decide) ?_
            obtain rfl := Option.some.inj hf
            exact g_sub [1, 2, 3, 4, 5, 6, 0] rfl J_v14
        · have hf := ift h16 hf
          refine g_aload_n 1 dX6_seldom_61 rfl rfl ?_
          refine g_get (ci := 6) (T := TX6) (N := 29) 0 13 (.ref (ad 6)) dX6_seldom_62 iX6_seldom_X6 rfl jX6_seldom_27 (by decide) wlaO_0 rfl ?_
          refine g_iconst (v := (1 : Int32)) dX6_seldom_65 (by decide) ?_
          obtain ⟨h19, hf⟩ := ochi_some hf
          refine g_iald 6 0 dX6_seldom_66 wlaO_6 (tI hty) h19 ?_
          refine g_aload_n 1 dX6_seldom_67 rfl rfl ?_
          refine g_get (ci := 6) (T := TX6) (N := 29) 0 13 (.ref (ad 6)) dX6_seldom_68 iX6_seldom_X6 rfl jX6_seldom_27 (by decide) wlaO_0 rfl ?_
          refine g_iconst (v := (2 : Int32)) dX6_seldom_71 (by decide) ?_
          obtain ⟨h20, hf⟩ := ochi_some hf
          refine g_iald 6 0 dX6_seldom_72 wlaO_6 (tI hty) h20 ?_
          refine g_iadd dX6_seldom_73 ?_
          refine g_goto (tgt := 93) dX6_seldom_74 (by decide) ?_
          obtain rfl := Option.some.inj hf
          exact g_sub [1, 2, 3, 4, 5, 6, 0] rfl J_v14
      · have hf := iff_ h15 hf
        refine g_bipush (v := (10 : Int32)) dX6_seldom_51 (by decide) ?_
        refine g_goto (tgt := 93) dX6_seldom_53 (by decide) ?_
        obtain rfl := Option.some.inj hf
        exact g_sub [1, 2, 3, 4, 5, 6, 0] rfl J_v14
    · have hf := iff_ h7 hf
      refine g_ldc2 (v := (-2 : Int64)) dX6_seldom_42 qX6_seldom_207 ?_
      obtain rfl := Option.some.inj hf
      exact hr _ _ dX6_seldom_45
  · have hf := ift h4 hf
    refine g_ldc2 (v := (-1 : Int64)) dX6_seldom_17 qX6_seldom_205 ?_
    obtain rfl := Option.some.inj hf
    exact hr _ _ dX6_seldom_20

-- ThumbScaleModel counted (I)J
def rmX6_counted : Room := { frames := 1, cells := 0, slots := 0, locals := 22 }
def kX6_counted : MK := (cX6_counted, 4, RX6, wsX6_counted, (some .long), rmX6_counted)

set_option maxRecDepth 20000 in
theorem jX6_counted_54 : Cond.fieldLink RX6 54 (TX6 0).1 (TX6 0).2.1 (TX6 0).2.2.1 ∈ wsX6_counted := by decide +kernel
set_option maxRecDepth 20000 in
theorem iX6_counted_X6 : ∀ x ∈ u_ws RX6 TX6 29, x ∈ wsX6_counted := by decide +kernel
set_option maxRecDepth 20000 in
theorem vX6_counted_61 : KS kX6_counted 61 yX6_in wsX6_in rmX6_in 3 := ⟨_, _, _, _, gX6_counted_X6_in, rfl, rfl, rfl, by decide +kernel, ⟨by decide, by decide⟩⟩
set_option maxRecDepth 20000 in
theorem jX6_counted_7 : Cond.fieldLink RX6 7 (TX6 2).1 (TX6 2).2.1 (TX6 2).2.2.1 ∈ wsX6_counted := by decide +kernel
set_option maxRecDepth 20000 in
theorem jX6_counted_20 : Cond.fieldLink RX6 20 (TX6 5).1 (TX6 5).2.1 (TX6 5).2.2.1 ∈ wsX6_counted := by decide +kernel
set_option maxRecDepth 20000 in
theorem qX6_counted_207 : Cond.constantLong RX6 207 (-2 : Int64) ∈ wsX6_counted := by decide +kernel
set_option maxRecDepth 20000 in
theorem qX6_counted_205 : Cond.constantLong RX6 205 (-1 : Int64) ∈ wsX6_counted := by decide +kernel
def f_X6_counted (F : Nat) (s : SO) (a1 : Int32) : Option (Int64 × SO) :=
    olt (uO_thrown s (0 : Int32)) (fun s1 =>
    obd (f_X6_in F a1 (0 : Int32) (2 : Int32)) (fun v2 =>
    (if v2 = 0 then
    some ((-1 : Int64), s1)
    else
    ochi (262 : Int32) 264 (
    (if ((O_s s1) (Int32.toNatClampNeg (262 : Int32))) = 0 then
    some ((-2 : Int64), s1)
    else
    ochi (1 : Int32) 6 (
    ochi (262 : Int32) 264 (
    ochk (¬ (Int32.toInt64 ((O_s s1) (Int32.toNatClampNeg (262 : Int32)))) = 0) (
    olt (((O_latest s1) (Int32.toNatClampNeg (1 : Int32))) / (Int32.toInt64 ((O_s s1) (Int32.toNatClampNeg (262 : Int32))))) (fun z10 =>
    (if a1 = (2 : Int32) then
    ochi (262 : Int32) 264 (
    some ((Int32.toInt64 ((O_s s1) (Int32.toNatClampNeg (262 : Int32)))), s1))
    else
    (if a1 = (1 : Int32) then
    ochi (1 : Int32) 6 (
    some (((O_latest s1) (Int32.toNatClampNeg (1 : Int32))), s1))
    else
    ochi (0 : Int32) 6 (
    (if (lg_cmp ((O_latest s1) (Int32.toNatClampNeg (0 : Int32))) z10) ≤ 0 then
    ochi (0 : Int32) 6 (
    ochi (262 : Int32) 264 (
    some ((((O_latest s1) (Int32.toNatClampNeg (0 : Int32))) * (Int32.toInt64 ((O_s s1) (Int32.toNatClampNeg (262 : Int32))))), s1)))
    else
    ochi (1 : Int32) 6 (
    some (((O_latest s1) (Int32.toNatClampNeg (1 : Int32))), s1)))))))))))))))

set_option maxHeartbeats 4000000 in
set_option maxRecDepth 100000 in
theorem c_X6_counted {l : Launch} {D : va_G} {tys : List (ClassId × FieldType)} {X : XT} {cs : CS} (ad : Nat → Nat) {F : Nat} {s : SO} {a1 : Int32} {r : (Int64 × SO)} (htyM : tys = tyA cs) (hf : f_X6_counted F s a1 = some r) : Cl l D tys X yX6_counted wsX6_counted rmX6_counted [.ref (ad 0), .int a1] (wO cs ad s) r.1 (wO cs ad r.2) := by
  refine Cl_ofG (by decide +kernel) rfl (Nat.le_of_ble_eq_true rfl) (fun E _ _ hty0 hX0 hr => ?_)
  have hty := hty0.trans htyM
  have hr : Rl E kX6_counted r.1 (wO cs ad r.2) := hr
  show G E kX6_counted 0 0 0 [(0, .ref (ad 0)), (1, .int a1)] [] (wO cs ad s)
  unfold f_X6_counted at hf
  refine g_aload_n 0 dX6_counted_0 rfl rfl ?_
  refine g_iconst (v := (0 : Int32)) dX6_counted_1 (by decide) ?_
  obtain ⟨s1, e_s1, hf⟩ := olt_some hf
  refine g_put (ci := 6) (T := TX6) (N := 29) (ty := .int) (w2 := (wO cs ad s1)) 0 0 (.int (0 : Int32)) tyX6 dX6_counted_2 iX6_counted_X6 tyX6_ok nmX6 rfl jX6_counted_54 (by decide) rfl rfl rfl rfl wlaO_0 (Nat.le_of_ble_eq_true rfl) (wlpO_0_0.trans (congrArg (wO cs ad) e_s1)) ?_
  refine g_iload_n 1 dX6_counted_5 rfl rfl ?_
  refine g_iconst (v := (0 : Int32)) dX6_counted_6 (by decide) ?_
  refine g_iconst (v := (2 : Int32)) dX6_counted_7 (by decide) ?_
  obtain ⟨v2, hc3, hf⟩ := obd_some hf
  refine g_callSi (As := [.int a1, .int (0 : Int32), .int (2 : Int32)]) (rest := []) (w2 := (wO cs ad s1)) 0 dX6_counted_8 vX6_counted_61 (c_X6_in hty hc3) rfl (midm _) rfl (Nat.le_of_ble_eq_true rfl) ⟨Nat.zero_le _, Nat.zero_le _⟩ (midn _) ?_
  refine g_if_ne (tgt := 18) dX6_counted_11 (by decide) (fun h4 => ?_) (fun h4 => ?_)
  · have hf := iff_ h4 hf
    refine g_aload_n 0 dX6_counted_18 rfl rfl ?_
    refine g_get (ci := 6) (T := TX6) (N := 29) 0 2 (.ref (ad 1)) dX6_counted_19 iX6_counted_X6 rfl jX6_counted_7 (by decide) wlaO_0 rfl ?_
    refine g_sipush (v := (262 : Int32)) dX6_counted_22 (by decide) ?_
    obtain ⟨h5, hf⟩ := ochi_some hf
    refine g_iald 1 0 dX6_counted_25 wlaO_1 (tI hty) h5 ?_
    refine g_if_ne (tgt := 33) dX6_counted_26 (by decide) (fun h6 => ?_) (fun h6 => ?_)
    · have hf := iff_ h6 hf
      refine g_aload_n 0 dX6_counted_33 rfl rfl ?_
      refine g_get (ci := 6) (T := TX6) (N := 29) 0 5 (.ref (ad 4)) dX6_counted_34 iX6_counted_X6 rfl jX6_counted_20 (by decide) wlaO_0 rfl ?_
      refine g_iconst (v := (1 : Int32)) dX6_counted_37 (by decide) ?_
      obtain ⟨h7, hf⟩ := ochi_some hf
      refine g_lald 4 1 dX6_counted_38 wlaO_4 (tJ hty) h7 ?_
      refine g_aload_n 0 dX6_counted_39 rfl rfl ?_
      refine g_get (ci := 6) (T := TX6) (N := 29) 0 2 (.ref (ad 1)) dX6_counted_40 iX6_counted_X6 rfl jX6_counted_7 (by decide) wlaO_0 rfl ?_
      refine g_sipush (v := (262 : Int32)) dX6_counted_43 (by decide) ?_
      obtain ⟨h8, hf⟩ := ochi_some hf
      refine g_iald 1 0 dX6_counted_46 wlaO_1 (tI hty) h8 ?_
      refine g_i2l dX6_counted_47 ?_
      obtain ⟨h9, hf⟩ := ochk_some hf
      refine g_ldiv dX6_counted_48 h9 ?_
      obtain ⟨z10, e_z10, hf⟩ := olt_some hf
      refine g_cast rfl rfl (congrArg (fun q => Value.long q :: []) e_z10) rfl ?_
      refine g_lstore_n (lv2 := [(2, .long z10), (0, .ref (ad 0)), (1, .int a1)]) dX6_counted_49 rfl (by decide) rfl ?_
      refine g_iload_n 2 dX6_counted_50 rfl rfl ?_
      refine g_iconst (v := (2 : Int32)) dX6_counted_51 (by decide) ?_
      refine g_icmp_ne (tgt := 67) dX6_counted_52 (by decide) (fun h11 => ?_) (fun h11 => ?_)
      · have hf := iff_ h11 hf
        refine g_iload_n 2 dX6_counted_67 rfl rfl ?_
        refine g_iconst (v := (1 : Int32)) dX6_counted_68 (by decide) ?_
        refine g_icmp_ne (tgt := 81) dX6_counted_69 (by decide) (fun h12 => ?_) (fun h12 => ?_)
        · have hf := iff_ h12 hf
          refine g_aload_n 1 dX6_counted_81 rfl rfl ?_
          refine g_get (ci := 6) (T := TX6) (N := 29) 0 5 (.ref (ad 4)) dX6_counted_82 iX6_counted_X6 rfl jX6_counted_20 (by decide) wlaO_0 rfl ?_
          refine g_iconst (v := (0 : Int32)) dX6_counted_85 (by decide) ?_
          obtain ⟨h13, hf⟩ := ochi_some hf
          refine g_lald 4 1 dX6_counted_86 wlaO_4 (tJ hty) h13 ?_
          refine g_lload_n 0 dX6_counted_87 rfl rfl ?_
          refine g_lcmp dX6_counted_88 ?_
          refine g_if_le (tgt := 101) dX6_counted_89 (by decide) (fun h14 => ?_) (fun h14 => ?_)
          · have hf := ift h14 hf
            refine g_aload_n 1 dX6_counted_101 rfl rfl ?_
            refine g_get (ci := 6) (T := TX6) (N := 29) 0 5 (.ref (ad 4)) dX6_counted_102 iX6_counted_X6 rfl jX6_counted_20 (by decide) wlaO_0 rfl ?_
            refine g_iconst (v := (0 : Int32)) dX6_counted_105 (by decide) ?_
            obtain ⟨h15, hf⟩ := ochi_some hf
            refine g_lald 4 1 dX6_counted_106 wlaO_4 (tJ hty) h15 ?_
            refine g_aload_n 1 dX6_counted_107 rfl rfl ?_
            refine g_get (ci := 6) (T := TX6) (N := 29) 0 2 (.ref (ad 1)) dX6_counted_108 iX6_counted_X6 rfl jX6_counted_7 (by decide) wlaO_0 rfl ?_
            refine g_sipush (v := (262 : Int32)) dX6_counted_111 (by decide) ?_
            obtain ⟨h16, hf⟩ := ochi_some hf
            refine g_iald 1 0 dX6_counted_114 wlaO_1 (tI hty) h16 ?_
            refine g_i2l dX6_counted_115 ?_
            refine g_lmul dX6_counted_116 ?_
            obtain rfl := Option.some.inj hf
            exact hr _ _ dX6_counted_117
          · have hf := iff_ h14 hf
            refine g_aload_n 1 dX6_counted_92 rfl rfl ?_
            refine g_get (ci := 6) (T := TX6) (N := 29) 0 5 (.ref (ad 4)) dX6_counted_93 iX6_counted_X6 rfl jX6_counted_20 (by decide) wlaO_0 rfl ?_
            refine g_iconst (v := (1 : Int32)) dX6_counted_96 (by decide) ?_
            obtain ⟨h17, hf⟩ := ochi_some hf
            refine g_lald 4 1 dX6_counted_97 wlaO_4 (tJ hty) h17 ?_
            refine g_goto (tgt := 117) dX6_counted_98 (by decide) ?_
            obtain rfl := Option.some.inj hf
            exact hr _ _ dX6_counted_117
        · have hf := ift h12 hf
          refine g_aload_n 1 dX6_counted_72 rfl rfl ?_
          refine g_get (ci := 6) (T := TX6) (N := 29) 0 5 (.ref (ad 4)) dX6_counted_73 iX6_counted_X6 rfl jX6_counted_20 (by decide) wlaO_0 rfl ?_
          refine g_iconst (v := (1 : Int32)) dX6_counted_76 (by decide) ?_
          obtain ⟨h18, hf⟩ := ochi_some hf
          refine g_lald 4 1 dX6_counted_77 wlaO_4 (tJ hty) h18 ?_
          refine g_goto (tgt := 117) dX6_counted_78 (by decide) ?_
          obtain rfl := Option.some.inj hf
          exact hr _ _ dX6_counted_117
      · have hf := ift h11 hf
        refine g_aload_n 1 dX6_counted_55 rfl rfl ?_
        refine g_get (ci := 6) (T := TX6) (N := 29) 0 2 (.ref (ad 1)) dX6_counted_56 iX6_counted_X6 rfl jX6_counted_7 (by decide) wlaO_0 rfl ?_
        refine g_sipush (v := (262 : Int32)) dX6_counted_59 (by decide) ?_
        obtain ⟨h19, hf⟩ := ochi_some hf
        refine g_iald 1 0 dX6_counted_62 wlaO_1 (tI hty) h19 ?_
        refine g_i2l dX6_counted_63 ?_
        refine g_goto (tgt := 117) dX6_counted_64 (by decide) ?_
        obtain rfl := Option.some.inj hf
        exact hr _ _ dX6_counted_117
    · have hf := ift h6 hf
      refine g_ldc2 (v := (-2 : Int64)) dX6_counted_29 qX6_counted_207 ?_
      obtain rfl := Option.some.inj hf
      exact hr _ _ dX6_counted_32
  · have hf := ift h4 hf
    refine g_ldc2 (v := (-1 : Int64)) dX6_counted_14 qX6_counted_205 ?_
    obtain rfl := Option.some.inj hf
    exact hr _ _ dX6_counted_17

-- ThumbScaleModel likely (III)J
def rmX6_likely : Room := { frames := 4, cells := 0, slots := 0, locals := 96 }
def kX6_likely : MK := (cX6_likely, 5, RX6, wsX6_likely, (some .long), rmX6_likely)

set_option maxRecDepth 20000 in
theorem jX6_likely_54 : Cond.fieldLink RX6 54 (TX6 0).1 (TX6 0).2.1 (TX6 0).2.2.1 ∈ wsX6_likely := by decide +kernel
set_option maxRecDepth 20000 in
theorem iX6_likely_X6 : ∀ x ∈ u_ws RX6 TX6 29, x ∈ wsX6_likely := by decide +kernel
set_option maxRecDepth 20000 in
theorem vX6_likely_167 : KV kX6_likely 167 RX6 yX6_isWay wsX6_isWay rmX6_isWay 1 := ⟨_, _, _, _, gX6_likely_X6_isWay, rfl, rfl, rfl, by decide +kernel, ⟨by decide, by decide⟩⟩
set_option maxRecDepth 20000 in
theorem qX6_likely_205 : Cond.constantLong RX6 205 (-1 : Int64) ∈ wsX6_likely := by decide +kernel
set_option maxRecDepth 20000 in
theorem vX6_likely_158 : KV kX6_likely 158 RX6 yX6_isStall wsX6_isStall rmX6_isStall 1 := ⟨_, _, _, _, gX6_likely_X6_isStall, rfl, rfl, rfl, by decide +kernel, ⟨by decide, by decide⟩⟩
set_option maxRecDepth 20000 in
theorem vX6_likely_61 : KS kX6_likely 61 yX6_in wsX6_in rmX6_in 3 := ⟨_, _, _, _, gX6_likely_X6_in, rfl, rfl, rfl, by decide +kernel, ⟨by decide, by decide⟩⟩
set_option maxRecDepth 20000 in
theorem vX6_likely_161 : KV kX6_likely 161 RX6 yX6_bagsOf wsX6_bagsOf rmX6_bagsOf 1 := ⟨_, _, _, _, gX6_likely_X6_bagsOf, rfl, rfl, rfl, by decide +kernel, ⟨by decide, by decide⟩⟩
set_option maxRecDepth 20000 in
theorem vX6_likely_215 : KV kX6_likely 215 RX6 yX6_made wsX6_made rmX6_made 2 := ⟨_, _, _, _, gX6_likely_X6_made, rfl, rfl, rfl, by decide +kernel, ⟨by decide, by decide⟩⟩
set_option maxRecDepth 20000 in
theorem qX6_likely_219 : Cond.constantLong RX6 219 (600 : Int64) ∈ wsX6_likely := by decide +kernel
set_option maxRecDepth 20000 in
theorem vX6_likely_202 : KS kX6_likely 202 yX6_power wsX6_power rmX6_power 2 := ⟨_, _, _, _, gX6_likely_X6_power, rfl, rfl, rfl, by decide +kernel, ⟨by decide, by decide⟩⟩
set_option maxRecDepth 20000 in
theorem vX6_likely_221 : KS kX6_likely 221 yX6_part wsX6_part rmX6_part 3 := ⟨_, _, _, _, gX6_likely_X6_part, rfl, rfl, rfl, by decide +kernel, ⟨by decide, by decide⟩⟩
set_option maxRecDepth 20000 in
theorem qX6_likely_207 : Cond.constantLong RX6 207 (-2 : Int64) ∈ wsX6_likely := by decide +kernel
def f_X6_likely (F : Nat) (s : SO) (a1 : Int32) (a2 : Int32) (a3 : Int32) : Option (Int64 × SO) :=
    olt (uO_thrown s (0 : Int32)) (fun s1 =>
    obd (f_X6_isWay F s1 a1) (fun v2 =>
    (if v2 = 0 then
    some ((-1 : Int64), s1)
    else
    obd (f_X6_isStall F s1 a2) (fun v5 =>
    (if v5 = 0 then
    some ((-1 : Int64), s1)
    else
    obd (f_X6_in F a3 (0 : Int32) (1 : Int32)) (fun v8 =>
    (if v8 = 0 then
    some ((-1 : Int64), s1)
    else
    obd (f_X6_bagsOf F s1 a2) (fun v11 =>
    (if v11 ≤ (6 : Int32) then
    obd (f_X6_made F s1 a1 a2) (fun v14 =>
    obd (f_X6_power F (600 : Int64) v11) (fun v16 =>
    obd (f_X6_part F v14 v16 a3) (fun v18 =>
    some (v18, s1))))
    else
    some ((-2 : Int64), s1))))))))))

set_option maxHeartbeats 4000000 in
set_option maxRecDepth 100000 in
theorem c_X6_likely {l : Launch} {D : va_G} {tys : List (ClassId × FieldType)} {X : XT} {cs : CS} (ad : Nat → Nat) {F : Nat} {s : SO} {a1 : Int32} {a2 : Int32} {a3 : Int32} {r : (Int64 × SO)} (htyM : tys = tyA cs) (hf : f_X6_likely F s a1 a2 a3 = some r) : Cl l D tys X yX6_likely wsX6_likely rmX6_likely [.ref (ad 0), .int a1, .int a2, .int a3] (wO cs ad s) r.1 (wO cs ad r.2) := by
  refine Cl_ofG (by decide +kernel) rfl (Nat.le_of_ble_eq_true rfl) (fun E _ _ hty0 hX0 hr => ?_)
  have hty := hty0.trans htyM
  have hr : Rl E kX6_likely r.1 (wO cs ad r.2) := hr
  show G E kX6_likely 0 0 0 [(0, .ref (ad 0)), (1, .int a1), (2, .int a2), (3, .int a3)] [] (wO cs ad s)
  unfold f_X6_likely at hf
  refine g_aload_n 0 dX6_likely_0 rfl rfl ?_
  refine g_iconst (v := (0 : Int32)) dX6_likely_1 (by decide) ?_
  obtain ⟨s1, e_s1, hf⟩ := olt_some hf
  refine g_put (ci := 6) (T := TX6) (N := 29) (ty := .int) (w2 := (wO cs ad s1)) 0 0 (.int (0 : Int32)) tyX6 dX6_likely_2 iX6_likely_X6 tyX6_ok nmX6 rfl jX6_likely_54 (by decide) rfl rfl rfl rfl wlaO_0 (Nat.le_of_ble_eq_true rfl) (wlpO_0_0.trans (congrArg (wO cs ad) e_s1)) ?_
  refine g_aload_n 0 dX6_likely_5 rfl rfl ?_
  refine g_iload_n 1 dX6_likely_6 rfl rfl ?_
  obtain ⟨v2, hc3, hf⟩ := obd_some hf
  refine g_callVi (ci := 6) (As := [.int a1]) (rest := []) (w2 := (wO cs ad s1)) 0 dX6_likely_7 vX6_likely_167 (c_X6_isWay ad hty hc3) rfl (mid0 _) rfl rfl 0 wlaO_0 rfl (Nat.le_of_ble_eq_true rfl) ⟨Nat.zero_le _, Nat.zero_le _⟩ (mid2 _ _) ?_
  refine g_if_eq (tgt := 30) dX6_likely_10 (by decide) (fun h4 => ?_) (fun h4 => ?_)
  · have hf := ift h4 hf
    refine g_ldc2 (v := (-1 : Int64)) dX6_likely_30 qX6_likely_205 ?_
    obtain rfl := Option.some.inj hf
    exact hr _ _ dX6_likely_33
  · have hf := iff_ h4 hf
    refine g_aload_n 0 dX6_likely_13 rfl rfl ?_
    refine g_iload_n 2 dX6_likely_14 rfl rfl ?_
    obtain ⟨v5, hc6, hf⟩ := obd_some hf
    refine g_callVi (ci := 6) (As := [.int a2]) (rest := []) (w2 := (wO cs ad s1)) 0 dX6_likely_15 vX6_likely_158 (c_X6_isStall ad hty hc6) rfl (mid0 _) rfl rfl 0 wlaO_0 rfl (Nat.le_of_ble_eq_true rfl) ⟨Nat.zero_le _, Nat.zero_le _⟩ (mid2 _ _) ?_
    refine g_if_eq (tgt := 30) dX6_likely_18 (by decide) (fun h7 => ?_) (fun h7 => ?_)
    · have hf := ift h7 hf
      refine g_ldc2 (v := (-1 : Int64)) dX6_likely_30 qX6_likely_205 ?_
      obtain rfl := Option.some.inj hf
      exact hr _ _ dX6_likely_33
    · have hf := iff_ h7 hf
      refine g_iload_n 3 dX6_likely_21 rfl rfl ?_
      refine g_iconst (v := (0 : Int32)) dX6_likely_22 (by decide) ?_
      refine g_iconst (v := (1 : Int32)) dX6_likely_23 (by decide) ?_
      obtain ⟨v8, hc9, hf⟩ := obd_some hf
      refine g_callSi (As := [.int a3, .int (0 : Int32), .int (1 : Int32)]) (rest := []) (w2 := (wO cs ad s1)) 0 dX6_likely_24 vX6_likely_61 (c_X6_in hty hc9) rfl (midm _) rfl (Nat.le_of_ble_eq_true rfl) ⟨Nat.zero_le _, Nat.zero_le _⟩ (midn _) ?_
      refine g_if_ne (tgt := 34) dX6_likely_27 (by decide) (fun h10 => ?_) (fun h10 => ?_)
      · have hf := iff_ h10 hf
        refine g_aload_n 0 dX6_likely_34 rfl rfl ?_
        refine g_iload_n 2 dX6_likely_35 rfl rfl ?_
        obtain ⟨v11, hc12, hf⟩ := obd_some hf
        refine g_callVi (ci := 6) (As := [.int a2]) (rest := []) (w2 := (wO cs ad s1)) 0 dX6_likely_36 vX6_likely_161 (c_X6_bagsOf ad hty hc12) rfl (mid0 _) rfl rfl 0 wlaO_0 rfl (Nat.le_of_ble_eq_true rfl) ⟨Nat.zero_le _, Nat.zero_le _⟩ (mid2 _ _) ?_
        refine g_istore (lv2 := [(4, .int v11), (0, .ref (ad 0)), (1, .int a1), (2, .int a2), (3, .int a3)]) dX6_likely_39 (by decide) rfl ?_
        refine g_iload 0 dX6_likely_41 rfl ?_
        refine g_bipush (v := (6 : Int32)) dX6_likely_43 (by decide) ?_
        refine g_icmp_le (tgt := 54) dX6_likely_45 (by decide) (fun h13 => ?_) (fun h13 => ?_)
        · have hf := ift h13 hf
          refine g_aload_n 1 dX6_likely_54 rfl rfl ?_
          refine g_iload_n 2 dX6_likely_55 rfl rfl ?_
          refine g_iload_n 3 dX6_likely_56 rfl rfl ?_
          obtain ⟨v14, hc15, hf⟩ := obd_some hf
          refine g_callVl (ci := 6) (As := [.int a1, .int a2]) (rest := []) (w2 := (wO cs ad s1)) 0 dX6_likely_57 vX6_likely_215 (c_X6_made ad hty hc15) rfl (mid0 _) rfl rfl 0 wlaO_0 rfl (Nat.le_of_ble_eq_true rfl) ⟨Nat.zero_le _, Nat.zero_le _⟩ (mid2 _ _) ?_
          refine g_ldc2 (v := (600 : Int64)) dX6_likely_60 qX6_likely_219 ?_
          refine g_iload 0 dX6_likely_63 rfl ?_
          obtain ⟨v16, hc17, hf⟩ := obd_some hf
          refine g_callSl (As := [.long (600 : Int64), .int v11]) (rest := [.long v14]) (w2 := (wO cs ad s1)) 0 dX6_likely_65 vX6_likely_202 (c_X6_power hty hc17) rfl (midm _) rfl (Nat.le_of_ble_eq_true rfl) ⟨Nat.zero_le _, Nat.zero_le _⟩ (midn _) ?_
          refine g_iload_n 4 dX6_likely_68 rfl rfl ?_
          obtain ⟨v18, hc19, hf⟩ := obd_some hf
          refine g_callSl (As := [.long v14, .long v16, .int a3]) (rest := []) (w2 := (wO cs ad s1)) 0 dX6_likely_69 vX6_likely_221 (c_X6_part hty hc19) rfl (midm _) rfl (Nat.le_of_ble_eq_true rfl) ⟨Nat.zero_le _, Nat.zero_le _⟩ (midn _) ?_
          obtain rfl := Option.some.inj hf
          exact hr _ _ dX6_likely_72
        · have hf := iff_ h13 hf
          refine g_ldc2 (v := (-2 : Int64)) dX6_likely_48 qX6_likely_207 ?_
          refine g_goto (tgt := 72) dX6_likely_51 (by decide) ?_
          obtain rfl := Option.some.inj hf
          exact hr _ _ dX6_likely_72
      · have hf := ift h10 hf
        refine g_ldc2 (v := (-1 : Int64)) dX6_likely_30 qX6_likely_205 ?_
        obtain rfl := Option.some.inj hf
        exact hr _ _ dX6_likely_33

-- ThumbScaleModel belief (II)I
def rmX6_belief : Room := { frames := 2, cells := 0, slots := 0, locals := 43 }
def kX6_belief : MK := (cX6_belief, 4, RX6, wsX6_belief, (some .int), rmX6_belief)

set_option maxRecDepth 20000 in
theorem jX6_belief_54 : Cond.fieldLink RX6 54 (TX6 0).1 (TX6 0).2.1 (TX6 0).2.2.1 ∈ wsX6_belief := by decide +kernel
set_option maxRecDepth 20000 in
theorem iX6_belief_X6 : ∀ x ∈ u_ws RX6 TX6 29, x ∈ wsX6_belief := by decide +kernel
set_option maxRecDepth 20000 in
theorem vX6_belief_167 : KV kX6_belief 167 RX6 yX6_isWay wsX6_isWay rmX6_isWay 1 := ⟨_, _, _, _, gX6_belief_X6_isWay, rfl, rfl, rfl, by decide +kernel, ⟨by decide, by decide⟩⟩
set_option maxRecDepth 20000 in
theorem vX6_belief_61 : KS kX6_belief 61 yX6_in wsX6_in rmX6_in 3 := ⟨_, _, _, _, gX6_belief_X6_in, rfl, rfl, rfl, by decide +kernel, ⟨by decide, by decide⟩⟩
set_option maxRecDepth 20000 in
theorem jX6_belief_36 : Cond.fieldLink RX6 36 (TX6 20).1 (TX6 20).2.1 (TX6 20).2.2.1 ∈ wsX6_belief := by decide +kernel
def f_X6_belief (F : Nat) (s : SO) (a1 : Int32) (a2 : Int32) : Option (Int32 × SO) :=
    olt (uO_thrown s (0 : Int32)) (fun s1 =>
    obd (f_X6_isWay F s1 a1) (fun v2 =>
    (if v2 = 0 then
    some ((-1 : Int32), s1)
    else
    obd (f_X6_in F a2 (0 : Int32) (9 : Int32)) (fun v5 =>
    (if v5 = 0 then
    some ((-1 : Int32), s1)
    else
    ochi a1 6 (
    olt ((O_beliefs s1) (Int32.toNatClampNeg a1)) (fun z9 =>
    ochi a1 6 (olt (uO_beliefs s1 (upd (O_beliefs s1) (Int32.toNatClampNeg a1) a2)) (fun s11 =>
    some (z9, s11))))))))))

set_option maxHeartbeats 4000000 in
set_option maxRecDepth 100000 in
theorem c_X6_belief {l : Launch} {D : va_G} {tys : List (ClassId × FieldType)} {X : XT} {cs : CS} (ad : Nat → Nat) {F : Nat} {s : SO} {a1 : Int32} {a2 : Int32} {r : (Int32 × SO)} (htyM : tys = tyA cs) (hf : f_X6_belief F s a1 a2 = some r) : Ci l D tys X yX6_belief wsX6_belief rmX6_belief [.ref (ad 0), .int a1, .int a2] (wO cs ad s) r.1 (wO cs ad r.2) := by
  refine Ci_ofG (by decide +kernel) rfl (Nat.le_of_ble_eq_true rfl) .int rfl (vp_nar_int _) (fun E _ _ hty0 hX0 hr => ?_)
  have hty := hty0.trans htyM
  have hr : Ri E kX6_belief r.1 (wO cs ad r.2) := hr
  show G E kX6_belief 0 0 0 [(0, .ref (ad 0)), (1, .int a1), (2, .int a2)] [] (wO cs ad s)
  unfold f_X6_belief at hf
  refine g_aload_n 0 dX6_belief_0 rfl rfl ?_
  refine g_iconst (v := (0 : Int32)) dX6_belief_1 (by decide) ?_
  obtain ⟨s1, e_s1, hf⟩ := olt_some hf
  refine g_put (ci := 6) (T := TX6) (N := 29) (ty := .int) (w2 := (wO cs ad s1)) 0 0 (.int (0 : Int32)) tyX6 dX6_belief_2 iX6_belief_X6 tyX6_ok nmX6 rfl jX6_belief_54 (by decide) rfl rfl rfl rfl wlaO_0 (Nat.le_of_ble_eq_true rfl) (wlpO_0_0.trans (congrArg (wO cs ad) e_s1)) ?_
  refine g_aload_n 0 dX6_belief_5 rfl rfl ?_
  refine g_iload_n 1 dX6_belief_6 rfl rfl ?_
  obtain ⟨v2, hc3, hf⟩ := obd_some hf
  refine g_callVi (ci := 6) (As := [.int a1]) (rest := []) (w2 := (wO cs ad s1)) 0 dX6_belief_7 vX6_belief_167 (c_X6_isWay ad hty hc3) rfl (mid0 _) rfl rfl 0 wlaO_0 rfl (Nat.le_of_ble_eq_true rfl) ⟨Nat.zero_le _, Nat.zero_le _⟩ (mid2 _ _) ?_
  refine g_if_eq (tgt := 23) dX6_belief_10 (by decide) (fun h4 => ?_) (fun h4 => ?_)
  · have hf := ift h4 hf
    refine g_iconst (v := (-1 : Int32)) dX6_belief_23 (by decide) ?_
    obtain rfl := Option.some.inj hf
    exact hr _ _ dX6_belief_24
  · have hf := iff_ h4 hf
    refine g_iload_n 2 dX6_belief_13 rfl rfl ?_
    refine g_iconst (v := (0 : Int32)) dX6_belief_14 (by decide) ?_
    refine g_bipush (v := (9 : Int32)) dX6_belief_15 (by decide) ?_
    obtain ⟨v5, hc6, hf⟩ := obd_some hf
    refine g_callSi (As := [.int a2, .int (0 : Int32), .int (9 : Int32)]) (rest := []) (w2 := (wO cs ad s1)) 0 dX6_belief_17 vX6_belief_61 (c_X6_in hty hc6) rfl (midm _) rfl (Nat.le_of_ble_eq_true rfl) ⟨Nat.zero_le _, Nat.zero_le _⟩ (midn _) ?_
    refine g_if_ne (tgt := 25) dX6_belief_20 (by decide) (fun h7 => ?_) (fun h7 => ?_)
    · have hf := iff_ h7 hf
      refine g_aload_n 0 dX6_belief_25 rfl rfl ?_
      refine g_get (ci := 6) (T := TX6) (N := 29) 0 20 (.ref (ad 9)) dX6_belief_26 iX6_belief_X6 rfl jX6_belief_36 (by decide) wlaO_0 rfl ?_
      refine g_iload_n 1 dX6_belief_29 rfl rfl ?_
      obtain ⟨h8, hf⟩ := ochi_some hf
      refine g_iald 9 0 dX6_belief_30 wlaO_9 (tI hty) h8 ?_
      obtain ⟨z9, e_z9, hf⟩ := olt_some hf
      refine g_cast rfl rfl (congrArg (fun q => Value.int q :: []) e_z9) rfl ?_
      refine g_istore_n (lv2 := [(3, .int z9), (0, .ref (ad 0)), (1, .int a1), (2, .int a2)]) dX6_belief_31 rfl (by decide) rfl ?_
      refine g_aload_n 1 dX6_belief_32 rfl rfl ?_
      refine g_get (ci := 6) (T := TX6) (N := 29) 0 20 (.ref (ad 9)) dX6_belief_33 iX6_belief_X6 rfl jX6_belief_36 (by decide) wlaO_0 rfl ?_
      refine g_iload_n 2 dX6_belief_36 rfl rfl ?_
      refine g_iload_n 3 dX6_belief_37 rfl rfl ?_
      obtain ⟨h10, hf⟩ := ochi_some hf
      obtain ⟨s11, e_s11, hf⟩ := olt_some hf
      refine g_iast (w2 := (wO cs ad s11)) 9 0 dX6_belief_38 wlaO_9 (tI hty) h10 (wlsO_9.trans (congrArg (wO cs ad) e_s11)) ?_
      refine g_iload_n 0 dX6_belief_39 rfl rfl ?_
      obtain rfl := Option.some.inj hf
      exact hr _ _ dX6_belief_40
    · have hf := ift h7 hf
      refine g_iconst (v := (-1 : Int32)) dX6_belief_23 (by decide) ?_
      obtain rfl := Option.some.inj hf
      exact hr _ _ dX6_belief_24

-- ThumbScaleModel odds (III)J
def rmX6_odds : Room := { frames := 5, cells := 0, slots := 0, locals := 120 }
def kX6_odds : MK := (cX6_odds, 4, RX6, wsX6_odds, (some .long), rmX6_odds)

set_option maxRecDepth 20000 in
theorem jX6_odds_54 : Cond.fieldLink RX6 54 (TX6 0).1 (TX6 0).2.1 (TX6 0).2.2.1 ∈ wsX6_odds := by decide +kernel
set_option maxRecDepth 20000 in
theorem iX6_odds_X6 : ∀ x ∈ u_ws RX6 TX6 29, x ∈ wsX6_odds := by decide +kernel
set_option maxRecDepth 20000 in
theorem vX6_odds_167 : KV kX6_odds 167 RX6 yX6_isWay wsX6_isWay rmX6_isWay 1 := ⟨_, _, _, _, gX6_odds_X6_isWay, rfl, rfl, rfl, by decide +kernel, ⟨by decide, by decide⟩⟩
set_option maxRecDepth 20000 in
theorem qX6_odds_205 : Cond.constantLong RX6 205 (-1 : Int64) ∈ wsX6_odds := by decide +kernel
set_option maxRecDepth 20000 in
theorem vX6_odds_158 : KV kX6_odds 158 RX6 yX6_isStall wsX6_isStall rmX6_isStall 1 := ⟨_, _, _, _, gX6_odds_X6_isStall, rfl, rfl, rfl, by decide +kernel, ⟨by decide, by decide⟩⟩
set_option maxRecDepth 20000 in
theorem vX6_odds_61 : KS kX6_odds 61 yX6_in wsX6_in rmX6_in 3 := ⟨_, _, _, _, gX6_odds_X6_in, rfl, rfl, rfl, by decide +kernel, ⟨by decide, by decide⟩⟩
set_option maxRecDepth 20000 in
theorem vX6_odds_161 : KV kX6_odds 161 RX6 yX6_bagsOf wsX6_bagsOf rmX6_bagsOf 1 := ⟨_, _, _, _, gX6_odds_X6_bagsOf, rfl, rfl, rfl, by decide +kernel, ⟨by decide, by decide⟩⟩
set_option maxRecDepth 20000 in
theorem qX6_odds_207 : Cond.constantLong RX6 207 (-2 : Int64) ∈ wsX6_odds := by decide +kernel
set_option maxRecDepth 20000 in
theorem vX6_odds_225 : KV kX6_odds 225 RX6 yX6_believedAll wsX6_believedAll rmX6_believedAll 1 := ⟨_, _, _, _, gX6_odds_X6_believedAll, rfl, rfl, rfl, by decide +kernel, ⟨by decide, by decide⟩⟩
set_option maxRecDepth 20000 in
theorem jX6_odds_36 : Cond.fieldLink RX6 36 (TX6 20).1 (TX6 20).2.1 (TX6 20).2.2.1 ∈ wsX6_odds := by decide +kernel
set_option maxRecDepth 20000 in
theorem vX6_odds_215 : KV kX6_odds 215 RX6 yX6_made wsX6_made rmX6_made 2 := ⟨_, _, _, _, gX6_odds_X6_made, rfl, rfl, rfl, by decide +kernel, ⟨by decide, by decide⟩⟩
set_option maxRecDepth 20000 in
theorem vX6_odds_221 : KS kX6_odds 221 yX6_part wsX6_part rmX6_part 3 := ⟨_, _, _, _, gX6_odds_X6_part, rfl, rfl, rfl, by decide +kernel, ⟨by decide, by decide⟩⟩
def f_X6_odds (F : Nat) (s : SO) (a1 : Int32) (a2 : Int32) (a3 : Int32) : Option (Int64 × SO) :=
    olt (uO_thrown s (0 : Int32)) (fun s1 =>
    obd (f_X6_isWay F s1 a1) (fun v2 =>
    (if v2 = 0 then
    some ((-1 : Int64), s1)
    else
    obd (f_X6_isStall F s1 a2) (fun v5 =>
    (if v5 = 0 then
    some ((-1 : Int64), s1)
    else
    obd (f_X6_in F a3 (0 : Int32) (1 : Int32)) (fun v8 =>
    (if v8 = 0 then
    some ((-1 : Int64), s1)
    else
    obd (f_X6_bagsOf F s1 a2) (fun v11 =>
    (if (6 : Int32) < v11 then
    some ((-2 : Int64), s1)
    else
    obd (f_X6_believedAll F s1 a2) (fun v14 =>
    (if (lg_cmp v14 (0 : Int64)) = 0 then
    some ((-2 : Int64), s1)
    else
    ochi a1 6 (
    obd (f_X6_made F s1 a1 a2) (fun v18 =>
    obd (f_X6_believedAll F s1 a2) (fun v20 =>
    obd (f_X6_part F ((Int32.toInt64 ((O_beliefs s1) (Int32.toNatClampNeg a1))) * v18) v20 a3) (fun v22 =>
    some (v22, s1))))))))))))))))

set_option maxHeartbeats 4000000 in
set_option maxRecDepth 100000 in
theorem c_X6_odds {l : Launch} {D : va_G} {tys : List (ClassId × FieldType)} {X : XT} {cs : CS} (ad : Nat → Nat) {F : Nat} {s : SO} {a1 : Int32} {a2 : Int32} {a3 : Int32} {r : (Int64 × SO)} (htyM : tys = tyA cs) (hf : f_X6_odds F s a1 a2 a3 = some r) : Cl l D tys X yX6_odds wsX6_odds rmX6_odds [.ref (ad 0), .int a1, .int a2, .int a3] (wO cs ad s) r.1 (wO cs ad r.2) := by
  refine Cl_ofG (by decide +kernel) rfl (Nat.le_of_ble_eq_true rfl) (fun E _ _ hty0 hX0 hr => ?_)
  have hty := hty0.trans htyM
  have hr : Rl E kX6_odds r.1 (wO cs ad r.2) := hr
  show G E kX6_odds 0 0 0 [(0, .ref (ad 0)), (1, .int a1), (2, .int a2), (3, .int a3)] [] (wO cs ad s)
  unfold f_X6_odds at hf
  refine g_aload_n 0 dX6_odds_0 rfl rfl ?_
  refine g_iconst (v := (0 : Int32)) dX6_odds_1 (by decide) ?_
  obtain ⟨s1, e_s1, hf⟩ := olt_some hf
  refine g_put (ci := 6) (T := TX6) (N := 29) (ty := .int) (w2 := (wO cs ad s1)) 0 0 (.int (0 : Int32)) tyX6 dX6_odds_2 iX6_odds_X6 tyX6_ok nmX6 rfl jX6_odds_54 (by decide) rfl rfl rfl rfl wlaO_0 (Nat.le_of_ble_eq_true rfl) (wlpO_0_0.trans (congrArg (wO cs ad) e_s1)) ?_
  refine g_aload_n 0 dX6_odds_5 rfl rfl ?_
  refine g_iload_n 1 dX6_odds_6 rfl rfl ?_
  obtain ⟨v2, hc3, hf⟩ := obd_some hf
  refine g_callVi (ci := 6) (As := [.int a1]) (rest := []) (w2 := (wO cs ad s1)) 0 dX6_odds_7 vX6_odds_167 (c_X6_isWay ad hty hc3) rfl (mid0 _) rfl rfl 0 wlaO_0 rfl (Nat.le_of_ble_eq_true rfl) ⟨Nat.zero_le _, Nat.zero_le _⟩ (mid2 _ _) ?_
  refine g_if_eq (tgt := 30) dX6_odds_10 (by decide) (fun h4 => ?_) (fun h4 => ?_)
  · have hf := ift h4 hf
    refine g_ldc2 (v := (-1 : Int64)) dX6_odds_30 qX6_odds_205 ?_
    obtain rfl := Option.some.inj hf
    exact hr _ _ dX6_odds_33
  · have hf := iff_ h4 hf
    refine g_aload_n 0 dX6_odds_13 rfl rfl ?_
    refine g_iload_n 2 dX6_odds_14 rfl rfl ?_
    obtain ⟨v5, hc6, hf⟩ := obd_some hf
    refine g_callVi (ci := 6) (As := [.int a2]) (rest := []) (w2 := (wO cs ad s1)) 0 dX6_odds_15 vX6_odds_158 (c_X6_isStall ad hty hc6) rfl (mid0 _) rfl rfl 0 wlaO_0 rfl (Nat.le_of_ble_eq_true rfl) ⟨Nat.zero_le _, Nat.zero_le _⟩ (mid2 _ _) ?_
    refine g_if_eq (tgt := 30) dX6_odds_18 (by decide) (fun h7 => ?_) (fun h7 => ?_)
    · have hf := ift h7 hf
      refine g_ldc2 (v := (-1 : Int64)) dX6_odds_30 qX6_odds_205 ?_
      obtain rfl := Option.some.inj hf
      exact hr _ _ dX6_odds_33
    · have hf := iff_ h7 hf
      refine g_iload_n 3 dX6_odds_21 rfl rfl ?_
      refine g_iconst (v := (0 : Int32)) dX6_odds_22 (by decide) ?_
      refine g_iconst (v := (1 : Int32)) dX6_odds_23 (by decide) ?_
      obtain ⟨v8, hc9, hf⟩ := obd_some hf
      refine g_callSi (As := [.int a3, .int (0 : Int32), .int (1 : Int32)]) (rest := []) (w2 := (wO cs ad s1)) 0 dX6_odds_24 vX6_odds_61 (c_X6_in hty hc9) rfl (midm _) rfl (Nat.le_of_ble_eq_true rfl) ⟨Nat.zero_le _, Nat.zero_le _⟩ (midn _) ?_
      refine g_if_ne (tgt := 34) dX6_odds_27 (by decide) (fun h10 => ?_) (fun h10 => ?_)
      · have hf := iff_ h10 hf
        refine g_aload_n 0 dX6_odds_34 rfl rfl ?_
        refine g_iload_n 2 dX6_odds_35 rfl rfl ?_
        obtain ⟨v11, hc12, hf⟩ := obd_some hf
        refine g_callVi (ci := 6) (As := [.int a2]) (rest := []) (w2 := (wO cs ad s1)) 0 dX6_odds_36 vX6_odds_161 (c_X6_bagsOf ad hty hc12) rfl (mid0 _) rfl rfl 0 wlaO_0 rfl (Nat.le_of_ble_eq_true rfl) ⟨Nat.zero_le _, Nat.zero_le _⟩ (mid2 _ _) ?_
        refine g_bipush (v := (6 : Int32)) dX6_odds_39 (by decide) ?_
        refine g_icmp_gt (tgt := 54) dX6_odds_41 (by decide) (fun h13 => ?_) (fun h13 => ?_)
        · have hf := ift h13 hf
          refine g_ldc2 (v := (-2 : Int64)) dX6_odds_54 qX6_odds_207 ?_
          obtain rfl := Option.some.inj hf
          exact hr _ _ dX6_odds_57
        · have hf := iff_ h13 hf
          refine g_aload_n 0 dX6_odds_44 rfl rfl ?_
          refine g_iload_n 2 dX6_odds_45 rfl rfl ?_
          obtain ⟨v14, hc15, hf⟩ := obd_some hf
          refine g_callVl (ci := 6) (As := [.int a2]) (rest := []) (w2 := (wO cs ad s1)) 0 dX6_odds_46 vX6_odds_225 (c_X6_believedAll ad hty hc15) rfl (mid0 _) rfl rfl 0 wlaO_0 rfl (Nat.le_of_ble_eq_true rfl) ⟨Nat.zero_le _, Nat.zero_le _⟩ (mid2 _ _) ?_
          refine g_lconst (v := (0 : Int64)) dX6_odds_49 (by decide) ?_
          refine g_lcmp dX6_odds_50 ?_
          refine g_if_ne (tgt := 58) dX6_odds_51 (by decide) (fun h16 => ?_) (fun h16 => ?_)
          · have hf := iff_ h16 hf
            refine g_aload_n 0 dX6_odds_58 rfl rfl ?_
            refine g_get (ci := 6) (T := TX6) (N := 29) 0 20 (.ref (ad 9)) dX6_odds_59 iX6_odds_X6 rfl jX6_odds_36 (by decide) wlaO_0 rfl ?_
            refine g_iload_n 1 dX6_odds_62 rfl rfl ?_
            obtain ⟨h17, hf⟩ := ochi_some hf
            refine g_iald 9 0 dX6_odds_63 wlaO_9 (tI hty) h17 ?_
            refine g_i2l dX6_odds_64 ?_
            refine g_aload_n 0 dX6_odds_65 rfl rfl ?_
            refine g_iload_n 1 dX6_odds_66 rfl rfl ?_
            refine g_iload_n 2 dX6_odds_67 rfl rfl ?_
            obtain ⟨v18, hc19, hf⟩ := obd_some hf
            refine g_callVl (ci := 6) (As := [.int a1, .int a2]) (rest := [.long (Int32.toInt64 ((O_beliefs s1) (Int32.toNatClampNeg a1)))]) (w2 := (wO cs ad s1)) 0 dX6_odds_68 vX6_odds_215 (c_X6_made ad hty hc19) rfl (mid0 _) rfl rfl 0 wlaO_0 rfl (Nat.le_of_ble_eq_true rfl) ⟨Nat.zero_le _, Nat.zero_le _⟩ (mid2 _ _) ?_
            refine g_lmul dX6_odds_71 ?_
            refine g_aload_n 0 dX6_odds_72 rfl rfl ?_
            refine g_iload_n 2 dX6_odds_73 rfl rfl ?_
            obtain ⟨v20, hc21, hf⟩ := obd_some hf
            refine g_callVl (ci := 6) (As := [.int a2]) (rest := [.long ((Int32.toInt64 ((O_beliefs s1) (Int32.toNatClampNeg a1))) * v18)]) (w2 := (wO cs ad s1)) 0 dX6_odds_74 vX6_odds_225 (c_X6_believedAll ad hty hc21) rfl (mid0 _) rfl rfl 0 wlaO_0 rfl (Nat.le_of_ble_eq_true rfl) ⟨Nat.zero_le _, Nat.zero_le _⟩ (mid2 _ _) ?_
            refine g_iload_n 3 dX6_odds_77 rfl rfl ?_
            obtain ⟨v22, hc23, hf⟩ := obd_some hf
            refine g_callSl (As := [.long ((Int32.toInt64 ((O_beliefs s1) (Int32.toNatClampNeg a1))) * v18), .long v20, .int a3]) (rest := []) (w2 := (wO cs ad s1)) 0 dX6_odds_78 vX6_odds_221 (c_X6_part hty hc23) rfl (midm _) rfl (Nat.le_of_ble_eq_true rfl) ⟨Nat.zero_le _, Nat.zero_le _⟩ (midn _) ?_
            obtain rfl := Option.some.inj hf
            exact hr _ _ dX6_odds_81
          · have hf := ift h16 hf
            refine g_ldc2 (v := (-2 : Int64)) dX6_odds_54 qX6_odds_207 ?_
            obtain rfl := Option.some.inj hf
            exact hr _ _ dX6_odds_57
      · have hf := ift h10 hf
        refine g_ldc2 (v := (-1 : Int64)) dX6_odds_30 qX6_odds_205 ?_
        obtain rfl := Option.some.inj hf
        exact hr _ _ dX6_odds_33

-- ThumbScaleModel judged (I)I
def rmX6_judged : Room := { frames := 5, cells := 0, slots := 0, locals := 120 }
def kX6_judged : MK := (cX6_judged, 4, RX6, wsX6_judged, (some .int), rmX6_judged)

set_option maxRecDepth 20000 in
theorem jX6_judged_54 : Cond.fieldLink RX6 54 (TX6 0).1 (TX6 0).2.1 (TX6 0).2.2.1 ∈ wsX6_judged := by decide +kernel
set_option maxRecDepth 20000 in
theorem iX6_judged_X6 : ∀ x ∈ u_ws RX6 TX6 29, x ∈ wsX6_judged := by decide +kernel
set_option maxRecDepth 20000 in
theorem vX6_judged_158 : KV kX6_judged 158 RX6 yX6_isStall wsX6_isStall rmX6_isStall 1 := ⟨_, _, _, _, gX6_judged_X6_isStall, rfl, rfl, rfl, by decide +kernel, ⟨by decide, by decide⟩⟩
set_option maxRecDepth 20000 in
theorem vX6_judged_161 : KV kX6_judged 161 RX6 yX6_bagsOf wsX6_bagsOf rmX6_bagsOf 1 := ⟨_, _, _, _, gX6_judged_X6_bagsOf, rfl, rfl, rfl, by decide +kernel, ⟨by decide, by decide⟩⟩
set_option maxRecDepth 20000 in
theorem vX6_judged_225 : KV kX6_judged 225 RX6 yX6_believedAll wsX6_believedAll rmX6_believedAll 1 := ⟨_, _, _, _, gX6_judged_X6_believedAll, rfl, rfl, rfl, by decide +kernel, ⟨by decide, by decide⟩⟩
set_option maxRecDepth 20000 in
theorem jX6_judged_65 : Cond.fieldLink RX6 65 (TX6 17).1 (TX6 17).2.1 (TX6 17).2.2.1 ∈ wsX6_judged := by decide +kernel
set_option maxRecDepth 20000 in
theorem jX6_judged_36 : Cond.fieldLink RX6 36 (TX6 20).1 (TX6 20).2.1 (TX6 20).2.2.1 ∈ wsX6_judged := by decide +kernel
set_option maxRecDepth 20000 in
theorem vX6_judged_215 : KV kX6_judged 215 RX6 yX6_made wsX6_made rmX6_made 2 := ⟨_, _, _, _, gX6_judged_X6_made, rfl, rfl, rfl, by decide +kernel, ⟨by decide, by decide⟩⟩
def f_X6_judged_L42 (F : Nat) (a1 : Int32) (s13 : SO) : Nat → Int32 → Int32 → Option (Int32 × SO)
  | 0, _, _ => none
  | n + 1, x11, x12 =>
    (if (O_ways s13) ≤ x12 then
    some (x11, s13)
    else
    ochi x12 6 (
    obd (f_X6_made F s13 x12 a1) (fun v16 =>
    ochi x11 6 (
    obd (f_X6_made F s13 x11 a1) (fun v19 =>
    (if (lg_cmp ((Int32.toInt64 ((O_beliefs s13) (Int32.toNatClampNeg x12))) * v16) ((Int32.toInt64 ((O_beliefs s13) (Int32.toNatClampNeg x11))) * v19)) ≤ 0 then
    f_X6_judged_L42 F a1 s13 n x11 (x12 + 1)
    else
    f_X6_judged_L42 F a1 s13 n x12 (x12 + 1)))))))

def f_X6_judged (F : Nat) (s : SO) (a1 : Int32) : Option (Int32 × SO) :=
    olt (uO_thrown s (0 : Int32)) (fun s1 =>
    obd (f_X6_isStall F s1 a1) (fun v2 =>
    (if v2 = 0 then
    some ((-1 : Int32), s1)
    else
    obd (f_X6_bagsOf F s1 a1) (fun v5 =>
    (if (6 : Int32) < v5 then
    some ((-2 : Int32), s1)
    else
    obd (f_X6_believedAll F s1 a1) (fun v8 =>
    (if (lg_cmp v8 (0 : Int64)) = 0 then
    some ((-2 : Int32), s1)
    else
    f_X6_judged_L42 F a1 s1 F (0 : Int32) (1 : Int32))))))))

set_option maxHeartbeats 4000000 in
set_option maxRecDepth 100000 in
theorem w_X6_judged_L42 {E : GE} {cs : CS} {ad : Nat → Nat} {F : Nat} {a1 : Int32} {s13 : SO} {r : (Int32 × SO)} (hty : eT E = tyA cs) (hr : Ri E kX6_judged r.1 (wO cs ad r.2)) : ∀ (n : Nat) (x11 : Int32) (x12 : Int32), f_X6_judged_L42 F a1 s13 n x11 x12 = some r → G E kX6_judged 0 0 42 [(0, .ref (ad 0)), (1, .int a1), (2, .int x11), (3, .int x12)] [] (wO cs ad s13) := by
  intro n
  induction n with
  | zero =>
    intro x11 x12 hf
    cases (show (none : Option (Int32 × SO)) = some r from hf)
  | succ n ih =>
    intro x11 x12 hf
    rw [f_X6_judged_L42] at hf
    refine g_iload_n 3 dX6_judged_42 rfl rfl ?_
    refine g_aload_n 0 dX6_judged_43 rfl rfl ?_
    refine g_get (ci := 6) (T := TX6) (N := 29) 0 17 (.int (O_ways s13)) dX6_judged_44 iX6_judged_X6 rfl jX6_judged_65 (by decide) wlaO_0 rfl ?_
    refine g_icmp_ge (tgt := 94) dX6_judged_47 (by decide) (fun h14 => ?_) (fun h14 => ?_)
    · have hf := ift h14 hf
      refine g_iload_n 2 dX6_judged_94 rfl rfl ?_
      obtain rfl := Option.some.inj hf
      exact hr _ _ dX6_judged_95
    · have hf := iff_ h14 hf
      refine g_aload_n 0 dX6_judged_50 rfl rfl ?_
      refine g_get (ci := 6) (T := TX6) (N := 29) 0 20 (.ref (ad 9)) dX6_judged_51 iX6_judged_X6 rfl jX6_judged_36 (by decide) wlaO_0 rfl ?_
      refine g_iload_n 3 dX6_judged_54 rfl rfl ?_
      obtain ⟨h15, hf⟩ := ochi_some hf
      refine g_iald 9 0 dX6_judged_55 wlaO_9 (tI hty) h15 ?_
      refine g_i2l dX6_judged_56 ?_
      refine g_aload_n 0 dX6_judged_57 rfl rfl ?_
      refine g_iload_n 3 dX6_judged_58 rfl rfl ?_
      refine g_iload_n 1 dX6_judged_59 rfl rfl ?_
      obtain ⟨v16, hc17, hf⟩ := obd_some hf
      refine g_callVl (ci := 6) (As := [.int x12, .int a1]) (rest := [.long (Int32.toInt64 ((O_beliefs s13) (Int32.toNatClampNeg x12)))]) (w2 := (wO cs ad s13)) 0 dX6_judged_60 vX6_judged_215 (c_X6_made ad hty hc17) rfl (mid0 _) rfl rfl 0 wlaO_0 rfl (Nat.le_of_ble_eq_true rfl) ⟨Nat.zero_le _, Nat.zero_le _⟩ (mid2 _ _) ?_
      refine g_lmul dX6_judged_63 ?_
      refine g_aload_n 0 dX6_judged_64 rfl rfl ?_
      refine g_get (ci := 6) (T := TX6) (N := 29) 0 20 (.ref (ad 9)) dX6_judged_65 iX6_judged_X6 rfl jX6_judged_36 (by decide) wlaO_0 rfl ?_
      refine g_iload_n 2 dX6_judged_68 rfl rfl ?_
      obtain ⟨h18, hf⟩ := ochi_some hf
      refine g_iald 9 0 dX6_judged_69 wlaO_9 (tI hty) h18 ?_
      refine g_i2l dX6_judged_70 ?_
      refine g_aload_n 0 dX6_judged_71 rfl rfl ?_
      refine g_iload_n 2 dX6_judged_72 rfl rfl ?_
      refine g_iload_n 1 dX6_judged_73 rfl rfl ?_
      obtain ⟨v19, hc20, hf⟩ := obd_some hf
      refine g_callVl (ci := 6) (As := [.int x11, .int a1]) (rest := [.long (Int32.toInt64 ((O_beliefs s13) (Int32.toNatClampNeg x11))), .long ((Int32.toInt64 ((O_beliefs s13) (Int32.toNatClampNeg x12))) * v16)]) (w2 := (wO cs ad s13)) 0 dX6_judged_74 vX6_judged_215 (c_X6_made ad hty hc20) rfl (mid0 _) rfl rfl 0 wlaO_0 rfl (Nat.le_of_ble_eq_true rfl) ⟨Nat.zero_le _, Nat.zero_le _⟩ (mid2 _ _) ?_
      refine g_lmul dX6_judged_77 ?_
      refine g_lcmp dX6_judged_78 ?_
      refine g_if_le (tgt := 86) dX6_judged_79 (by decide) (fun h21 => ?_) (fun h21 => ?_)
      · have hf := ift h21 hf
        refine g_iload_n 2 dX6_judged_86 rfl rfl ?_
        refine g_istore_n (lv2 := [(2, .int x11), (0, .ref (ad 0)), (1, .int a1), (3, .int x12)]) dX6_judged_87 rfl (by decide) rfl ?_
        refine g_iinc (lv2 := [(3, .int (x12 + 1)), (2, .int x11), (0, .ref (ad 0)), (1, .int a1)]) 3 dX6_judged_88 rfl (ii1 _) (by decide) rfl ?_
        refine g_goto (tgt := 42) dX6_judged_91 (by decide) ?_
        exact g_sub [2, 3, 1, 0] rfl (ih x11 (x12 + 1) hf)
      · have hf := iff_ h21 hf
        refine g_iload_n 3 dX6_judged_82 rfl rfl ?_
        refine g_goto (tgt := 87) dX6_judged_83 (by decide) ?_
        refine g_istore_n (lv2 := [(2, .int x12), (0, .ref (ad 0)), (1, .int a1), (3, .int x12)]) dX6_judged_87 rfl (by decide) rfl ?_
        refine g_iinc (lv2 := [(3, .int (x12 + 1)), (2, .int x12), (0, .ref (ad 0)), (1, .int a1)]) 3 dX6_judged_88 rfl (ii1 _) (by decide) rfl ?_
        refine g_goto (tgt := 42) dX6_judged_91 (by decide) ?_
        exact g_sub [2, 3, 1, 0] rfl (ih x12 (x12 + 1) hf)

set_option maxHeartbeats 4000000 in
set_option maxRecDepth 100000 in
theorem c_X6_judged {l : Launch} {D : va_G} {tys : List (ClassId × FieldType)} {X : XT} {cs : CS} (ad : Nat → Nat) {F : Nat} {s : SO} {a1 : Int32} {r : (Int32 × SO)} (htyM : tys = tyA cs) (hf : f_X6_judged F s a1 = some r) : Ci l D tys X yX6_judged wsX6_judged rmX6_judged [.ref (ad 0), .int a1] (wO cs ad s) r.1 (wO cs ad r.2) := by
  refine Ci_ofG (by decide +kernel) rfl (Nat.le_of_ble_eq_true rfl) .int rfl (vp_nar_int _) (fun E _ _ hty0 hX0 hr => ?_)
  have hty := hty0.trans htyM
  have hr : Ri E kX6_judged r.1 (wO cs ad r.2) := hr
  show G E kX6_judged 0 0 0 [(0, .ref (ad 0)), (1, .int a1)] [] (wO cs ad s)
  unfold f_X6_judged at hf
  refine g_aload_n 0 dX6_judged_0 rfl rfl ?_
  refine g_iconst (v := (0 : Int32)) dX6_judged_1 (by decide) ?_
  obtain ⟨s1, e_s1, hf⟩ := olt_some hf
  refine g_put (ci := 6) (T := TX6) (N := 29) (ty := .int) (w2 := (wO cs ad s1)) 0 0 (.int (0 : Int32)) tyX6 dX6_judged_2 iX6_judged_X6 tyX6_ok nmX6 rfl jX6_judged_54 (by decide) rfl rfl rfl rfl wlaO_0 (Nat.le_of_ble_eq_true rfl) (wlpO_0_0.trans (congrArg (wO cs ad) e_s1)) ?_
  refine g_aload_n 0 dX6_judged_5 rfl rfl ?_
  refine g_iload_n 1 dX6_judged_6 rfl rfl ?_
  obtain ⟨v2, hc3, hf⟩ := obd_some hf
  refine g_callVi (ci := 6) (As := [.int a1]) (rest := []) (w2 := (wO cs ad s1)) 0 dX6_judged_7 vX6_judged_158 (c_X6_isStall ad hty hc3) rfl (mid0 _) rfl rfl 0 wlaO_0 rfl (Nat.le_of_ble_eq_true rfl) ⟨Nat.zero_le _, Nat.zero_le _⟩ (mid2 _ _) ?_
  refine g_if_ne (tgt := 15) dX6_judged_10 (by decide) (fun h4 => ?_) (fun h4 => ?_)
  · have hf := iff_ h4 hf
    refine g_aload_n 0 dX6_judged_15 rfl rfl ?_
    refine g_iload_n 1 dX6_judged_16 rfl rfl ?_
    obtain ⟨v5, hc6, hf⟩ := obd_some hf
    refine g_callVi (ci := 6) (As := [.int a1]) (rest := []) (w2 := (wO cs ad s1)) 0 dX6_judged_17 vX6_judged_161 (c_X6_bagsOf ad hty hc6) rfl (mid0 _) rfl rfl 0 wlaO_0 rfl (Nat.le_of_ble_eq_true rfl) ⟨Nat.zero_le _, Nat.zero_le _⟩ (mid2 _ _) ?_
    refine g_bipush (v := (6 : Int32)) dX6_judged_20 (by decide) ?_
    refine g_icmp_gt (tgt := 35) dX6_judged_22 (by decide) (fun h7 => ?_) (fun h7 => ?_)
    · have hf := ift h7 hf
      refine g_bipush (v := (-2 : Int32)) dX6_judged_35 (by decide) ?_
      obtain rfl := Option.some.inj hf
      exact hr _ _ dX6_judged_37
    · have hf := iff_ h7 hf
      refine g_aload_n 0 dX6_judged_25 rfl rfl ?_
      refine g_iload_n 1 dX6_judged_26 rfl rfl ?_
      obtain ⟨v8, hc9, hf⟩ := obd_some hf
      refine g_callVl (ci := 6) (As := [.int a1]) (rest := []) (w2 := (wO cs ad s1)) 0 dX6_judged_27 vX6_judged_225 (c_X6_believedAll ad hty hc9) rfl (mid0 _) rfl rfl 0 wlaO_0 rfl (Nat.le_of_ble_eq_true rfl) ⟨Nat.zero_le _, Nat.zero_le _⟩ (mid2 _ _) ?_
      refine g_lconst (v := (0 : Int64)) dX6_judged_30 (by decide) ?_
      refine g_lcmp dX6_judged_31 ?_
      refine g_if_ne (tgt := 38) dX6_judged_32 (by decide) (fun h10 => ?_) (fun h10 => ?_)
      · have hf := iff_ h10 hf
        refine g_iconst (v := (0 : Int32)) dX6_judged_38 (by decide) ?_
        refine g_istore_n (lv2 := [(2, .int (0 : Int32)), (0, .ref (ad 0)), (1, .int a1)]) dX6_judged_39 rfl (by decide) rfl ?_
        refine g_iconst (v := (1 : Int32)) dX6_judged_40 (by decide) ?_
        refine g_istore_n (lv2 := [(3, .int (1 : Int32)), (2, .int (0 : Int32)), (0, .ref (ad 0)), (1, .int a1)]) dX6_judged_41 rfl (by decide) rfl ?_
        exact g_sub [2, 3, 1, 0] rfl (w_X6_judged_L42 hty hr F (0 : Int32) (1 : Int32) hf)
      · have hf := ift h10 hf
        refine g_bipush (v := (-2 : Int32)) dX6_judged_35 (by decide) ?_
        obtain rfl := Option.some.inj hf
        exact hr _ _ dX6_judged_37
  · have hf := ift h4 hf
    refine g_iconst (v := (-1 : Int32)) dX6_judged_13 (by decide) ?_
    obtain rfl := Option.some.inj hf
    exact hr _ _ dX6_judged_14

-- ThumbScaleModel apart (IIII)I
def rmX6_apart : Room := { frames := 4, cells := 0, slots := 0, locals := 97 }
def kX6_apart : MK := (cX6_apart, 5, RX6, wsX6_apart, (some .int), rmX6_apart)

set_option maxRecDepth 20000 in
theorem jX6_apart_54 : Cond.fieldLink RX6 54 (TX6 0).1 (TX6 0).2.1 (TX6 0).2.2.1 ∈ wsX6_apart := by decide +kernel
set_option maxRecDepth 20000 in
theorem iX6_apart_X6 : ∀ x ∈ u_ws RX6 TX6 29, x ∈ wsX6_apart := by decide +kernel
set_option maxRecDepth 20000 in
theorem vX6_apart_167 : KV kX6_apart 167 RX6 yX6_isWay wsX6_isWay rmX6_isWay 1 := ⟨_, _, _, _, gX6_apart_X6_isWay, rfl, rfl, rfl, by decide +kernel, ⟨by decide, by decide⟩⟩
set_option maxRecDepth 20000 in
theorem vX6_apart_158 : KV kX6_apart 158 RX6 yX6_isStall wsX6_isStall rmX6_isStall 1 := ⟨_, _, _, _, gX6_apart_X6_isStall, rfl, rfl, rfl, by decide +kernel, ⟨by decide, by decide⟩⟩
set_option maxRecDepth 20000 in
theorem vX6_apart_173 : KS kX6_apart 173 yX6_isSort wsX6_isSort rmX6_isSort 1 := ⟨_, _, _, _, gX6_apart_X6_isSort, rfl, rfl, rfl, by decide +kernel, ⟨by decide, by decide⟩⟩
set_option maxRecDepth 20000 in
theorem vX6_apart_229 : KV kX6_apart 229 RX6 yX6_apartOf wsX6_apartOf rmX6_apartOf 4 := ⟨_, _, _, _, gX6_apart_X6_apartOf, rfl, rfl, rfl, by decide +kernel, ⟨by decide, by decide⟩⟩
def f_X6_apart (F : Nat) (s : SO) (a1 : Int32) (a2 : Int32) (a3 : Int32) (a4 : Int32) : Option (Int32 × SO) :=
    olt (uO_thrown s (0 : Int32)) (fun s1 =>
    obd (f_X6_isWay F s1 a1) (fun v2 =>
    (if v2 = 0 then
    some ((-1 : Int32), s1)
    else
    obd (f_X6_isWay F s1 a2) (fun v5 =>
    (if v5 = 0 then
    some ((-1 : Int32), s1)
    else
    obd (f_X6_isStall F s1 a3) (fun v8 =>
    (if v8 = 0 then
    some ((-1 : Int32), s1)
    else
    obd (f_X6_isSort F a4) (fun v11 =>
    (if v11 = 0 then
    some ((-1 : Int32), s1)
    else
    obd (f_X6_apartOf F s1 a1 a2 a3 a4) (fun v14 =>
    some (v14, s1)))))))))))

set_option maxHeartbeats 4000000 in
set_option maxRecDepth 100000 in
theorem c_X6_apart {l : Launch} {D : va_G} {tys : List (ClassId × FieldType)} {X : XT} {cs : CS} (ad : Nat → Nat) {F : Nat} {s : SO} {a1 : Int32} {a2 : Int32} {a3 : Int32} {a4 : Int32} {r : (Int32 × SO)} (htyM : tys = tyA cs) (hf : f_X6_apart F s a1 a2 a3 a4 = some r) : Ci l D tys X yX6_apart wsX6_apart rmX6_apart [.ref (ad 0), .int a1, .int a2, .int a3, .int a4] (wO cs ad s) r.1 (wO cs ad r.2) := by
  refine Ci_ofG (by decide +kernel) rfl (Nat.le_of_ble_eq_true rfl) .int rfl (vp_nar_int _) (fun E _ _ hty0 hX0 hr => ?_)
  have hty := hty0.trans htyM
  have hr : Ri E kX6_apart r.1 (wO cs ad r.2) := hr
  show G E kX6_apart 0 0 0 [(0, .ref (ad 0)), (1, .int a1), (2, .int a2), (3, .int a3), (4, .int a4)] [] (wO cs ad s)
  unfold f_X6_apart at hf
  refine g_aload_n 0 dX6_apart_0 rfl rfl ?_
  refine g_iconst (v := (0 : Int32)) dX6_apart_1 (by decide) ?_
  obtain ⟨s1, e_s1, hf⟩ := olt_some hf
  refine g_put (ci := 6) (T := TX6) (N := 29) (ty := .int) (w2 := (wO cs ad s1)) 0 0 (.int (0 : Int32)) tyX6 dX6_apart_2 iX6_apart_X6 tyX6_ok nmX6 rfl jX6_apart_54 (by decide) rfl rfl rfl rfl wlaO_0 (Nat.le_of_ble_eq_true rfl) (wlpO_0_0.trans (congrArg (wO cs ad) e_s1)) ?_
  refine g_aload_n 0 dX6_apart_5 rfl rfl ?_
  refine g_iload_n 1 dX6_apart_6 rfl rfl ?_
  obtain ⟨v2, hc3, hf⟩ := obd_some hf
  refine g_callVi (ci := 6) (As := [.int a1]) (rest := []) (w2 := (wO cs ad s1)) 0 dX6_apart_7 vX6_apart_167 (c_X6_isWay ad hty hc3) rfl (mid0 _) rfl rfl 0 wlaO_0 rfl (Nat.le_of_ble_eq_true rfl) ⟨Nat.zero_le _, Nat.zero_le _⟩ (mid2 _ _) ?_
  refine g_if_eq (tgt := 49) dX6_apart_10 (by decide) (fun h4 => ?_) (fun h4 => ?_)
  · have hf := ift h4 hf
    refine g_iconst (v := (-1 : Int32)) dX6_apart_49 (by decide) ?_
    obtain rfl := Option.some.inj hf
    exact hr _ _ dX6_apart_50
  · have hf := iff_ h4 hf
    refine g_aload_n 0 dX6_apart_13 rfl rfl ?_
    refine g_iload_n 2 dX6_apart_14 rfl rfl ?_
    obtain ⟨v5, hc6, hf⟩ := obd_some hf
    refine g_callVi (ci := 6) (As := [.int a2]) (rest := []) (w2 := (wO cs ad s1)) 0 dX6_apart_15 vX6_apart_167 (c_X6_isWay ad hty hc6) rfl (mid0 _) rfl rfl 0 wlaO_0 rfl (Nat.le_of_ble_eq_true rfl) ⟨Nat.zero_le _, Nat.zero_le _⟩ (mid2 _ _) ?_
    refine g_if_eq (tgt := 49) dX6_apart_18 (by decide) (fun h7 => ?_) (fun h7 => ?_)
    · have hf := ift h7 hf
      refine g_iconst (v := (-1 : Int32)) dX6_apart_49 (by decide) ?_
      obtain rfl := Option.some.inj hf
      exact hr _ _ dX6_apart_50
    · have hf := iff_ h7 hf
      refine g_aload_n 0 dX6_apart_21 rfl rfl ?_
      refine g_iload_n 3 dX6_apart_22 rfl rfl ?_
      obtain ⟨v8, hc9, hf⟩ := obd_some hf
      refine g_callVi (ci := 6) (As := [.int a3]) (rest := []) (w2 := (wO cs ad s1)) 0 dX6_apart_23 vX6_apart_158 (c_X6_isStall ad hty hc9) rfl (mid0 _) rfl rfl 0 wlaO_0 rfl (Nat.le_of_ble_eq_true rfl) ⟨Nat.zero_le _, Nat.zero_le _⟩ (mid2 _ _) ?_
      refine g_if_eq (tgt := 49) dX6_apart_26 (by decide) (fun h10 => ?_) (fun h10 => ?_)
      · have hf := ift h10 hf
        refine g_iconst (v := (-1 : Int32)) dX6_apart_49 (by decide) ?_
        obtain rfl := Option.some.inj hf
        exact hr _ _ dX6_apart_50
      · have hf := iff_ h10 hf
        refine g_iload 4 dX6_apart_29 rfl ?_
        obtain ⟨v11, hc12, hf⟩ := obd_some hf
        refine g_callSi (As := [.int a4]) (rest := []) (w2 := (wO cs ad s1)) 0 dX6_apart_31 vX6_apart_173 (c_X6_isSort hty hc12) rfl (midm _) rfl (Nat.le_of_ble_eq_true rfl) ⟨Nat.zero_le _, Nat.zero_le _⟩ (midn _) ?_
        refine g_if_eq (tgt := 49) dX6_apart_34 (by decide) (fun h13 => ?_) (fun h13 => ?_)
        · have hf := ift h13 hf
          refine g_iconst (v := (-1 : Int32)) dX6_apart_49 (by decide) ?_
          obtain rfl := Option.some.inj hf
          exact hr _ _ dX6_apart_50
        · have hf := iff_ h13 hf
          refine g_aload_n 0 dX6_apart_37 rfl rfl ?_
          refine g_iload_n 1 dX6_apart_38 rfl rfl ?_
          refine g_iload_n 2 dX6_apart_39 rfl rfl ?_
          refine g_iload_n 3 dX6_apart_40 rfl rfl ?_
          refine g_iload 4 dX6_apart_41 rfl ?_
          obtain ⟨v14, hc15, hf⟩ := obd_some hf
          refine g_callVi (ci := 6) (As := [.int a1, .int a2, .int a3, .int a4]) (rest := []) (w2 := (wO cs ad s1)) 0 dX6_apart_43 vX6_apart_229 (c_X6_apartOf ad hty hc15) rfl (mid0 _) rfl rfl 0 wlaO_0 rfl (Nat.le_of_ble_eq_true rfl) ⟨Nat.zero_le _, Nat.zero_le _⟩ (mid2 _ _) ?_
          refine g_goto (tgt := 50) dX6_apart_46 (by decide) ?_
          obtain rfl := Option.some.inj hf
          exact hr _ _ dX6_apart_50

-- ThumbScaleModel follow (III)I
def rmX6_follow : Room := { frames := 4, cells := 0, slots := 0, locals := 97 }
def kX6_follow : MK := (cX6_follow, 8, RX6, wsX6_follow, (some .int), rmX6_follow)

set_option maxRecDepth 20000 in
theorem jX6_follow_54 : Cond.fieldLink RX6 54 (TX6 0).1 (TX6 0).2.1 (TX6 0).2.2.1 ∈ wsX6_follow := by decide +kernel
set_option maxRecDepth 20000 in
theorem iX6_follow_X6 : ∀ x ∈ u_ws RX6 TX6 29, x ∈ wsX6_follow := by decide +kernel
set_option maxRecDepth 20000 in
theorem vX6_follow_167 : KV kX6_follow 167 RX6 yX6_isWay wsX6_isWay rmX6_isWay 1 := ⟨_, _, _, _, gX6_follow_X6_isWay, rfl, rfl, rfl, by decide +kernel, ⟨by decide, by decide⟩⟩
set_option maxRecDepth 20000 in
theorem vX6_follow_158 : KV kX6_follow 158 RX6 yX6_isStall wsX6_isStall rmX6_isStall 1 := ⟨_, _, _, _, gX6_follow_X6_isStall, rfl, rfl, rfl, by decide +kernel, ⟨by decide, by decide⟩⟩
set_option maxRecDepth 20000 in
theorem vX6_follow_229 : KV kX6_follow 229 RX6 yX6_apartOf wsX6_apartOf rmX6_apartOf 4 := ⟨_, _, _, _, gX6_follow_X6_apartOf, rfl, rfl, rfl, by decide +kernel, ⟨by decide, by decide⟩⟩
def f_X6_follow_L41 (F : Nat) (a1 : Int32) (a2 : Int32) (a3 : Int32) (s14 : SO) : Nat → Int32 → Int32 → Int32 → Option (Int32 × SO)
  | 0, _, _, _ => none
  | n + 1, x11, x12, x13 =>
    (if (4 : Int32) ≤ x13 then
    some (x11, s14)
    else
    obd (f_X6_apartOf F s14 a1 a2 a3 x13) (fun v16 =>
    obd ((if v16 ≤ x12 then
    some x11
    else
    some x13)) (fun v19 =>
    (if v16 ≤ x12 then
    f_X6_follow_L41 F a1 a2 a3 s14 n v19 x12 (x13 + 1)
    else
    f_X6_follow_L41 F a1 a2 a3 s14 n v19 v16 (x13 + 1)))))

def f_X6_follow (F : Nat) (s : SO) (a1 : Int32) (a2 : Int32) (a3 : Int32) : Option (Int32 × SO) :=
    olt (uO_thrown s (0 : Int32)) (fun s1 =>
    obd (f_X6_isWay F s1 a1) (fun v2 =>
    (if v2 = 0 then
    some ((-1 : Int32), s1)
    else
    obd (f_X6_isWay F s1 a2) (fun v5 =>
    (if v5 = 0 then
    some ((-1 : Int32), s1)
    else
    obd (f_X6_isStall F s1 a3) (fun v8 =>
    (if v8 = 0 then
    some ((-1 : Int32), s1)
    else
    f_X6_follow_L41 F a1 a2 a3 s1 F (-9 : Int32) (0 : Int32) (0 : Int32))))))))

set_option maxHeartbeats 4000000 in
set_option maxRecDepth 100000 in
theorem w_X6_follow_L41 {E : GE} {cs : CS} {ad : Nat → Nat} {F : Nat} {a1 : Int32} {a2 : Int32} {a3 : Int32} {s14 : SO} {r : (Int32 × SO)} (hty : eT E = tyA cs) (hr : Ri E kX6_follow r.1 (wO cs ad r.2)) : ∀ (n : Nat) (x11 : Int32) (x12 : Int32) (x13 : Int32), f_X6_follow_L41 F a1 a2 a3 s14 n x11 x12 x13 = some r → G E kX6_follow 0 0 41 [(0, .ref (ad 0)), (1, .int a1), (2, .int a2), (3, .int a3), (4, .int x11), (5, .int x12), (6, .int x13)] [] (wO cs ad s14) := by
  intro n
  induction n with
  | zero =>
    intro x11 x12 x13 hf
    cases (show (none : Option (Int32 × SO)) = some r from hf)
  | succ n ih =>
    intro x11 x12 x13 hf
    rw [f_X6_follow_L41] at hf
    refine g_iload 6 dX6_follow_41 rfl ?_
    refine g_iconst (v := (4 : Int32)) dX6_follow_43 (by decide) ?_
    refine g_icmp_ge (tgt := 96) dX6_follow_44 (by decide) (fun h15 => ?_) (fun h15 => ?_)
    · have hf := ift h15 hf
      refine g_iload 4 dX6_follow_96 rfl ?_
      obtain rfl := Option.some.inj hf
      exact hr _ _ dX6_follow_98
    · have hf := iff_ h15 hf
      refine g_aload_n 0 dX6_follow_47 rfl rfl ?_
      refine g_iload_n 1 dX6_follow_48 rfl rfl ?_
      refine g_iload_n 2 dX6_follow_49 rfl rfl ?_
      refine g_iload_n 3 dX6_follow_50 rfl rfl ?_
      refine g_iload 6 dX6_follow_51 rfl ?_
      obtain ⟨v16, hc17, hf⟩ := obd_some hf
      refine g_callVi (ci := 6) (As := [.int a1, .int a2, .int a3, .int x13]) (rest := []) (w2 := (wO cs ad s14)) 0 dX6_follow_53 vX6_follow_229 (c_X6_apartOf ad hty hc17) rfl (mid0 _) rfl rfl 0 wlaO_0 rfl (Nat.le_of_ble_eq_true rfl) ⟨Nat.zero_le _, Nat.zero_le _⟩ (mid2 _ _) ?_
      refine g_istore (lv2 := [(7, .int v16), (0, .ref (ad 0)), (1, .int a1), (2, .int a2), (3, .int a3), (4, .int x11), (5, .int x12), (6, .int x13)]) dX6_follow_56 (by decide) rfl ?_
      refine g_iload 0 dX6_follow_58 rfl ?_
      refine g_iload 6 dX6_follow_60 rfl ?_
      obtain ⟨v19, hE_v19, hf⟩ := obd_some hf
      have J_v19 : G E kX6_follow 0 0 72 [(0, .ref (ad 0)), (1, .int a1), (2, .int a2), (3, .int a3), (5, .int x12), (6, .int x13), (7, .int v16)] [.int v19] (wO cs ad s14) := by
        refine g_istore (lv2 := [(4, .int v19), (0, .ref (ad 0)), (1, .int a1), (2, .int a2), (3, .int a3), (5, .int x12), (6, .int x13), (7, .int v16)]) dX6_follow_72 (by decide) rfl ?_
        refine g_iload 7 dX6_follow_74 rfl ?_
        refine g_iload 5 dX6_follow_76 rfl ?_
        refine g_icmp_le (tgt := 86) dX6_follow_78 (by decide) (fun h21 => ?_) (fun h21 => ?_)
        · have hf := ift h21 hf
          refine g_iload 5 dX6_follow_86 rfl ?_
          refine g_istore (lv2 := [(5, .int x12), (4, .int v19), (0, .ref (ad 0)), (1, .int a1), (2, .int a2), (3, .int a3), (6, .int x13), (7, .int v16)]) dX6_follow_88 (by decide) rfl ?_
          refine g_iinc (lv2 := [(6, .int (x13 + 1)), (5, .int x12), (4, .int v19), (0, .ref (ad 0)), (1, .int a1), (2, .int a2), (3, .int a3), (7, .int v16)]) 6 dX6_follow_90 rfl (ii1 _) (by decide) rfl ?_
          refine g_goto (tgt := 41) dX6_follow_93 (by decide) ?_
          exact g_sub [3, 4, 5, 6, 2, 1, 0] rfl (ih v19 x12 (x13 + 1) hf)
        · have hf := iff_ h21 hf
          refine g_iload 7 dX6_follow_81 rfl ?_
          refine g_goto (tgt := 88) dX6_follow_83 (by decide) ?_
          refine g_istore (lv2 := [(5, .int v16), (4, .int v19), (0, .ref (ad 0)), (1, .int a1), (2, .int a2), (3, .int a3), (6, .int x13), (7, .int v16)]) dX6_follow_88 (by decide) rfl ?_
          refine g_iinc (lv2 := [(6, .int (x13 + 1)), (5, .int v16), (4, .int v19), (0, .ref (ad 0)), (1, .int a1), (2, .int a2), (3, .int a3), (7, .int v16)]) 6 dX6_follow_90 rfl (ii1 _) (by decide) rfl ?_
          refine g_goto (tgt := 41) dX6_follow_93 (by decide) ?_
          exact g_sub [3, 4, 5, 6, 2, 1, 0] rfl (ih v19 v16 (x13 + 1) hf)
      have hf := hE_v19
      refine g_icmp_le (tgt := 70) dX6_follow_62 (by decide) (fun h20 => ?_) (fun h20 => ?_)
      · have hf := ift h20 hf
        refine g_iload 5 dX6_follow_70 rfl ?_
        obtain rfl := Option.some.inj hf
        exact g_sub [1, 2, 3, 4, 6, 7, 0] rfl J_v19
      · have hf := iff_ h20 hf
        refine g_iload 7 dX6_follow_65 rfl ?_
        refine g_goto (tgt := 72) dX6_follow_67 (by decide) ?_
        obtain rfl := Option.some.inj hf
        exact g_sub [1, 2, 3, 4, 6, 7, 0] rfl J_v19

set_option maxHeartbeats 4000000 in
set_option maxRecDepth 100000 in
theorem c_X6_follow {l : Launch} {D : va_G} {tys : List (ClassId × FieldType)} {X : XT} {cs : CS} (ad : Nat → Nat) {F : Nat} {s : SO} {a1 : Int32} {a2 : Int32} {a3 : Int32} {r : (Int32 × SO)} (htyM : tys = tyA cs) (hf : f_X6_follow F s a1 a2 a3 = some r) : Ci l D tys X yX6_follow wsX6_follow rmX6_follow [.ref (ad 0), .int a1, .int a2, .int a3] (wO cs ad s) r.1 (wO cs ad r.2) := by
  refine Ci_ofG (by decide +kernel) rfl (Nat.le_of_ble_eq_true rfl) .int rfl (vp_nar_int _) (fun E _ _ hty0 hX0 hr => ?_)
  have hty := hty0.trans htyM
  have hr : Ri E kX6_follow r.1 (wO cs ad r.2) := hr
  show G E kX6_follow 0 0 0 [(0, .ref (ad 0)), (1, .int a1), (2, .int a2), (3, .int a3)] [] (wO cs ad s)
  unfold f_X6_follow at hf
  refine g_aload_n 0 dX6_follow_0 rfl rfl ?_
  refine g_iconst (v := (0 : Int32)) dX6_follow_1 (by decide) ?_
  obtain ⟨s1, e_s1, hf⟩ := olt_some hf
  refine g_put (ci := 6) (T := TX6) (N := 29) (ty := .int) (w2 := (wO cs ad s1)) 0 0 (.int (0 : Int32)) tyX6 dX6_follow_2 iX6_follow_X6 tyX6_ok nmX6 rfl jX6_follow_54 (by decide) rfl rfl rfl rfl wlaO_0 (Nat.le_of_ble_eq_true rfl) (wlpO_0_0.trans (congrArg (wO cs ad) e_s1)) ?_
  refine g_aload_n 0 dX6_follow_5 rfl rfl ?_
  refine g_iload_n 1 dX6_follow_6 rfl rfl ?_
  obtain ⟨v2, hc3, hf⟩ := obd_some hf
  refine g_callVi (ci := 6) (As := [.int a1]) (rest := []) (w2 := (wO cs ad s1)) 0 dX6_follow_7 vX6_follow_167 (c_X6_isWay ad hty hc3) rfl (mid0 _) rfl rfl 0 wlaO_0 rfl (Nat.le_of_ble_eq_true rfl) ⟨Nat.zero_le _, Nat.zero_le _⟩ (mid2 _ _) ?_
  refine g_if_eq (tgt := 29) dX6_follow_10 (by decide) (fun h4 => ?_) (fun h4 => ?_)
  · have hf := ift h4 hf
    refine g_iconst (v := (-1 : Int32)) dX6_follow_29 (by decide) ?_
    obtain rfl := Option.some.inj hf
    exact hr _ _ dX6_follow_30
  · have hf := iff_ h4 hf
    refine g_aload_n 0 dX6_follow_13 rfl rfl ?_
    refine g_iload_n 2 dX6_follow_14 rfl rfl ?_
    obtain ⟨v5, hc6, hf⟩ := obd_some hf
    refine g_callVi (ci := 6) (As := [.int a2]) (rest := []) (w2 := (wO cs ad s1)) 0 dX6_follow_15 vX6_follow_167 (c_X6_isWay ad hty hc6) rfl (mid0 _) rfl rfl 0 wlaO_0 rfl (Nat.le_of_ble_eq_true rfl) ⟨Nat.zero_le _, Nat.zero_le _⟩ (mid2 _ _) ?_
    refine g_if_eq (tgt := 29) dX6_follow_18 (by decide) (fun h7 => ?_) (fun h7 => ?_)
    · have hf := ift h7 hf
      refine g_iconst (v := (-1 : Int32)) dX6_follow_29 (by decide) ?_
      obtain rfl := Option.some.inj hf
      exact hr _ _ dX6_follow_30
    · have hf := iff_ h7 hf
      refine g_aload_n 0 dX6_follow_21 rfl rfl ?_
      refine g_iload_n 3 dX6_follow_22 rfl rfl ?_
      obtain ⟨v8, hc9, hf⟩ := obd_some hf
      refine g_callVi (ci := 6) (As := [.int a3]) (rest := []) (w2 := (wO cs ad s1)) 0 dX6_follow_23 vX6_follow_158 (c_X6_isStall ad hty hc9) rfl (mid0 _) rfl rfl 0 wlaO_0 rfl (Nat.le_of_ble_eq_true rfl) ⟨Nat.zero_le _, Nat.zero_le _⟩ (mid2 _ _) ?_
      refine g_if_ne (tgt := 31) dX6_follow_26 (by decide) (fun h10 => ?_) (fun h10 => ?_)
      · have hf := iff_ h10 hf
        refine g_bipush (v := (-9 : Int32)) dX6_follow_31 (by decide) ?_
        refine g_istore (lv2 := [(4, .int (-9 : Int32)), (0, .ref (ad 0)), (1, .int a1), (2, .int a2), (3, .int a3)]) dX6_follow_33 (by decide) rfl ?_
        refine g_iconst (v := (0 : Int32)) dX6_follow_35 (by decide) ?_
        refine g_istore (lv2 := [(5, .int (0 : Int32)), (4, .int (-9 : Int32)), (0, .ref (ad 0)), (1, .int a1), (2, .int a2), (3, .int a3)]) dX6_follow_36 (by decide) rfl ?_
        refine g_iconst (v := (0 : Int32)) dX6_follow_38 (by decide) ?_
        refine g_istore (lv2 := [(6, .int (0 : Int32)), (5, .int (0 : Int32)), (4, .int (-9 : Int32)), (0, .ref (ad 0)), (1, .int a1), (2, .int a2), (3, .int a3)]) dX6_follow_39 (by decide) rfl ?_
        exact g_sub [3, 4, 5, 6, 2, 1, 0] rfl (w_X6_follow_L41 hty hr F (-9 : Int32) (0 : Int32) (0 : Int32) hf)
      · have hf := ift h10 hf
        refine g_iconst (v := (-1 : Int32)) dX6_follow_29 (by decide) ?_
        obtain rfl := Option.some.inj hf
        exact hr _ _ dX6_follow_30

-- ThumbScaleModel bar (II)I
def rmX6_bar : Room := { frames := 1, cells := 0, slots := 0, locals := 22 }
def kX6_bar : MK := (cX6_bar, 6, RX6, wsX6_bar, (some .int), rmX6_bar)

set_option maxRecDepth 20000 in
theorem jX6_bar_54 : Cond.fieldLink RX6 54 (TX6 0).1 (TX6 0).2.1 (TX6 0).2.2.1 ∈ wsX6_bar := by decide +kernel
set_option maxRecDepth 20000 in
theorem iX6_bar_X6 : ∀ x ∈ u_ws RX6 TX6 29, x ∈ wsX6_bar := by decide +kernel
set_option maxRecDepth 20000 in
theorem vX6_bar_61 : KS kX6_bar 61 yX6_in wsX6_in rmX6_in 3 := ⟨_, _, _, _, gX6_bar_X6_in, rfl, rfl, rfl, by decide +kernel, ⟨by decide, by decide⟩⟩
set_option maxRecDepth 20000 in
theorem jX6_bar_39 : Cond.fieldLink RX6 39 (TX6 21).1 (TX6 21).2.1 (TX6 21).2.2.1 ∈ wsX6_bar := by decide +kernel
def f_X6_bar (F : Nat) (s : SO) (a1 : Int32) (a2 : Int32) : Option (Int32 × SO) :=
    olt (uO_thrown s (0 : Int32)) (fun s1 =>
    obd (f_X6_in F a1 (0 : Int32) (7 : Int32)) (fun v2 =>
    (if v2 = 0 then
    some ((-1 : Int32), s1)
    else
    obd ((if a1 = (2 : Int32) then
    some (1 : Int32)
    else
    (if a1 = (3 : Int32) then
    some (1 : Int32)
    else
    (if a1 = (7 : Int32) then
    some (1 : Int32)
    else
    some (0 : Int32))))) (fun v8 =>
    obd ((if (2 : Int32) ≤ a1 then
    (if (4 : Int32) ≤ a1 then
    (if (6 : Int32) ≤ a1 then
    (if a1 = (6 : Int32) then
    some (99 : Int32)
    else
    some (8 : Int32))
    else
    some (999 : Int32))
    else
    some (9 : Int32))
    else
    some (10 : Int32))) (fun v16 =>
    obd (f_X6_in F a2 v8 v16) (fun v21 =>
    (if v21 = 0 then
    some ((-1 : Int32), s1)
    else
    ochi a1 8 (
    ochi a1 8 (olt (uO_bars s1 (upd (O_bars s1) (Int32.toNatClampNeg a1) a2)) (fun s26 =>
    some (((O_bars s1) (Int32.toNatClampNeg a1)), s26)))))))))))

set_option maxHeartbeats 4000000 in
set_option maxRecDepth 100000 in
theorem c_X6_bar {l : Launch} {D : va_G} {tys : List (ClassId × FieldType)} {X : XT} {cs : CS} (ad : Nat → Nat) {F : Nat} {s : SO} {a1 : Int32} {a2 : Int32} {r : (Int32 × SO)} (htyM : tys = tyA cs) (hf : f_X6_bar F s a1 a2 = some r) : Ci l D tys X yX6_bar wsX6_bar rmX6_bar [.ref (ad 0), .int a1, .int a2] (wO cs ad s) r.1 (wO cs ad r.2) := by
  refine Ci_ofG (by decide +kernel) rfl (Nat.le_of_ble_eq_true rfl) .int rfl (vp_nar_int _) (fun E _ _ hty0 hX0 hr => ?_)
  have hty := hty0.trans htyM
  have hr : Ri E kX6_bar r.1 (wO cs ad r.2) := hr
  show G E kX6_bar 0 0 0 [(0, .ref (ad 0)), (1, .int a1), (2, .int a2)] [] (wO cs ad s)
  unfold f_X6_bar at hf
  refine g_aload_n 0 dX6_bar_0 rfl rfl ?_
  refine g_iconst (v := (0 : Int32)) dX6_bar_1 (by decide) ?_
  obtain ⟨s1, e_s1, hf⟩ := olt_some hf
  refine g_put (ci := 6) (T := TX6) (N := 29) (ty := .int) (w2 := (wO cs ad s1)) 0 0 (.int (0 : Int32)) tyX6 dX6_bar_2 iX6_bar_X6 tyX6_ok nmX6 rfl jX6_bar_54 (by decide) rfl rfl rfl rfl wlaO_0 (Nat.le_of_ble_eq_true rfl) (wlpO_0_0.trans (congrArg (wO cs ad) e_s1)) ?_
  refine g_iload_n 1 dX6_bar_5 rfl rfl ?_
  refine g_iconst (v := (0 : Int32)) dX6_bar_6 (by decide) ?_
  refine g_bipush (v := (7 : Int32)) dX6_bar_7 (by decide) ?_
  obtain ⟨v2, hc3, hf⟩ := obd_some hf
  refine g_callSi (As := [.int a1, .int (0 : Int32), .int (7 : Int32)]) (rest := []) (w2 := (wO cs ad s1)) 0 dX6_bar_9 vX6_bar_61 (c_X6_in hty hc3) rfl (midm _) rfl (Nat.le_of_ble_eq_true rfl) ⟨Nat.zero_le _, Nat.zero_le _⟩ (midn _) ?_
  refine g_if_ne (tgt := 17) dX6_bar_12 (by decide) (fun h4 => ?_) (fun h4 => ?_)
  · have hf := iff_ h4 hf
    refine g_iload_n 1 dX6_bar_17 rfl rfl ?_
    refine g_iconst (v := (2 : Int32)) dX6_bar_18 (by decide) ?_
    obtain ⟨v8, hE_v8, hf⟩ := obd_some hf
    have J_v8 : G E kX6_bar 0 0 38 [(0, .ref (ad 0)), (1, .int a1), (2, .int a2)] [.int v8] (wO cs ad s1) := by
      refine g_istore_n (lv2 := [(3, .int v8), (0, .ref (ad 0)), (1, .int a1), (2, .int a2)]) dX6_bar_38 rfl (by decide) rfl ?_
      refine g_iload_n 2 dX6_bar_39 rfl rfl ?_
      refine g_iconst (v := (2 : Int32)) dX6_bar_40 (by decide) ?_
      obtain ⟨v16, hE_v16, hf⟩ := obd_some hf
      have J_v16 : G E kX6_bar 0 0 84 [(0, .ref (ad 0)), (1, .int a1), (2, .int a2), (3, .int v8)] [.int v16] (wO cs ad s1) := by
        refine g_istore (lv2 := [(4, .int v16), (0, .ref (ad 0)), (1, .int a1), (2, .int a2), (3, .int v8)]) dX6_bar_84 (by decide) rfl ?_
        refine g_iload_n 3 dX6_bar_86 rfl rfl ?_
        refine g_iload_n 4 dX6_bar_87 rfl rfl ?_
        refine g_iload 0 dX6_bar_88 rfl ?_
        obtain ⟨v21, hc22, hf⟩ := obd_some hf
        refine g_callSi (As := [.int a2, .int v8, .int v16]) (rest := []) (w2 := (wO cs ad s1)) 0 dX6_bar_90 vX6_bar_61 (c_X6_in hty hc22) rfl (midm _) rfl (Nat.le_of_ble_eq_true rfl) ⟨Nat.zero_le _, Nat.zero_le _⟩ (midn _) ?_
        refine g_if_ne (tgt := 98) dX6_bar_93 (by decide) (fun h23 => ?_) (fun h23 => ?_)
        · have hf := iff_ h23 hf
          refine g_aload_n 1 dX6_bar_98 rfl rfl ?_
          refine g_get (ci := 6) (T := TX6) (N := 29) 0 21 (.ref (ad 10)) dX6_bar_99 iX6_bar_X6 rfl jX6_bar_39 (by decide) wlaO_0 rfl ?_
          refine g_iload_n 2 dX6_bar_102 rfl rfl ?_
          obtain ⟨h24, hf⟩ := ochi_some hf
          refine g_iald 10 0 dX6_bar_103 wlaO_10 (tI hty) h24 ?_
          refine g_istore (lv2 := [(5, .int ((O_bars s1) (Int32.toNatClampNeg a1))), (4, .int v16), (0, .ref (ad 0)), (1, .int a1), (2, .int a2), (3, .int v8)]) dX6_bar_104 (by decide) rfl ?_
          refine g_aload_n 2 dX6_bar_106 rfl rfl ?_
          refine g_get (ci := 6) (T := TX6) (N := 29) 0 21 (.ref (ad 10)) dX6_bar_107 iX6_bar_X6 rfl jX6_bar_39 (by decide) wlaO_0 rfl ?_
          refine g_iload_n 3 dX6_bar_110 rfl rfl ?_
          refine g_iload_n 4 dX6_bar_111 rfl rfl ?_
          obtain ⟨h25, hf⟩ := ochi_some hf
          obtain ⟨s26, e_s26, hf⟩ := olt_some hf
          refine g_iast (w2 := (wO cs ad s26)) 10 0 dX6_bar_112 wlaO_10 (tI hty) h25 (wlsO_10.trans (congrArg (wO cs ad) e_s26)) ?_
          refine g_iload 0 dX6_bar_113 rfl ?_
          obtain rfl := Option.some.inj hf
          exact hr _ _ dX6_bar_115
        · have hf := ift h23 hf
          refine g_iconst (v := (-1 : Int32)) dX6_bar_96 (by decide) ?_
          obtain rfl := Option.some.inj hf
          exact hr _ _ dX6_bar_97
      have hf := hE_v16
      refine g_icmp_ge (tgt := 49) dX6_bar_41 (by decide) (fun h17 => ?_) (fun h17 => ?_)
      · have hf := ift h17 hf
        refine g_iload_n 2 dX6_bar_49 rfl rfl ?_
        refine g_iconst (v := (4 : Int32)) dX6_bar_50 (by decide) ?_
        refine g_icmp_ge (tgt := 59) dX6_bar_51 (by decide) (fun h18 => ?_) (fun h18 => ?_)
        · have hf := ift h18 hf
          refine g_iload_n 2 dX6_bar_59 rfl rfl ?_
          refine g_bipush (v := (6 : Int32)) dX6_bar_60 (by decide) ?_
          refine g_icmp_ge (tgt := 71) dX6_bar_62 (by decide) (fun h19 => ?_) (fun h19 => ?_)
          · have hf := ift h19 hf
            refine g_iload_n 2 dX6_bar_71 rfl rfl ?_
            refine g_bipush (v := (6 : Int32)) dX6_bar_72 (by decide) ?_
            refine g_icmp_ne (tgt := 82) dX6_bar_74 (by decide) (fun h20 => ?_) (fun h20 => ?_)
            · have hf := iff_ h20 hf
              refine g_bipush (v := (8 : Int32)) dX6_bar_82 (by decide) ?_
              obtain rfl := Option.some.inj hf
              exact g_sub [1, 2, 3, 0] rfl J_v16
            · have hf := ift h20 hf
              refine g_bipush (v := (99 : Int32)) dX6_bar_77 (by decide) ?_
              refine g_goto (tgt := 84) dX6_bar_79 (by decide) ?_
              obtain rfl := Option.some.inj hf
              exact g_sub [1, 2, 3, 0] rfl J_v16
          · have hf := iff_ h19 hf
            refine g_sipush (v := (999 : Int32)) dX6_bar_65 (by decide) ?_
            refine g_goto (tgt := 84) dX6_bar_68 (by decide) ?_
            obtain rfl := Option.some.inj hf
            exact g_sub [1, 2, 3, 0] rfl J_v16
        · have hf := iff_ h18 hf
          refine g_bipush (v := (9 : Int32)) dX6_bar_54 (by decide) ?_
          refine g_goto (tgt := 84) dX6_bar_56 (by decide) ?_
          obtain rfl := Option.some.inj hf
          exact g_sub [1, 2, 3, 0] rfl J_v16
      · have hf := iff_ h17 hf
        refine g_bipush (v := (10 : Int32)) dX6_bar_44 (by decide) ?_
        refine g_goto (tgt := 84) dX6_bar_46 (by decide) ?_
        obtain rfl := Option.some.inj hf
        exact g_sub [1, 2, 3, 0] rfl J_v16
    have hf := hE_v8
    refine g_icmp_eq (tgt := 33) dX6_bar_19 (by decide) (fun h9 => ?_) (fun h9 => ?_)
    · have hf := ift h9 hf
      refine g_iconst (v := (1 : Int32)) dX6_bar_33 (by decide) ?_
      refine g_goto (tgt := 38) dX6_bar_34 (by decide) ?_
      obtain rfl := Option.some.inj hf
      exact g_sub [0, 1, 2] rfl J_v8
    · have hf := iff_ h9 hf
      refine g_iload_n 1 dX6_bar_22 rfl rfl ?_
      refine g_iconst (v := (3 : Int32)) dX6_bar_23 (by decide) ?_
      refine g_icmp_eq (tgt := 33) dX6_bar_24 (by decide) (fun h10 => ?_) (fun h10 => ?_)
      · have hf := ift h10 hf
        refine g_iconst (v := (1 : Int32)) dX6_bar_33 (by decide) ?_
        refine g_goto (tgt := 38) dX6_bar_34 (by decide) ?_
        obtain rfl := Option.some.inj hf
        exact g_sub [0, 1, 2] rfl J_v8
      · have hf := iff_ h10 hf
        refine g_iload_n 1 dX6_bar_27 rfl rfl ?_
        refine g_bipush (v := (7 : Int32)) dX6_bar_28 (by decide) ?_
        refine g_icmp_ne (tgt := 37) dX6_bar_30 (by decide) (fun h11 => ?_) (fun h11 => ?_)
        · have hf := iff_ h11 hf
          refine g_iconst (v := (0 : Int32)) dX6_bar_37 (by decide) ?_
          obtain rfl := Option.some.inj hf
          exact g_sub [0, 1, 2] rfl J_v8
        · have hf := ift h11 hf
          refine g_iconst (v := (1 : Int32)) dX6_bar_33 (by decide) ?_
          refine g_goto (tgt := 38) dX6_bar_34 (by decide) ?_
          obtain rfl := Option.some.inj hf
          exact g_sub [0, 1, 2] rfl J_v8
  · have hf := ift h4 hf
    refine g_iconst (v := (-1 : Int32)) dX6_bar_15 (by decide) ?_
    obtain rfl := Option.some.inj hf
    exact hr _ _ dX6_bar_16
