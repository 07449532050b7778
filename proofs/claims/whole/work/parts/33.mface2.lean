-- ThumbScaleModel done (II)I
def rmX6_done : Room := { frames := 2, cells := 0, slots := 0, locals := 61 }
def kX6_done : MK := (cX6_done, 3, RX6, wsX6_done, (some .int), rmX6_done)

set_option maxRecDepth 20000 in
theorem jX6_done_54 : Cond.fieldLink RX6 54 (TX6 0).1 (TX6 0).2.1 (TX6 0).2.2.1 ∈ wsX6_done := by decide +kernel
set_option maxRecDepth 20000 in
theorem iX6_done_X6 : ∀ x ∈ u_ws RX6 TX6 29, x ∈ wsX6_done := by decide +kernel
set_option maxRecDepth 20000 in
theorem vX6_done_232 : KV kX6_done 232 RX6 yX6_isBehind wsX6_isBehind rmX6_isBehind 2 := ⟨_, _, _, _, gX6_done_X6_isBehind, rfl, rfl, rfl, by decide +kernel, ⟨by decide, by decide⟩⟩
set_option maxRecDepth 20000 in
theorem vX6_done_236 : KV kX6_done 236 RX6 yX6_weighsAll wsX6_weighsAll rmX6_weighsAll 0 := ⟨_, _, _, _, gX6_done_X6_weighsAll, rfl, rfl, rfl, by decide +kernel, ⟨by decide, by decide⟩⟩
set_option maxRecDepth 20000 in
theorem jX6_done_48 : Cond.fieldLink RX6 48 (TX6 24).1 (TX6 24).2.1 (TX6 24).2.2.1 ∈ wsX6_done := by decide +kernel
def f_X6_done (F : Nat) (s : SO) (a1 : Int32) (a2 : Int32) : Option (Int32 × SO) :=
    olt (uO_thrown s (0 : Int32)) (fun s1 =>
    obd (f_X6_isBehind F s1 a1 a2) (fun v2 =>
    (if v2 = 0 then
    some ((-1 : Int32), s1)
    else
    obd (f_X6_weighsAll F s1) (fun v5 =>
    ochi (((10 : Int32) * a1) + a2) 100 (
    some (((O_dones v5) (Int32.toNatClampNeg (((10 : Int32) * a1) + a2))), v5))))))

set_option maxHeartbeats 4000000 in
set_option maxRecDepth 100000 in
theorem c_X6_done {l : Launch} {D : va_G} {tys : List (ClassId × FieldType)} {X : XT} {cs : CS} (ad : Nat → Nat) {F : Nat} {s : SO} {a1 : Int32} {a2 : Int32} {r : (Int32 × SO)} (htyM : tys = tyA cs) (hf : f_X6_done F s a1 a2 = some r) : Ci l D tys X yX6_done wsX6_done rmX6_done [.ref (ad 0), .int a1, .int a2] (wO cs ad s) r.1 (wO cs ad r.2) := by
  refine Ci_ofG (by decide +kernel) rfl (Nat.le_of_ble_eq_true rfl) .int rfl (vp_nar_int _) (fun E _ _ hty0 hX0 hr => ?_)
  have hty := hty0.trans htyM
  have hr : Ri E kX6_done r.1 (wO cs ad r.2) := hr
  show G E kX6_done 0 0 0 [(0, .ref (ad 0)), (1, .int a1), (2, .int a2)] [] (wO cs ad s)
  unfold f_X6_done at hf
  refine g_aload_n 0 dX6_done_0 rfl rfl ?_
  refine g_iconst (v := (0 : Int32)) dX6_done_1 (by decide) ?_
  obtain ⟨s1, e_s1, hf⟩ := olt_some hf
  refine g_put (ci := 6) (T := TX6) (N := 29) (ty := .int) (w2 := (wO cs ad s1)) 0 0 (.int (0 : Int32)) tyX6 dX6_done_2 iX6_done_X6 tyX6_ok nmX6 rfl jX6_done_54 (by decide) rfl rfl rfl rfl wlaO_0 (Nat.le_of_ble_eq_true rfl) (wlpO_0_0.trans (congrArg (wO cs ad) e_s1)) ?_
  refine g_aload_n 0 dX6_done_5 rfl rfl ?_
  refine g_iload_n 1 dX6_done_6 rfl rfl ?_
  refine g_iload_n 2 dX6_done_7 rfl rfl ?_
  obtain ⟨v2, hc3, hf⟩ := obd_some hf
  refine g_callVi (ci := 6) (As := [.int a1, .int a2]) (rest := []) (w2 := (wO cs ad s1)) 0 dX6_done_8 vX6_done_232 (c_X6_isBehind ad hty hc3) rfl (mid0 _) rfl rfl 0 wlaO_0 rfl (Nat.le_of_ble_eq_true rfl) ⟨Nat.zero_le _, Nat.zero_le _⟩ (mid2 _ _) ?_
  refine g_if_ne (tgt := 16) dX6_done_11 (by decide) (fun h4 => ?_) (fun h4 => ?_)
  · have hf := iff_ h4 hf
    refine g_aload_n 0 dX6_done_16 rfl rfl ?_
    obtain ⟨v5, hc6, hf⟩ := obd_some hf
    refine g_callVv (ci := 6) (As := []) (rest := []) (w2 := (wO cs ad v5)) 0 dX6_done_17 vX6_done_236 (c_X6_weighsAll ad hty hc6) rfl (mid0 _) rfl rfl 0 wlaO_0 rfl (Nat.le_of_ble_eq_true rfl) ⟨Nat.zero_le _, Nat.zero_le _⟩ (mid2 _ _) ?_
    refine g_aload_n 0 dX6_done_20 rfl rfl ?_
    refine g_get (ci := 6) (T := TX6) (N := 29) 0 24 (.ref (ad 13)) dX6_done_21 iX6_done_X6 rfl jX6_done_48 (by decide) wlaO_0 rfl ?_
    refine g_bipush (v := (10 : Int32)) dX6_done_24 (by decide) ?_
    refine g_iload_n 1 dX6_done_26 rfl rfl ?_
    refine g_imul dX6_done_27 ?_
    refine g_iload_n 2 dX6_done_28 rfl rfl ?_
    refine g_iadd dX6_done_29 ?_
    obtain ⟨h7, hf⟩ := ochi_some hf
    refine g_iald 13 0 dX6_done_30 wlaO_13 (tI hty) h7 ?_
    obtain rfl := Option.some.inj hf
    exact hr _ _ dX6_done_31
  · have hf := ift h4 hf
    refine g_iconst (v := (-1 : Int32)) dX6_done_14 (by decide) ?_
    obtain rfl := Option.some.inj hf
    exact hr _ _ dX6_done_15

-- ThumbScaleModel cost (II)J
def rmX6_cost : Room := { frames := 2, cells := 0, slots := 0, locals := 61 }
def kX6_cost : MK := (cX6_cost, 3, RX6, wsX6_cost, (some .long), rmX6_cost)

set_option maxRecDepth 20000 in
theorem jX6_cost_54 : Cond.fieldLink RX6 54 (TX6 0).1 (TX6 0).2.1 (TX6 0).2.2.1 ∈ wsX6_cost := by decide +kernel
set_option maxRecDepth 20000 in
theorem iX6_cost_X6 : ∀ x ∈ u_ws RX6 TX6 29, x ∈ wsX6_cost := by decide +kernel
set_option maxRecDepth 20000 in
theorem vX6_cost_232 : KV kX6_cost 232 RX6 yX6_isBehind wsX6_isBehind rmX6_isBehind 2 := ⟨_, _, _, _, gX6_cost_X6_isBehind, rfl, rfl, rfl, by decide +kernel, ⟨by decide, by decide⟩⟩
set_option maxRecDepth 20000 in
theorem vX6_cost_236 : KV kX6_cost 236 RX6 yX6_weighsAll wsX6_weighsAll rmX6_weighsAll 0 := ⟨_, _, _, _, gX6_cost_X6_weighsAll, rfl, rfl, rfl, by decide +kernel, ⟨by decide, by decide⟩⟩
set_option maxRecDepth 20000 in
theorem jX6_cost_45 : Cond.fieldLink RX6 45 (TX6 23).1 (TX6 23).2.1 (TX6 23).2.2.1 ∈ wsX6_cost := by decide +kernel
set_option maxRecDepth 20000 in
theorem qX6_cost_189 : Cond.constantLong RX6 189 (-1000000000000000000 : Int64) ∈ wsX6_cost := by decide +kernel
def f_X6_cost (F : Nat) (s : SO) (a1 : Int32) (a2 : Int32) : Option (Int64 × SO) :=
    olt (uO_thrown s (0 : Int32)) (fun s1 =>
    obd (f_X6_isBehind F s1 a1 a2) (fun v2 =>
    (if v2 = 0 then
    some ((-1000000000000000000 : Int64), s1)
    else
    obd (f_X6_weighsAll F s1) (fun v5 =>
    ochi (((10 : Int32) * a1) + a2) 100 (
    some (((O_costs v5) (Int32.toNatClampNeg (((10 : Int32) * a1) + a2))), v5))))))

set_option maxHeartbeats 4000000 in
set_option maxRecDepth 100000 in
theorem c_X6_cost {l : Launch} {D : va_G} {tys : List (ClassId × FieldType)} {X : XT} {cs : CS} (ad : Nat → Nat) {F : Nat} {s : SO} {a1 : Int32} {a2 : Int32} {r : (Int64 × SO)} (htyM : tys = tyA cs) (hf : f_X6_cost F s a1 a2 = some r) : Cl l D tys X yX6_cost wsX6_cost rmX6_cost [.ref (ad 0), .int a1, .int a2] (wO cs ad s) r.1 (wO cs ad r.2) := by
  refine Cl_ofG (by decide +kernel) rfl (Nat.le_of_ble_eq_true rfl) (fun E _ _ hty0 hX0 hr => ?_)
  have hty := hty0.trans htyM
  have hr : Rl E kX6_cost r.1 (wO cs ad r.2) := hr
  show G E kX6_cost 0 0 0 [(0, .ref (ad 0)), (1, .int a1), (2, .int a2)] [] (wO cs ad s)
  unfold f_X6_cost at hf
  refine g_aload_n 0 dX6_cost_0 rfl rfl ?_
  refine g_iconst (v := (0 : Int32)) dX6_cost_1 (by decide) ?_
  obtain ⟨s1, e_s1, hf⟩ := olt_some hf
  refine g_put (ci := 6) (T := TX6) (N := 29) (ty := .int) (w2 := (wO cs ad s1)) 0 0 (.int (0 : Int32)) tyX6 dX6_cost_2 iX6_cost_X6 tyX6_ok nmX6 rfl jX6_cost_54 (by decide) rfl rfl rfl rfl wlaO_0 (Nat.le_of_ble_eq_true rfl) (wlpO_0_0.trans (congrArg (wO cs ad) e_s1)) ?_
  refine g_aload_n 0 dX6_cost_5 rfl rfl ?_
  refine g_iload_n 1 dX6_cost_6 rfl rfl ?_
  refine g_iload_n 2 dX6_cost_7 rfl rfl ?_
  obtain ⟨v2, hc3, hf⟩ := obd_some hf
  refine g_callVi (ci := 6) (As := [.int a1, .int a2]) (rest := []) (w2 := (wO cs ad s1)) 0 dX6_cost_8 vX6_cost_232 (c_X6_isBehind ad hty hc3) rfl (mid0 _) rfl rfl 0 wlaO_0 rfl (Nat.le_of_ble_eq_true rfl) ⟨Nat.zero_le _, Nat.zero_le _⟩ (mid2 _ _) ?_
  refine g_if_ne (tgt := 18) dX6_cost_11 (by decide) (fun h4 => ?_) (fun h4 => ?_)
  · have hf := iff_ h4 hf
    refine g_aload_n 0 dX6_cost_18 rfl rfl ?_
    obtain ⟨v5, hc6, hf⟩ := obd_some hf
    refine g_callVv (ci := 6) (As := []) (rest := []) (w2 := (wO cs ad v5)) 0 dX6_cost_19 vX6_cost_236 (c_X6_weighsAll ad hty hc6) rfl (mid0 _) rfl rfl 0 wlaO_0 rfl (Nat.le_of_ble_eq_true rfl) ⟨Nat.zero_le _, Nat.zero_le _⟩ (mid2 _ _) ?_
    refine g_aload_n 0 dX6_cost_22 rfl rfl ?_
    refine g_get (ci := 6) (T := TX6) (N := 29) 0 23 (.ref (ad 12)) dX6_cost_23 iX6_cost_X6 rfl jX6_cost_45 (by decide) wlaO_0 rfl ?_
    refine g_bipush (v := (10 : Int32)) dX6_cost_26 (by decide) ?_
    refine g_iload_n 1 dX6_cost_28 rfl rfl ?_
    refine g_imul dX6_cost_29 ?_
    refine g_iload_n 2 dX6_cost_30 rfl rfl ?_
    refine g_iadd dX6_cost_31 ?_
    obtain ⟨h7, hf⟩ := ochi_some hf
    refine g_lald 12 1 dX6_cost_32 wlaO_12 (tJ hty) h7 ?_
    obtain rfl := Option.some.inj hf
    exact hr _ _ dX6_cost_33
  · have hf := ift h4 hf
    refine g_ldc2 (v := (-1000000000000000000 : Int64)) dX6_cost_14 qX6_cost_189 ?_
    obtain rfl := Option.some.inj hf
    exact hr _ _ dX6_cost_17

-- ThumbScaleModel enough (I)I
def rmX6_enough : Room := { frames := 2, cells := 0, slots := 0, locals := 61 }
def kX6_enough : MK := (cX6_enough, 6, RX6, wsX6_enough, (some .int), rmX6_enough)

set_option maxRecDepth 20000 in
theorem jX6_enough_54 : Cond.fieldLink RX6 54 (TX6 0).1 (TX6 0).2.1 (TX6 0).2.2.1 ∈ wsX6_enough := by decide +kernel
set_option maxRecDepth 20000 in
theorem iX6_enough_X6 : ∀ x ∈ u_ws RX6 TX6 29, x ∈ wsX6_enough := by decide +kernel
set_option maxRecDepth 20000 in
theorem jX6_enough_39 : Cond.fieldLink RX6 39 (TX6 21).1 (TX6 21).2.1 (TX6 21).2.2.1 ∈ wsX6_enough := by decide +kernel
set_option maxRecDepth 20000 in
theorem vX6_enough_61 : KS kX6_enough 61 yX6_in wsX6_in rmX6_in 3 := ⟨_, _, _, _, gX6_enough_X6_in, rfl, rfl, rfl, by decide +kernel, ⟨by decide, by decide⟩⟩
set_option maxRecDepth 20000 in
theorem vX6_enough_236 : KV kX6_enough 236 RX6 yX6_weighsAll wsX6_weighsAll rmX6_weighsAll 0 := ⟨_, _, _, _, gX6_enough_X6_weighsAll, rfl, rfl, rfl, by decide +kernel, ⟨by decide, by decide⟩⟩
set_option maxRecDepth 20000 in
theorem jX6_enough_48 : Cond.fieldLink RX6 48 (TX6 24).1 (TX6 24).2.1 (TX6 24).2.2.1 ∈ wsX6_enough := by decide +kernel
def f_X6_enough_L51 (F : Nat) (a1 : Int32) (s19 : SO) (k35_ : Int32 → Int32 → Int32 → Option (Int32 × SO)) : Nat → Int32 → Int32 → Int32 → Int32 → Option (Int32 × SO)
  | 0, _, _, _, _ => none
  | n + 1, x15, x16, x17, x18 =>
    (if x18 < 0 then
    k35_ x15 x16 (x17 + 1)
    else
    ochi (((10 : Int32) * x17) + x18) 100 (
    obd ((if ((O_dones s19) (Int32.toNatClampNeg (((10 : Int32) * x17) + x18))) = (2 : Int32) then
    some x17
    else
    some x15)) (fun v23 =>
    (if x17 = a1 then
    ochi (((10 : Int32) * x17) + x18) 100 (
    (if ((O_dones s19) (Int32.toNatClampNeg (((10 : Int32) * x17) + x18))) = 0 then
    f_X6_enough_L51 F a1 s19 k35_ n v23 x18 x17 (x18 + (-1))
    else
    f_X6_enough_L51 F a1 s19 k35_ n v23 x16 x17 (x18 + (-1))))
    else
    f_X6_enough_L51 F a1 s19 k35_ n v23 x16 x17 (x18 + (-1))))))

def f_X6_enough_L35 (F : Nat) (a1 : Int32) (s11 : SO) : Nat → Int32 → Int32 → Int32 → Option (Int32 × SO)
  | 0, _, _, _ => none
  | n + 1, x8, x9, x10 =>
    ochi (7 : Int32) 8 (
    (if ((O_bars s11) (Int32.toNatClampNeg (7 : Int32))) < x10 then
    (if a1 = (-1 : Int32) then
    some (x8, s11)
    else
    some (x9, s11))
    else
    f_X6_enough_L51 F a1 s11 (f_X6_enough_L35 F a1 s11 n) F x8 x9 x10 x10))

def f_X6_enough (F : Nat) (s : SO) (a1 : Int32) : Option (Int32 × SO) :=
    olt (uO_thrown s (0 : Int32)) (fun s1 =>
    ochi (7 : Int32) 8 (
    obd (f_X6_in F a1 (-1 : Int32) ((O_bars s1) (Int32.toNatClampNeg (7 : Int32)))) (fun v3 =>
    (if v3 = 0 then
    some ((-1 : Int32), s1)
    else
    obd (f_X6_weighsAll F s1) (fun v6 =>
    f_X6_enough_L35 F a1 v6 F (-9 : Int32) (-9 : Int32) (0 : Int32))))))

set_option maxHeartbeats 4000000 in
set_option maxRecDepth 100000 in
theorem w_X6_enough_L51 {E : GE} {cs : CS} {ad : Nat → Nat} {F : Nat} {a1 : Int32} {s19 : SO} {k35_ : Int32 → Int32 → Int32 → Option (Int32 × SO)} {r : (Int32 × SO)} (hty : eT E = tyA cs) (hr : Ri E kX6_enough r.1 (wO cs ad r.2)) (K35_ : ∀ (x8 : Int32) (x9 : Int32) (x10 : Int32), k35_ x8 x9 x10 = some r → G E kX6_enough 0 0 35 [(0, .ref (ad 0)), (1, .int a1), (2, .int x8), (3, .int x9), (4, .int x10)] [] (wO cs ad s19)) : ∀ (n : Nat) (x15 : Int32) (x16 : Int32) (x17 : Int32) (x18 : Int32), f_X6_enough_L51 F a1 s19 k35_ n x15 x16 x17 x18 = some r → G E kX6_enough 0 0 51 [(0, .ref (ad 0)), (1, .int a1), (2, .int x15), (3, .int x16), (4, .int x17), (5, .int x18)] [] (wO cs ad s19) := by
  intro n
  induction n with
  | zero =>
    intro x15 x16 x17 x18 hf
    cases (show (none : Option (Int32 × SO)) = some r from hf)
  | succ n ih =>
    intro x15 x16 x17 x18 hf
    rw [f_X6_enough_L51] at hf
    refine g_iload 5 dX6_enough_51 rfl ?_
    refine g_if_lt (tgt := 115) dX6_enough_53 (by decide) (fun h20 => ?_) (fun h20 => ?_)
    · have hf := ift h20 hf
      refine g_iinc (lv2 := [(4, .int (x17 + 1)), (0, .ref (ad 0)), (1, .int a1), (2, .int x15), (3, .int x16), (5, .int x18)]) 4 dX6_enough_115 rfl (ii1 _) (by decide) rfl ?_
      refine g_goto (tgt := 35) dX6_enough_118 (by decide) ?_
      exact g_sub [1, 2, 3, 4, 0] rfl (K35_ x15 x16 (x17 + 1) hf)
    · have hf := iff_ h20 hf
      refine g_aload_n 0 dX6_enough_56 rfl rfl ?_
      refine g_get (ci := 6) (T := TX6) (N := 29) 0 24 (.ref (ad 13)) dX6_enough_57 iX6_enough_X6 rfl jX6_enough_48 (by decide) wlaO_0 rfl ?_
      refine g_bipush (v := (10 : Int32)) dX6_enough_60 (by decide) ?_
      refine g_iload 4 dX6_enough_62 rfl ?_
      refine g_imul dX6_enough_64 ?_
      refine g_iload 5 dX6_enough_65 rfl ?_
      refine g_iadd dX6_enough_67 ?_
      obtain ⟨h21, hf⟩ := ochi_some hf
      refine g_iald 13 0 dX6_enough_68 wlaO_13 (tI hty) h21 ?_
      refine g_iconst (v := (2 : Int32)) dX6_enough_69 (by decide) ?_
      obtain ⟨v23, hE_v23, hf⟩ := obd_some hf
      have J_v23 : G E kX6_enough 0 0 79 [(0, .ref (ad 0)), (1, .int a1), (3, .int x16), (4, .int x17), (5, .int x18)] [.int v23] (wO cs ad s19) := by
        refine g_istore_n (lv2 := [(2, .int v23), (0, .ref (ad 0)), (1, .int a1), (3, .int x16), (4, .int x17), (5, .int x18)]) dX6_enough_79 rfl (by decide) rfl ?_
        refine g_iload 4 dX6_enough_80 rfl ?_
        refine g_iload_n 2 dX6_enough_82 rfl rfl ?_
        refine g_icmp_ne (tgt := 107) dX6_enough_83 (by decide) (fun h25 => ?_) (fun h25 => ?_)
        · have hf := iff_ h25 hf
          refine g_iload_n 3 dX6_enough_107 rfl rfl ?_
          refine g_istore_n (lv2 := [(3, .int x16), (2, .int v23), (0, .ref (ad 0)), (1, .int a1), (4, .int x17), (5, .int x18)]) dX6_enough_108 rfl (by decide) rfl ?_
          refine g_iinc (lv2 := [(5, .int (x18 + (-1))), (3, .int x16), (2, .int v23), (0, .ref (ad 0)), (1, .int a1), (4, .int x17)]) 5 dX6_enough_109 rfl (iim1 _) (by decide) rfl ?_
          refine g_goto (tgt := 51) dX6_enough_112 (by decide) ?_
          exact g_sub [3, 4, 2, 1, 5, 0] rfl (ih v23 x16 x17 (x18 + (-1)) hf)
        · have hf := ift h25 hf
          refine g_aload_n 1 dX6_enough_86 rfl rfl ?_
          refine g_get (ci := 6) (T := TX6) (N := 29) 0 24 (.ref (ad 13)) dX6_enough_87 iX6_enough_X6 rfl jX6_enough_48 (by decide) wlaO_0 rfl ?_
          refine g_bipush (v := (10 : Int32)) dX6_enough_90 (by decide) ?_
          refine g_iload 4 dX6_enough_92 rfl ?_
          refine g_imul dX6_enough_94 ?_
          refine g_iload 5 dX6_enough_95 rfl ?_
          refine g_iadd dX6_enough_97 ?_
          obtain ⟨h26, hf⟩ := ochi_some hf
          refine g_iald 13 0 dX6_enough_98 wlaO_13 (tI hty) h26 ?_
          refine g_if_ne (tgt := 107) dX6_enough_99 (by decide) (fun h27 => ?_) (fun h27 => ?_)
          · have hf := iff_ h27 hf
            refine g_iload_n 3 dX6_enough_107 rfl rfl ?_
            refine g_istore_n (lv2 := [(3, .int x16), (2, .int v23), (0, .ref (ad 0)), (1, .int a1), (4, .int x17), (5, .int x18)]) dX6_enough_108 rfl (by decide) rfl ?_
            refine g_iinc (lv2 := [(5, .int (x18 + (-1))), (3, .int x16), (2, .int v23), (0, .ref (ad 0)), (1, .int a1), (4, .int x17)]) 5 dX6_enough_109 rfl (iim1 _) (by decide) rfl ?_
            refine g_goto (tgt := 51) dX6_enough_112 (by decide) ?_
            exact g_sub [3, 4, 2, 1, 5, 0] rfl (ih v23 x16 x17 (x18 + (-1)) hf)
          · have hf := ift h27 hf
            refine g_iload 5 dX6_enough_102 rfl ?_
            refine g_goto (tgt := 108) dX6_enough_104 (by decide) ?_
            refine g_istore_n (lv2 := [(3, .int x18), (2, .int v23), (0, .ref (ad 0)), (1, .int a1), (4, .int x17), (5, .int x18)]) dX6_enough_108 rfl (by decide) rfl ?_
            refine g_iinc (lv2 := [(5, .int (x18 + (-1))), (3, .int x18), (2, .int v23), (0, .ref (ad 0)), (1, .int a1), (4, .int x17)]) 5 dX6_enough_109 rfl (iim1 _) (by decide) rfl ?_
            refine g_goto (tgt := 51) dX6_enough_112 (by decide) ?_
            exact g_sub [3, 4, 2, 1, 5, 0] rfl (ih v23 x18 x17 (x18 + (-1)) hf)
      have hf := hE_v23
      refine g_icmp_ne (tgt := 78) dX6_enough_70 (by decide) (fun h24 => ?_) (fun h24 => ?_)
      · have hf := iff_ h24 hf
        refine g_iload_n 2 dX6_enough_78 rfl rfl ?_
        obtain rfl := Option.some.inj hf
        exact g_sub [0, 1, 3, 4, 5] rfl J_v23
      · have hf := ift h24 hf
        refine g_iload 4 dX6_enough_73 rfl ?_
        refine g_goto (tgt := 79) dX6_enough_75 (by decide) ?_
        obtain rfl := Option.some.inj hf
        exact g_sub [0, 1, 3, 4, 5] rfl J_v23

set_option maxHeartbeats 4000000 in
set_option maxRecDepth 100000 in
theorem w_X6_enough_L35 {E : GE} {cs : CS} {ad : Nat → Nat} {F : Nat} {a1 : Int32} {s11 : SO} {r : (Int32 × SO)} (hty : eT E = tyA cs) (hr : Ri E kX6_enough r.1 (wO cs ad r.2)) : ∀ (n : Nat) (x8 : Int32) (x9 : Int32) (x10 : Int32), f_X6_enough_L35 F a1 s11 n x8 x9 x10 = some r → G E kX6_enough 0 0 35 [(0, .ref (ad 0)), (1, .int a1), (2, .int x8), (3, .int x9), (4, .int x10)] [] (wO cs ad s11) := by
  intro n
  induction n with
  | zero =>
    intro x8 x9 x10 hf
    cases (show (none : Option (Int32 × SO)) = some r from hf)
  | succ n ih =>
    intro x8 x9 x10 hf
    rw [f_X6_enough_L35] at hf
    refine g_iload 4 dX6_enough_35 rfl ?_
    refine g_aload_n 0 dX6_enough_37 rfl rfl ?_
    refine g_get (ci := 6) (T := TX6) (N := 29) 0 21 (.ref (ad 10)) dX6_enough_38 iX6_enough_X6 rfl jX6_enough_39 (by decide) wlaO_0 rfl ?_
    refine g_bipush (v := (7 : Int32)) dX6_enough_41 (by decide) ?_
    obtain ⟨h12, hf⟩ := ochi_some hf
    refine g_iald 10 0 dX6_enough_43 wlaO_10 (tI hty) h12 ?_
    refine g_icmp_gt (tgt := 121) dX6_enough_44 (by decide) (fun h13 => ?_) (fun h13 => ?_)
    · have hf := ift h13 hf
      refine g_iload_n 1 dX6_enough_121 rfl rfl ?_
      refine g_iconst (v := (-1 : Int32)) dX6_enough_122 (by decide) ?_
      refine g_icmp_ne (tgt := 130) dX6_enough_123 (by decide) (fun h14 => ?_) (fun h14 => ?_)
      · have hf := iff_ h14 hf
        refine g_iload_n 3 dX6_enough_130 rfl rfl ?_
        obtain rfl := Option.some.inj hf
        exact hr _ _ dX6_enough_131
      · have hf := ift h14 hf
        refine g_iload_n 2 dX6_enough_126 rfl rfl ?_
        refine g_goto (tgt := 131) dX6_enough_127 (by decide) ?_
        obtain rfl := Option.some.inj hf
        exact hr _ _ dX6_enough_131
    · have hf := iff_ h13 hf
      refine g_iload 4 dX6_enough_47 rfl ?_
      refine g_istore (lv2 := [(5, .int x10), (0, .ref (ad 0)), (1, .int a1), (2, .int x8), (3, .int x9), (4, .int x10)]) dX6_enough_49 (by decide) rfl ?_
      exact g_sub [1, 2, 3, 4, 5, 0] rfl (w_X6_enough_L51 hty hr ih F x8 x9 x10 x10 hf)

set_option maxHeartbeats 4000000 in
set_option maxRecDepth 100000 in
theorem c_X6_enough {l : Launch} {D : va_G} {tys : List (ClassId × FieldType)} {X : XT} {cs : CS} (ad : Nat → Nat) {F : Nat} {s : SO} {a1 : Int32} {r : (Int32 × SO)} (htyM : tys = tyA cs) (hf : f_X6_enough F s a1 = some r) : Ci l D tys X yX6_enough wsX6_enough rmX6_enough [.ref (ad 0), .int a1] (wO cs ad s) r.1 (wO cs ad r.2) := by
  refine Ci_ofG (by decide +kernel) rfl (Nat.le_of_ble_eq_true rfl) .int rfl (vp_nar_int _) (fun E _ _ hty0 hX0 hr => ?_)
  have hty := hty0.trans htyM
  have hr : Ri E kX6_enough r.1 (wO cs ad r.2) := hr
  show G E kX6_enough 0 0 0 [(0, .ref (ad 0)), (1, .int a1)] [] (wO cs ad s)
  unfold f_X6_enough at hf
  refine g_aload_n 0 dX6_enough_0 rfl rfl ?_
  refine g_iconst (v := (0 : Int32)) dX6_enough_1 (by decide) ?_
  obtain ⟨s1, e_s1, hf⟩ := olt_some hf
  refine g_put (ci := 6) (T := TX6) (N := 29) (ty := .int) (w2 := (wO cs ad s1)) 0 0 (.int (0 : Int32)) tyX6 dX6_enough_2 iX6_enough_X6 tyX6_ok nmX6 rfl jX6_enough_54 (by decide) rfl rfl rfl rfl wlaO_0 (Nat.le_of_ble_eq_true rfl) (wlpO_0_0.trans (congrArg (wO cs ad) e_s1)) ?_
  refine g_iload_n 1 dX6_enough_5 rfl rfl ?_
  refine g_iconst (v := (-1 : Int32)) dX6_enough_6 (by decide) ?_
  refine g_aload_n 0 dX6_enough_7 rfl rfl ?_
  refine g_get (ci := 6) (T := TX6) (N := 29) 0 21 (.ref (ad 10)) dX6_enough_8 iX6_enough_X6 rfl jX6_enough_39 (by decide) wlaO_0 rfl ?_
  refine g_bipush (v := (7 : Int32)) dX6_enough_11 (by decide) ?_
  obtain ⟨h2, hf⟩ := ochi_some hf
  refine g_iald 10 0 dX6_enough_13 wlaO_10 (tI hty) h2 ?_
  obtain ⟨v3, hc4, hf⟩ := obd_some hf
  refine g_callSi (As := [.int a1, .int (-1 : Int32), .int ((O_bars s1) (Int32.toNatClampNeg (7 : Int32)))]) (rest := []) (w2 := (wO cs ad s1)) 0 dX6_enough_14 vX6_enough_61 (c_X6_in hty hc4) rfl (midm _) rfl (Nat.le_of_ble_eq_true rfl) ⟨Nat.zero_le _, Nat.zero_le _⟩ (midn _) ?_
  refine g_if_ne (tgt := 22) dX6_enough_17 (by decide) (fun h5 => ?_) (fun h5 => ?_)
  · have hf := iff_ h5 hf
    refine g_aload_n 0 dX6_enough_22 rfl rfl ?_
    obtain ⟨v6, hc7, hf⟩ := obd_some hf
    refine g_callVv (ci := 6) (As := []) (rest := []) (w2 := (wO cs ad v6)) 0 dX6_enough_23 vX6_enough_236 (c_X6_weighsAll ad hty hc7) rfl (mid0 _) rfl rfl 0 wlaO_0 rfl (Nat.le_of_ble_eq_true rfl) ⟨Nat.zero_le _, Nat.zero_le _⟩ (mid2 _ _) ?_
    refine g_bipush (v := (-9 : Int32)) dX6_enough_26 (by decide) ?_
    refine g_istore_n (lv2 := [(2, .int (-9 : Int32)), (0, .ref (ad 0)), (1, .int a1)]) dX6_enough_28 rfl (by decide) rfl ?_
    refine g_bipush (v := (-9 : Int32)) dX6_enough_29 (by decide) ?_
    refine g_istore_n (lv2 := [(3, .int (-9 : Int32)), (2, .int (-9 : Int32)), (0, .ref (ad 0)), (1, .int a1)]) dX6_enough_31 rfl (by decide) rfl ?_
    refine g_iconst (v := (0 : Int32)) dX6_enough_32 (by decide) ?_
    refine g_istore (lv2 := [(4, .int (0 : Int32)), (3, .int (-9 : Int32)), (2, .int (-9 : Int32)), (0, .ref (ad 0)), (1, .int a1)]) dX6_enough_33 (by decide) rfl ?_
    exact g_sub [3, 4, 2, 1, 0] rfl (w_X6_enough_L35 hty hr F (-9 : Int32) (-9 : Int32) (0 : Int32) hf)
  · have hf := ift h5 hf
    refine g_iconst (v := (-1 : Int32)) dX6_enough_20 (by decide) ?_
    obtain rfl := Option.some.inj hf
    exact hr _ _ dX6_enough_21

-- ThumbScaleModel year (III)J
def rmX6_year : Room := { frames := 3, cells := 0, slots := 0, locals := 76 }
def kX6_year : MK := (cX6_year, 8, RX6, wsX6_year, (some .long), rmX6_year)

set_option maxRecDepth 20000 in
theorem jX6_year_54 : Cond.fieldLink RX6 54 (TX6 0).1 (TX6 0).2.1 (TX6 0).2.2.1 ∈ wsX6_year := by decide +kernel
set_option maxRecDepth 20000 in
theorem iX6_year_X6 : ∀ x ∈ u_ws RX6 TX6 29, x ∈ wsX6_year := by decide +kernel
set_option maxRecDepth 20000 in
theorem vX6_year_158 : KV kX6_year 158 RX6 yX6_isStall wsX6_isStall rmX6_isStall 1 := ⟨_, _, _, _, gX6_year_X6_isStall, rfl, rfl, rfl, by decide +kernel, ⟨by decide, by decide⟩⟩
set_option maxRecDepth 20000 in
theorem qX6_year_189 : Cond.constantLong RX6 189 (-1000000000000000000 : Int64) ∈ wsX6_year := by decide +kernel
set_option maxRecDepth 20000 in
theorem vX6_year_61 : KS kX6_year 61 yX6_in wsX6_in rmX6_in 3 := ⟨_, _, _, _, gX6_year_X6_in, rfl, rfl, rfl, by decide +kernel, ⟨by decide, by decide⟩⟩
set_option maxRecDepth 20000 in
theorem vX6_year_161 : KV kX6_year 161 RX6 yX6_bagsOf wsX6_bagsOf rmX6_bagsOf 1 := ⟨_, _, _, _, gX6_year_X6_bagsOf, rfl, rfl, rfl, by decide +kernel, ⟨by decide, by decide⟩⟩
set_option maxRecDepth 20000 in
theorem jX6_year_7 : Cond.fieldLink RX6 7 (TX6 2).1 (TX6 2).2.1 (TX6 2).2.2.1 ∈ wsX6_year := by decide +kernel
set_option maxRecDepth 20000 in
theorem jX6_year_30 : Cond.fieldLink RX6 30 (TX6 14).1 (TX6 14).2.1 (TX6 14).2.2.1 ∈ wsX6_year := by decide +kernel
set_option maxRecDepth 20000 in
theorem qX6_year_239 : Cond.constantLong RX6 239 (100 : Int64) ∈ wsX6_year := by decide +kernel
set_option maxRecDepth 20000 in
theorem vX6_year_221 : KS kX6_year 221 yX6_part wsX6_part rmX6_part 3 := ⟨_, _, _, _, gX6_year_X6_part, rfl, rfl, rfl, by decide +kernel, ⟨by decide, by decide⟩⟩
set_option maxRecDepth 20000 in
theorem vX6_year_180 : KV kX6_year 180 RX6 yX6_shortOf wsX6_shortOf rmX6_shortOf 1 := ⟨_, _, _, _, gX6_year_X6_shortOf, rfl, rfl, rfl, by decide +kernel, ⟨by decide, by decide⟩⟩
set_option maxRecDepth 20000 in
theorem vX6_year_155 : KV kX6_year 155 RX6 yX6_bag wsX6_bag rmX6_bag 2 := ⟨_, _, _, _, gX6_year_X6_bag, rfl, rfl, rfl, by decide +kernel, ⟨by decide, by decide⟩⟩
def f_X6_year_L51 (F : Nat) (a1 : Int32) (a2 : Int32) (a3 : Int32) (s16 : SO) : Nat → Int64 → Int32 → Option (Int64 × SO)
  | 0, _, _ => none
  | n + 1, x14, x15 =>
    ochi (0 : Int32) 264 (
    (if ((O_s s16) (Int32.toNatClampNeg (0 : Int32))) ≤ x15 then
    ochi (((3 : Int32) * a1) + (2 : Int32)) 36 (
    obd (f_X6_bagsOf F s16 a1) (fun v20 =>
    obd (f_X6_part F ((x14 * (Int32.toInt64 ((O_stall s16) (Int32.toNatClampNeg (((3 : Int32) * a1) + (2 : Int32)))))) * (Int32.toInt64 a2)) ((100 : Int64) * (Int32.toInt64 v20)) a3) (fun v22 =>
    some (v22, s16))))
    else
    obd (f_X6_shortOf F s16 x15) (fun v24 =>
    obd (f_X6_bag F s16 x15 (0 : Int32)) (fun v26 =>
    (if v26 = a1 then
    (if v24 ≤ 0 then
    f_X6_year_L51 F a1 a2 a3 s16 n (x14 + (0 : Int64)) (x15 + 1)
    else
    f_X6_year_L51 F a1 a2 a3 s16 n (x14 + (Int32.toInt64 v24)) (x15 + 1))
    else
    f_X6_year_L51 F a1 a2 a3 s16 n (x14 + (0 : Int64)) (x15 + 1))))))

def f_X6_year (F : Nat) (s : SO) (a1 : Int32) (a2 : Int32) (a3 : Int32) : Option (Int64 × SO) :=
    olt (uO_thrown s (0 : Int32)) (fun s1 =>
    obd (f_X6_isStall F s1 a1) (fun v2 =>
    (if v2 = 0 then
    some ((-1000000000000000000 : Int64), s1)
    else
    obd (f_X6_in F a2 (0 : Int32) (9999 : Int32)) (fun v5 =>
    (if v5 = 0 then
    some ((-1000000000000000000 : Int64), s1)
    else
    obd (f_X6_in F a3 (0 : Int32) (1 : Int32)) (fun v8 =>
    (if v8 = 0 then
    some ((-1000000000000000000 : Int64), s1)
    else
    obd (f_X6_bagsOf F s1 a1) (fun v11 =>
    (if v11 = 0 then
    some ((-1000000000000000000 : Int64), s1)
    else
    f_X6_year_L51 F a1 a2 a3 s1 F (0 : Int64) (0 : Int32))))))))))

set_option maxHeartbeats 4000000 in
set_option maxRecDepth 100000 in
theorem w_X6_year_L51 {E : GE} {cs : CS} {ad : Nat → Nat} {F : Nat} {a1 : Int32} {a2 : Int32} {a3 : Int32} {s16 : SO} {r : (Int64 × SO)} (hty : eT E = tyA cs) (hr : Rl E kX6_year r.1 (wO cs ad r.2)) : ∀ (n : Nat) (x14 : Int64) (x15 : Int32), f_X6_year_L51 F a1 a2 a3 s16 n x14 x15 = some r → G E kX6_year 0 0 51 [(0, .ref (ad 0)), (1, .int a1), (2, .int a2), (3, .int a3), (4, .long x14), (6, .int x15)] [] (wO cs ad s16) := by
  intro n
  induction n with
  | zero =>
    intro x14 x15 hf
    cases (show (none : Option (Int64 × SO)) = some r from hf)
  | succ n ih =>
    intro x14 x15 hf
    rw [f_X6_year_L51] at hf
    refine g_iload 5 dX6_year_51 rfl ?_
    refine g_aload_n 0 dX6_year_53 rfl rfl ?_
    refine g_get (ci := 6) (T := TX6) (N := 29) 0 2 (.ref (ad 1)) dX6_year_54 iX6_year_X6 rfl jX6_year_7 (by decide) wlaO_0 rfl ?_
    refine g_iconst (v := (0 : Int32)) dX6_year_57 (by decide) ?_
    obtain ⟨h17, hf⟩ := ochi_some hf
    refine g_iald 1 0 dX6_year_58 wlaO_1 (tI hty) h17 ?_
    refine g_icmp_ge (tgt := 104) dX6_year_59 (by decide) (fun h18 => ?_) (fun h18 => ?_)
    · have hf := ift h18 hf
      refine g_lload 4 dX6_year_104 rfl ?_
      refine g_aload_n 0 dX6_year_106 rfl rfl ?_
      refine g_get (ci := 6) (T := TX6) (N := 29) 0 14 (.ref (ad 7)) dX6_year_107 iX6_year_X6 rfl jX6_year_30 (by decide) wlaO_0 rfl ?_
      refine g_iconst (v := (3 : Int32)) dX6_year_110 (by decide) ?_
      refine g_iload_n 1 dX6_year_111 rfl rfl ?_
      refine g_imul dX6_year_112 ?_
      refine g_iconst (v := (2 : Int32)) dX6_year_113 (by decide) ?_
      refine g_iadd dX6_year_114 ?_
      obtain ⟨h19, hf⟩ := ochi_some hf
      refine g_iald 7 0 dX6_year_115 wlaO_7 (tI hty) h19 ?_
      refine g_i2l dX6_year_116 ?_
      refine g_lmul dX6_year_117 ?_
      refine g_iload_n 2 dX6_year_118 rfl rfl ?_
      refine g_i2l dX6_year_119 ?_
      refine g_lmul dX6_year_120 ?_
      refine g_ldc2 (v := (100 : Int64)) dX6_year_121 qX6_year_239 ?_
      refine g_aload_n 0 dX6_year_124 rfl rfl ?_
      refine g_iload_n 1 dX6_year_125 rfl rfl ?_
      obtain ⟨v20, hc21, hf⟩ := obd_some hf
      refine g_callVi (ci := 6) (As := [.int a1]) (rest := [.long (100 : Int64), .long ((x14 * (Int32.toInt64 ((O_stall s16) (Int32.toNatClampNeg (((3 : Int32) * a1) + (2 : Int32)))))) * (Int32.toInt64 a2))]) (w2 := (wO cs ad s16)) 0 dX6_year_126 vX6_year_161 (c_X6_bagsOf ad hty hc21) rfl (mid0 _) rfl rfl 0 wlaO_0 rfl (Nat.le_of_ble_eq_true rfl) ⟨Nat.zero_le _, Nat.zero_le _⟩ (mid2 _ _) ?_
      refine g_i2l dX6_year_129 ?_
      refine g_lmul dX6_year_130 ?_
      refine g_iload_n 3 dX6_year_131 rfl rfl ?_
      obtain ⟨v22, hc23, hf⟩ := obd_some hf
      refine g_callSl (As := [.long ((x14 * (Int32.toInt64 ((O_stall s16) (Int32.toNatClampNeg (((3 : Int32) * a1) + (2 : Int32)))))) * (Int32.toInt64 a2)), .long ((100 : Int64) * (Int32.toInt64 v20)), .int a3]) (rest := []) (w2 := (wO cs ad s16)) 0 dX6_year_132 vX6_year_221 (c_X6_part hty hc23) rfl (midm _) rfl (Nat.le_of_ble_eq_true rfl) ⟨Nat.zero_le _, Nat.zero_le _⟩ (midn _) ?_
      obtain rfl := Option.some.inj hf
      exact hr _ _ dX6_year_135
    · have hf := iff_ h18 hf
      refine g_aload_n 0 dX6_year_62 rfl rfl ?_
      refine g_iload 5 dX6_year_63 rfl ?_
      obtain ⟨v24, hc25, hf⟩ := obd_some hf
      refine g_callVi (ci := 6) (As := [.int x15]) (rest := []) (w2 := (wO cs ad s16)) 0 dX6_year_65 vX6_year_180 (c_X6_shortOf ad hty hc25) rfl (mid0 _) rfl rfl 0 wlaO_0 rfl (Nat.le_of_ble_eq_true rfl) ⟨Nat.zero_le _, Nat.zero_le _⟩ (mid2 _ _) ?_
      refine g_istore (lv2 := [(7, .int v24), (0, .ref (ad 0)), (1, .int a1), (2, .int a2), (3, .int a3), (4, .long x14), (6, .int x15)]) dX6_year_68 (by decide) rfl ?_
      refine g_lload 5 dX6_year_70 rfl ?_
      refine g_aload_n 1 dX6_year_72 rfl rfl ?_
      refine g_iload 6 dX6_year_73 rfl ?_
      refine g_iconst (v := (0 : Int32)) dX6_year_75 (by decide) ?_
      obtain ⟨v26, hc27, hf⟩ := obd_some hf
      refine g_callVi (ci := 6) (As := [.int x15, .int (0 : Int32)]) (rest := [.long x14]) (w2 := (wO cs ad s16)) 0 dX6_year_76 vX6_year_155 (c_X6_bag ad hty hc27) rfl (mid0 _) rfl rfl 0 wlaO_0 rfl (Nat.le_of_ble_eq_true rfl) ⟨Nat.zero_le _, Nat.zero_le _⟩ (mid2 _ _) ?_
      refine g_iload_n 2 dX6_year_79 rfl rfl ?_
      refine g_icmp_ne (tgt := 94) dX6_year_80 (by decide) (fun h28 => ?_) (fun h28 => ?_)
      · have hf := iff_ h28 hf
        refine g_lconst (v := (0 : Int64)) dX6_year_94 (by decide) ?_
        refine g_ladd dX6_year_95 ?_
        refine g_lstore (lv2 := [(4, .long (x14 + (0 : Int64))), (7, .int v24), (0, .ref (ad 0)), (1, .int a1), (2, .int a2), (3, .int a3), (6, .int x15)]) dX6_year_96 (by decide) rfl ?_
        refine g_iinc (lv2 := [(6, .int (x15 + 1)), (4, .long (x14 + (0 : Int64))), (7, .int v24), (0, .ref (ad 0)), (1, .int a1), (2, .int a2), (3, .int a3)]) 6 dX6_year_98 rfl (ii1 _) (by decide) rfl ?_
        refine g_goto (tgt := 51) dX6_year_101 (by decide) ?_
        exact g_sub [3, 4, 5, 6, 1, 0] rfl (ih (x14 + (0 : Int64)) (x15 + 1) hf)
      · have hf := ift h28 hf
        refine g_iload 0 dX6_year_83 rfl ?_
        refine g_if_le (tgt := 94) dX6_year_85 (by decide) (fun h29 => ?_) (fun h29 => ?_)
        · have hf := ift h29 hf
          refine g_lconst (v := (0 : Int64)) dX6_year_94 (by decide) ?_
          refine g_ladd dX6_year_95 ?_
          refine g_lstore (lv2 := [(4, .long (x14 + (0 : Int64))), (7, .int v24), (0, .ref (ad 0)), (1, .int a1), (2, .int a2), (3, .int a3), (6, .int x15)]) dX6_year_96 (by decide) rfl ?_
          refine g_iinc (lv2 := [(6, .int (x15 + 1)), (4, .long (x14 + (0 : Int64))), (7, .int v24), (0, .ref (ad 0)), (1, .int a1), (2, .int a2), (3, .int a3)]) 6 dX6_year_98 rfl (ii1 _) (by decide) rfl ?_
          refine g_goto (tgt := 51) dX6_year_101 (by decide) ?_
          exact g_sub [3, 4, 5, 6, 1, 0] rfl (ih (x14 + (0 : Int64)) (x15 + 1) hf)
        · have hf := iff_ h29 hf
          refine g_iload 0 dX6_year_88 rfl ?_
          refine g_i2l dX6_year_90 ?_
          refine g_goto (tgt := 95) dX6_year_91 (by decide) ?_
          refine g_ladd dX6_year_95 ?_
          refine g_lstore (lv2 := [(4, .long (x14 + (Int32.toInt64 v24))), (7, .int v24), (0, .ref (ad 0)), (1, .int a1), (2, .int a2), (3, .int a3), (6, .int x15)]) dX6_year_96 (by decide) rfl ?_
          refine g_iinc (lv2 := [(6, .int (x15 + 1)), (4, .long (x14 + (Int32.toInt64 v24))), (7, .int v24), (0, .ref (ad 0)), (1, .int a1), (2, .int a2), (3, .int a3)]) 6 dX6_year_98 rfl (ii1 _) (by decide) rfl ?_
          refine g_goto (tgt := 51) dX6_year_101 (by decide) ?_
          exact g_sub [3, 4, 5, 6, 1, 0] rfl (ih (x14 + (Int32.toInt64 v24)) (x15 + 1) hf)

set_option maxHeartbeats 4000000 in
set_option maxRecDepth 100000 in
theorem c_X6_year {l : Launch} {D : va_G} {tys : List (ClassId × FieldType)} {X : XT} {cs : CS} (ad : Nat → Nat) {F : Nat} {s : SO} {a1 : Int32} {a2 : Int32} {a3 : Int32} {r : (Int64 × SO)} (htyM : tys = tyA cs) (hf : f_X6_year F s a1 a2 a3 = some r) : Cl l D tys X yX6_year wsX6_year rmX6_year [.ref (ad 0), .int a1, .int a2, .int a3] (wO cs ad s) r.1 (wO cs ad r.2) := by
  refine Cl_ofG (by decide +kernel) rfl (Nat.le_of_ble_eq_true rfl) (fun E _ _ hty0 hX0 hr => ?_)
  have hty := hty0.trans htyM
  have hr : Rl E kX6_year r.1 (wO cs ad r.2) := hr
  show G E kX6_year 0 0 0 [(0, .ref (ad 0)), (1, .int a1), (2, .int a2), (3, .int a3)] [] (wO cs ad s)
  unfold f_X6_year at hf
  refine g_aload_n 0 dX6_year_0 rfl rfl ?_
  refine g_iconst (v := (0 : Int32)) dX6_year_1 (by decide) ?_
  obtain ⟨s1, e_s1, hf⟩ := olt_some hf
  refine g_put (ci := 6) (T := TX6) (N := 29) (ty := .int) (w2 := (wO cs ad s1)) 0 0 (.int (0 : Int32)) tyX6 dX6_year_2 iX6_year_X6 tyX6_ok nmX6 rfl jX6_year_54 (by decide) rfl rfl rfl rfl wlaO_0 (Nat.le_of_ble_eq_true rfl) (wlpO_0_0.trans (congrArg (wO cs ad) e_s1)) ?_
  refine g_aload_n 0 dX6_year_5 rfl rfl ?_
  refine g_iload_n 1 dX6_year_6 rfl rfl ?_
  obtain ⟨v2, hc3, hf⟩ := obd_some hf
  refine g_callVi (ci := 6) (As := [.int a1]) (rest := []) (w2 := (wO cs ad s1)) 0 dX6_year_7 vX6_year_158 (c_X6_isStall ad hty hc3) rfl (mid0 _) rfl rfl 0 wlaO_0 rfl (Nat.le_of_ble_eq_true rfl) ⟨Nat.zero_le _, Nat.zero_le _⟩ (mid2 _ _) ?_
  refine g_if_eq (tgt := 41) dX6_year_10 (by decide) (fun h4 => ?_) (fun h4 => ?_)
  · have hf := ift h4 hf
    refine g_ldc2 (v := (-1000000000000000000 : Int64)) dX6_year_41 qX6_year_189 ?_
    obtain rfl := Option.some.inj hf
    exact hr _ _ dX6_year_44
  · have hf := iff_ h4 hf
    refine g_iload_n 2 dX6_year_13 rfl rfl ?_
    refine g_iconst (v := (0 : Int32)) dX6_year_14 (by decide) ?_
    refine g_sipush (v := (9999 : Int32)) dX6_year_15 (by decide) ?_
    obtain ⟨v5, hc6, hf⟩ := obd_some hf
    refine g_callSi (As := [.int a2, .int (0 : Int32), .int (9999 : Int32)]) (rest := []) (w2 := (wO cs ad s1)) 0 dX6_year_18 vX6_year_61 (c_X6_in hty hc6) rfl (midm _) rfl (Nat.le_of_ble_eq_true rfl) ⟨Nat.zero_le _, Nat.zero_le _⟩ (midn _) ?_
    refine g_if_eq (tgt := 41) dX6_year_21 (by decide) (fun h7 => ?_) (fun h7 => ?_)
    · have hf := ift h7 hf
      refine g_ldc2 (v := (-1000000000000000000 : Int64)) dX6_year_41 qX6_year_189 ?_
      obtain rfl := Option.some.inj hf
      exact hr _ _ dX6_year_44
    · have hf := iff_ h7 hf
      refine g_iload_n 3 dX6_year_24 rfl rfl ?_
      refine g_iconst (v := (0 : Int32)) dX6_year_25 (by decide) ?_
      refine g_iconst (v := (1 : Int32)) dX6_year_26 (by decide) ?_
      obtain ⟨v8, hc9, hf⟩ := obd_some hf
      refine g_callSi (As := [.int a3, .int (0 : Int32), .int (1 : Int32)]) (rest := []) (w2 := (wO cs ad s1)) 0 dX6_year_27 vX6_year_61 (c_X6_in hty hc9) rfl (midm _) rfl (Nat.le_of_ble_eq_true rfl) ⟨Nat.zero_le _, Nat.zero_le _⟩ (midn _) ?_
      refine g_if_eq (tgt := 41) dX6_year_30 (by decide) (fun h10 => ?_) (fun h10 => ?_)
      · have hf := ift h10 hf
        refine g_ldc2 (v := (-1000000000000000000 : Int64)) dX6_year_41 qX6_year_189 ?_
        obtain rfl := Option.some.inj hf
        exact hr _ _ dX6_year_44
      · have hf := iff_ h10 hf
        refine g_aload_n 0 dX6_year_33 rfl rfl ?_
        refine g_iload_n 1 dX6_year_34 rfl rfl ?_
        obtain ⟨v11, hc12, hf⟩ := obd_some hf
        refine g_callVi (ci := 6) (As := [.int a1]) (rest := []) (w2 := (wO cs ad s1)) 0 dX6_year_35 vX6_year_161 (c_X6_bagsOf ad hty hc12) rfl (mid0 _) rfl rfl 0 wlaO_0 rfl (Nat.le_of_ble_eq_true rfl) ⟨Nat.zero_le _, Nat.zero_le _⟩ (mid2 _ _) ?_
        refine g_if_ne (tgt := 45) dX6_year_38 (by decide) (fun h13 => ?_) (fun h13 => ?_)
        · have hf := iff_ h13 hf
          refine g_lconst (v := (0 : Int64)) dX6_year_45 (by decide) ?_
          refine g_lstore (lv2 := [(4, .long (0 : Int64)), (0, .ref (ad 0)), (1, .int a1), (2, .int a2), (3, .int a3)]) dX6_year_46 (by decide) rfl ?_
          refine g_iconst (v := (0 : Int32)) dX6_year_48 (by decide) ?_
          refine g_istore (lv2 := [(6, .int (0 : Int32)), (4, .long (0 : Int64)), (0, .ref (ad 0)), (1, .int a1), (2, .int a2), (3, .int a3)]) dX6_year_49 (by decide) rfl ?_
          exact g_sub [2, 3, 4, 5, 1, 0] rfl (w_X6_year_L51 hty hr F (0 : Int64) (0 : Int32) hf)
        · have hf := ift h13 hf
          refine g_ldc2 (v := (-1000000000000000000 : Int64)) dX6_year_41 qX6_year_189 ?_
          obtain rfl := Option.some.inj hf
          exact hr _ _ dX6_year_44

-- ThumbScaleModel truly (II)J
def rmX6_truly : Room := { frames := 3, cells := 0, slots := 0, locals := 76 }
def kX6_truly : MK := (cX6_truly, 3, RX6, wsX6_truly, (some .long), rmX6_truly)

set_option maxRecDepth 20000 in
theorem jX6_truly_54 : Cond.fieldLink RX6 54 (TX6 0).1 (TX6 0).2.1 (TX6 0).2.2.1 ∈ wsX6_truly := by decide +kernel
set_option maxRecDepth 20000 in
theorem iX6_truly_X6 : ∀ x ∈ u_ws RX6 TX6 29, x ∈ wsX6_truly := by decide +kernel
set_option maxRecDepth 20000 in
theorem vX6_truly_158 : KV kX6_truly 158 RX6 yX6_isStall wsX6_isStall rmX6_isStall 1 := ⟨_, _, _, _, gX6_truly_X6_isStall, rfl, rfl, rfl, by decide +kernel, ⟨by decide, by decide⟩⟩
set_option maxRecDepth 20000 in
theorem qX6_truly_189 : Cond.constantLong RX6 189 (-1000000000000000000 : Int64) ∈ wsX6_truly := by decide +kernel
set_option maxRecDepth 20000 in
theorem vX6_truly_61 : KS kX6_truly 61 yX6_in wsX6_in rmX6_in 3 := ⟨_, _, _, _, gX6_truly_X6_in, rfl, rfl, rfl, by decide +kernel, ⟨by decide, by decide⟩⟩
set_option maxRecDepth 20000 in
theorem vX6_truly_248 : KV kX6_truly 248 RX6 yX6_isTrue wsX6_isTrue rmX6_isTrue 1 := ⟨_, _, _, _, gX6_truly_X6_isTrue, rfl, rfl, rfl, by decide +kernel, ⟨by decide, by decide⟩⟩
set_option maxRecDepth 20000 in
theorem jX6_truly_241 : Cond.fieldLink RX6 241 (TX6 26).1 (TX6 26).2.1 (TX6 26).2.2.1 ∈ wsX6_truly := by decide +kernel
set_option maxRecDepth 20000 in
theorem jX6_truly_245 : Cond.fieldLink RX6 245 (TX6 27).1 (TX6 27).2.1 (TX6 27).2.2.1 ∈ wsX6_truly := by decide +kernel
set_option maxRecDepth 20000 in
theorem vX6_truly_221 : KS kX6_truly 221 yX6_part wsX6_part rmX6_part 3 := ⟨_, _, _, _, gX6_truly_X6_part, rfl, rfl, rfl, by decide +kernel, ⟨by decide, by decide⟩⟩
def f_X6_truly (F : Nat) (s : SO) (a1 : Int32) (a2 : Int32) : Option (Int64 × SO) :=
    olt (uO_thrown s (0 : Int32)) (fun s1 =>
    obd (f_X6_isStall F s1 a1) (fun v2 =>
    (if v2 = 0 then
    some ((-1000000000000000000 : Int64), s1)
    else
    obd (f_X6_in F a2 (0 : Int32) (1 : Int32)) (fun v5 =>
    (if v5 = 0 then
    some ((-1000000000000000000 : Int64), s1)
    else
    obd (f_X6_isTrue F s1 a1) (fun v8 =>
    (if v8.1 = 0 then
    some ((-1000000000000000000 : Int64), v8.2)
    else
    obd (f_X6_part F (O_up v8.2) (O_down v8.2) a2) (fun v11 =>
    some (v11, v8.2)))))))))

set_option maxHeartbeats 4000000 in
set_option maxRecDepth 100000 in
theorem c_X6_truly {l : Launch} {D : va_G} {tys : List (ClassId × FieldType)} {X : XT} {cs : CS} (ad : Nat → Nat) {F : Nat} {s : SO} {a1 : Int32} {a2 : Int32} {r : (Int64 × SO)} (htyM : tys = tyA cs) (hf : f_X6_truly F s a1 a2 = some r) : Cl l D tys X yX6_truly wsX6_truly rmX6_truly [.ref (ad 0), .int a1, .int a2] (wO cs ad s) r.1 (wO cs ad r.2) := by
  refine Cl_ofG (by decide +kernel) rfl (Nat.le_of_ble_eq_true rfl) (fun E _ _ hty0 hX0 hr => ?_)
  have hty := hty0.trans htyM
  have hr : Rl E kX6_truly r.1 (wO cs ad r.2) := hr
  show G E kX6_truly 0 0 0 [(0, .ref (ad 0)), (1, .int a1), (2, .int a2)] [] (wO cs ad s)
  unfold f_X6_truly at hf
  refine g_aload_n 0 dX6_truly_0 rfl rfl ?_
  refine g_iconst (v := (0 : Int32)) dX6_truly_1 (by decide) ?_
  obtain ⟨s1, e_s1, hf⟩ := olt_some hf
  refine g_put (ci := 6) (T := TX6) (N := 29) (ty := .int) (w2 := (wO cs ad s1)) 0 0 (.int (0 : Int32)) tyX6 dX6_truly_2 iX6_truly_X6 tyX6_ok nmX6 rfl jX6_truly_54 (by decide) rfl rfl rfl rfl wlaO_0 (Nat.le_of_ble_eq_true rfl) (wlpO_0_0.trans (congrArg (wO cs ad) e_s1)) ?_
  refine g_aload_n 0 dX6_truly_5 rfl rfl ?_
  refine g_iload_n 1 dX6_truly_6 rfl rfl ?_
  obtain ⟨v2, hc3, hf⟩ := obd_some hf
  refine g_callVi (ci := 6) (As := [.int a1]) (rest := []) (w2 := (wO cs ad s1)) 0 dX6_truly_7 vX6_truly_158 (c_X6_isStall ad hty hc3) rfl (mid0 _) rfl rfl 0 wlaO_0 rfl (Nat.le_of_ble_eq_true rfl) ⟨Nat.zero_le _, Nat.zero_le _⟩ (mid2 _ _) ?_
  refine g_if_eq (tgt := 45) dX6_truly_10 (by decide) (fun h4 => ?_) (fun h4 => ?_)
  · have hf := ift h4 hf
    refine g_ldc2 (v := (-1000000000000000000 : Int64)) dX6_truly_45 qX6_truly_189 ?_
    obtain rfl := Option.some.inj hf
    exact hr _ _ dX6_truly_48
  · have hf := iff_ h4 hf
    refine g_iload_n 2 dX6_truly_13 rfl rfl ?_
    refine g_iconst (v := (0 : Int32)) dX6_truly_14 (by decide) ?_
    refine g_iconst (v := (1 : Int32)) dX6_truly_15 (by decide) ?_
    obtain ⟨v5, hc6, hf⟩ := obd_some hf
    refine g_callSi (As := [.int a2, .int (0 : Int32), .int (1 : Int32)]) (rest := []) (w2 := (wO cs ad s1)) 0 dX6_truly_16 vX6_truly_61 (c_X6_in hty hc6) rfl (midm _) rfl (Nat.le_of_ble_eq_true rfl) ⟨Nat.zero_le _, Nat.zero_le _⟩ (midn _) ?_
    refine g_if_eq (tgt := 45) dX6_truly_19 (by decide) (fun h7 => ?_) (fun h7 => ?_)
    · have hf := ift h7 hf
      refine g_ldc2 (v := (-1000000000000000000 : Int64)) dX6_truly_45 qX6_truly_189 ?_
      obtain rfl := Option.some.inj hf
      exact hr _ _ dX6_truly_48
    · have hf := iff_ h7 hf
      refine g_aload_n 0 dX6_truly_22 rfl rfl ?_
      refine g_iload_n 1 dX6_truly_23 rfl rfl ?_
      obtain ⟨v8, hc9, hf⟩ := obd_some hf
      refine g_callVi (ci := 6) (As := [.int a1]) (rest := []) (w2 := (wO cs ad v8.2)) 0 dX6_truly_24 vX6_truly_248 (c_X6_isTrue ad hty hc9) rfl (mid0 _) rfl rfl 0 wlaO_0 rfl (Nat.le_of_ble_eq_true rfl) ⟨Nat.zero_le _, Nat.zero_le _⟩ (mid2 _ _) ?_
      refine g_if_eq (tgt := 45) dX6_truly_27 (by decide) (fun h10 => ?_) (fun h10 => ?_)
      · have hf := ift h10 hf
        refine g_ldc2 (v := (-1000000000000000000 : Int64)) dX6_truly_45 qX6_truly_189 ?_
        obtain rfl := Option.some.inj hf
        exact hr _ _ dX6_truly_48
      · have hf := iff_ h10 hf
        refine g_aload_n 0 dX6_truly_30 rfl rfl ?_
        refine g_get (ci := 6) (T := TX6) (N := 29) 0 26 (.long (O_up v8.2)) dX6_truly_31 iX6_truly_X6 rfl jX6_truly_241 (by decide) wlaO_0 rfl ?_
        refine g_aload_n 0 dX6_truly_34 rfl rfl ?_
        refine g_get (ci := 6) (T := TX6) (N := 29) 0 27 (.long (O_down v8.2)) dX6_truly_35 iX6_truly_X6 rfl jX6_truly_245 (by decide) wlaO_0 rfl ?_
        refine g_iload_n 2 dX6_truly_38 rfl rfl ?_
        obtain ⟨v11, hc12, hf⟩ := obd_some hf
        refine g_callSl (As := [.long (O_up v8.2), .long (O_down v8.2), .int a2]) (rest := []) (w2 := (wO cs ad v8.2)) 0 dX6_truly_39 vX6_truly_221 (c_X6_part hty hc12) rfl (midm _) rfl (Nat.le_of_ble_eq_true rfl) ⟨Nat.zero_le _, Nat.zero_le _⟩ (midn _) ?_
        refine g_goto (tgt := 48) dX6_truly_42 (by decide) ?_
        obtain rfl := Option.some.inj hf
        exact hr _ _ dX6_truly_48

-- ThumbScaleModel cheap ()I
def rmX6_cheap : Room := { frames := 3, cells := 0, slots := 0, locals := 67 }
def kX6_cheap : MK := (cX6_cheap, 7, RX6, wsX6_cheap, (some .int), rmX6_cheap)

set_option maxRecDepth 20000 in
theorem jX6_cheap_54 : Cond.fieldLink RX6 54 (TX6 0).1 (TX6 0).2.1 (TX6 0).2.2.1 ∈ wsX6_cheap := by decide +kernel
set_option maxRecDepth 20000 in
theorem iX6_cheap_X6 : ∀ x ∈ u_ws RX6 TX6 29, x ∈ wsX6_cheap := by decide +kernel
set_option maxRecDepth 20000 in
theorem jX6_cheap_58 : Cond.fieldLink RX6 58 (TX6 16).1 (TX6 16).2.1 (TX6 16).2.2.1 ∈ wsX6_cheap := by decide +kernel
set_option maxRecDepth 20000 in
theorem vX6_cheap_248 : KV kX6_cheap 248 RX6 yX6_isTrue wsX6_isTrue rmX6_isTrue 1 := ⟨_, _, _, _, gX6_cheap_X6_isTrue, rfl, rfl, rfl, by decide +kernel, ⟨by decide, by decide⟩⟩
set_option maxRecDepth 20000 in
theorem jX6_cheap_241 : Cond.fieldLink RX6 241 (TX6 26).1 (TX6 26).2.1 (TX6 26).2.2.1 ∈ wsX6_cheap := by decide +kernel
set_option maxRecDepth 20000 in
theorem jX6_cheap_245 : Cond.fieldLink RX6 245 (TX6 27).1 (TX6 27).2.1 (TX6 27).2.2.1 ∈ wsX6_cheap := by decide +kernel
def f_X6_cheap_L16 (F : Nat) : Nat → Int32 → Int64 → Int64 → Int32 → SO → Option (Int32 × SO)
  | 0, _, _, _, _, _ => none
  | n + 1, x2, x3, x4, x5, s6 =>
    (if (O_stalls s6) ≤ x5 then
    some (x2, s6)
    else
    obd (f_X6_isTrue F s6 x5) (fun v8 =>
    (if v8.1 = 0 then
    f_X6_cheap_L16 F n x2 x3 x4 (x5 + 1) v8.2
    else
    olt (fun (x11 : Int32) =>
    f_X6_cheap_L16 F n x11 (O_up v8.2) (O_down v8.2) (x11 + 1) v8.2) (fun k12 =>
    (if x2 = (-9 : Int32) then
    k12 x5
    else
    (if 0 ≤ (lg_cmp ((O_up v8.2) * x4) (x3 * (O_down v8.2))) then
    f_X6_cheap_L16 F n x2 x3 x4 (x5 + 1) v8.2
    else
    k12 x5))))))

def f_X6_cheap (F : Nat) (s : SO) : Option (Int32 × SO) :=
    olt (uO_thrown s (0 : Int32)) (fun s1 =>
    f_X6_cheap_L16 F F (-9 : Int32) (0 : Int64) (1 : Int64) (0 : Int32) s1)

set_option maxHeartbeats 4000000 in
set_option maxRecDepth 100000 in
theorem w_X6_cheap_L16 {E : GE} {cs : CS} {ad : Nat → Nat} {F : Nat} {r : (Int32 × SO)} (hty : eT E = tyA cs) (hr : Ri E kX6_cheap r.1 (wO cs ad r.2)) : ∀ (n : Nat) (x2 : Int32) (x3 : Int64) (x4 : Int64) (x5 : Int32) (s6 : SO), f_X6_cheap_L16 F n x2 x3 x4 x5 s6 = some r → G E kX6_cheap 0 0 16 [(0, .ref (ad 0)), (1, .int x2), (2, .long x3), (4, .long x4), (6, .int x5)] [] (wO cs ad s6) := by
  intro n
  induction n with
  | zero =>
    intro x2 x3 x4 x5 s6 hf
    cases (show (none : Option (Int32 × SO)) = some r from hf)
  | succ n ih =>
    intro x2 x3 x4 x5 s6 hf
    rw [f_X6_cheap_L16] at hf
    refine g_iload 4 dX6_cheap_16 rfl ?_
    refine g_aload_n 0 dX6_cheap_18 rfl rfl ?_
    refine g_get (ci := 6) (T := TX6) (N := 29) 0 16 (.int (O_stalls s6)) dX6_cheap_19 iX6_cheap_X6 rfl jX6_cheap_58 (by decide) wlaO_0 rfl ?_
    refine g_icmp_ge (tgt := 77) dX6_cheap_22 (by decide) (fun h7 => ?_) (fun h7 => ?_)
    · have hf := ift h7 hf
      refine g_iload_n 1 dX6_cheap_77 rfl rfl ?_
      obtain rfl := Option.some.inj hf
      exact hr _ _ dX6_cheap_78
    · have hf := iff_ h7 hf
      refine g_aload_n 0 dX6_cheap_25 rfl rfl ?_
      refine g_iload 4 dX6_cheap_26 rfl ?_
      obtain ⟨v8, hc9, hf⟩ := obd_some hf
      refine g_callVi (ci := 6) (As := [.int x5]) (rest := []) (w2 := (wO cs ad v8.2)) 0 dX6_cheap_28 vX6_cheap_248 (c_X6_isTrue ad hty hc9) rfl (mid0 _) rfl rfl 0 wlaO_0 rfl (Nat.le_of_ble_eq_true rfl) ⟨Nat.zero_le _, Nat.zero_le _⟩ (mid2 _ _) ?_
      refine g_if_eq (tgt := 71) dX6_cheap_31 (by decide) (fun h10 => ?_) (fun h10 => ?_)
      · have hf := ift h10 hf
        refine g_iinc (lv2 := [(6, .int (x5 + 1)), (0, .ref (ad 0)), (1, .int x2), (2, .long x3), (4, .long x4)]) 4 dX6_cheap_71 rfl (ii1 _) (by decide) rfl ?_
        refine g_goto (tgt := 16) dX6_cheap_74 (by decide) ?_
        exact g_sub [1, 2, 3, 4, 0] rfl (ih x2 x3 x4 (x5 + 1) v8.2 hf)
      · have hf := iff_ h10 hf
        refine g_iload_n 1 dX6_cheap_34 rfl rfl ?_
        refine g_bipush (v := (-9 : Int32)) dX6_cheap_35 (by decide) ?_
        obtain ⟨k12, e_k12, hf⟩ := olt_some hf
        have K_k12 : ∀ (x11 : Int32), k12 x11 = some r → G E kX6_cheap 0 0 57 [(0, .ref (ad 0)), (6, .int x11)] [] (wO cs ad v8.2) := by
          intro x11 hf
          rw [← e_k12] at hf
          refine g_iload 1 dX6_cheap_57 rfl ?_
          refine g_istore_n (lv2 := [(1, .int x11), (0, .ref (ad 0)), (6, .int x11)]) dX6_cheap_59 rfl (by decide) rfl ?_
          refine g_aload_n 1 dX6_cheap_60 rfl rfl ?_
          refine g_get (ci := 6) (T := TX6) (N := 29) 0 26 (.long (O_up v8.2)) dX6_cheap_61 iX6_cheap_X6 rfl jX6_cheap_241 (by decide) wlaO_0 rfl ?_
          refine g_lstore_n (lv2 := [(2, .long (O_up v8.2)), (1, .int x11), (0, .ref (ad 0)), (6, .int x11)]) dX6_cheap_64 rfl (by decide) rfl ?_
          refine g_aload_n 2 dX6_cheap_65 rfl rfl ?_
          refine g_get (ci := 6) (T := TX6) (N := 29) 0 27 (.long (O_down v8.2)) dX6_cheap_66 iX6_cheap_X6 rfl jX6_cheap_245 (by decide) wlaO_0 rfl ?_
          refine g_lstore (lv2 := [(4, .long (O_down v8.2)), (2, .long (O_up v8.2)), (1, .int x11), (0, .ref (ad 0)), (6, .int x11)]) dX6_cheap_69 (by decide) rfl ?_
          refine g_iinc (lv2 := [(6, .int (x11 + 1)), (4, .long (O_down v8.2)), (2, .long (O_up v8.2)), (1, .int x11), (0, .ref (ad 0))]) 4 dX6_cheap_71 rfl (ii1 _) (by decide) rfl ?_
          refine g_goto (tgt := 16) dX6_cheap_74 (by decide) ?_
          exact g_sub [4, 3, 2, 1, 0] rfl (ih x11 (O_up v8.2) (O_down v8.2) (x11 + 1) v8.2 hf)
        refine g_icmp_eq (tgt := 57) dX6_cheap_37 (by decide) (fun h13 => ?_) (fun h13 => ?_)
        · have hf := ift h13 hf
          exact g_sub [0, 4] rfl (K_k12 x5 hf)
        · have hf := iff_ h13 hf
          refine g_aload_n 0 dX6_cheap_40 rfl rfl ?_
          refine g_get (ci := 6) (T := TX6) (N := 29) 0 26 (.long (O_up v8.2)) dX6_cheap_41 iX6_cheap_X6 rfl jX6_cheap_241 (by decide) wlaO_0 rfl ?_
          refine g_lload 3 dX6_cheap_44 rfl ?_
          refine g_lmul dX6_cheap_46 ?_
          refine g_lload_n 2 dX6_cheap_47 rfl rfl ?_
          refine g_aload_n 0 dX6_cheap_48 rfl rfl ?_
          refine g_get (ci := 6) (T := TX6) (N := 29) 0 27 (.long (O_down v8.2)) dX6_cheap_49 iX6_cheap_X6 rfl jX6_cheap_245 (by decide) wlaO_0 rfl ?_
          refine g_lmul dX6_cheap_52 ?_
          refine g_lcmp dX6_cheap_53 ?_
          refine g_if_ge (tgt := 71) dX6_cheap_54 (by decide) (fun h14 => ?_) (fun h14 => ?_)
          · have hf := ift h14 hf
            refine g_iinc (lv2 := [(6, .int (x5 + 1)), (0, .ref (ad 0)), (1, .int x2), (2, .long x3), (4, .long x4)]) 4 dX6_cheap_71 rfl (ii1 _) (by decide) rfl ?_
            refine g_goto (tgt := 16) dX6_cheap_74 (by decide) ?_
            exact g_sub [1, 2, 3, 4, 0] rfl (ih x2 x3 x4 (x5 + 1) v8.2 hf)
          · have hf := iff_ h14 hf
            exact g_sub [0, 4] rfl (K_k12 x5 hf)

set_option maxHeartbeats 4000000 in
set_option maxRecDepth 100000 in
theorem c_X6_cheap {l : Launch} {D : va_G} {tys : List (ClassId × FieldType)} {X : XT} {cs : CS} (ad : Nat → Nat) {F : Nat} {s : SO} {r : (Int32 × SO)} (htyM : tys = tyA cs) (hf : f_X6_cheap F s = some r) : Ci l D tys X yX6_cheap wsX6_cheap rmX6_cheap [.ref (ad 0)] (wO cs ad s) r.1 (wO cs ad r.2) := by
  refine Ci_ofG (by decide +kernel) rfl (Nat.le_of_ble_eq_true rfl) .int rfl (vp_nar_int _) (fun E _ _ hty0 hX0 hr => ?_)
  have hty := hty0.trans htyM
  have hr : Ri E kX6_cheap r.1 (wO cs ad r.2) := hr
  show G E kX6_cheap 0 0 0 [(0, .ref (ad 0))] [] (wO cs ad s)
  unfold f_X6_cheap at hf
  refine g_aload_n 0 dX6_cheap_0 rfl rfl ?_
  refine g_iconst (v := (0 : Int32)) dX6_cheap_1 (by decide) ?_
  obtain ⟨s1, e_s1, hf⟩ := olt_some hf
  refine g_put (ci := 6) (T := TX6) (N := 29) (ty := .int) (w2 := (wO cs ad s1)) 0 0 (.int (0 : Int32)) tyX6 dX6_cheap_2 iX6_cheap_X6 tyX6_ok nmX6 rfl jX6_cheap_54 (by decide) rfl rfl rfl rfl wlaO_0 (Nat.le_of_ble_eq_true rfl) (wlpO_0_0.trans (congrArg (wO cs ad) e_s1)) ?_
  refine g_bipush (v := (-9 : Int32)) dX6_cheap_5 (by decide) ?_
  refine g_istore_n (lv2 := [(1, .int (-9 : Int32)), (0, .ref (ad 0))]) dX6_cheap_7 rfl (by decide) rfl ?_
  refine g_lconst (v := (0 : Int64)) dX6_cheap_8 (by decide) ?_
  refine g_lstore_n (lv2 := [(2, .long (0 : Int64)), (1, .int (-9 : Int32)), (0, .ref (ad 0))]) dX6_cheap_9 rfl (by decide) rfl ?_
  refine g_lconst (v := (1 : Int64)) dX6_cheap_10 (by decide) ?_
  refine g_lstore (lv2 := [(4, .long (1 : Int64)), (2, .long (0 : Int64)), (1, .int (-9 : Int32)), (0, .ref (ad 0))]) dX6_cheap_11 (by decide) rfl ?_
  refine g_iconst (v := (0 : Int32)) dX6_cheap_13 (by decide) ?_
  refine g_istore (lv2 := [(6, .int (0 : Int32)), (4, .long (1 : Int64)), (2, .long (0 : Int64)), (1, .int (-9 : Int32)), (0, .ref (ad 0))]) dX6_cheap_14 (by decide) rfl ?_
  exact g_sub [4, 3, 2, 1, 0] rfl (w_X6_cheap_L16 hty hr F (-9 : Int32) (0 : Int64) (1 : Int64) (0 : Int32) s1 hf)

-- ThumbScaleModel favoured (I)I
def rmX6_favoured : Room := { frames := 2, cells := 0, slots := 0, locals := 43 }
def kX6_favoured : MK := (cX6_favoured, 14, RX6, wsX6_favoured, (some .int), rmX6_favoured)

set_option maxRecDepth 20000 in
theorem jX6_favoured_54 : Cond.fieldLink RX6 54 (TX6 0).1 (TX6 0).2.1 (TX6 0).2.2.1 ∈ wsX6_favoured := by decide +kernel
set_option maxRecDepth 20000 in
theorem iX6_favoured_X6 : ∀ x ∈ u_ws RX6 TX6 29, x ∈ wsX6_favoured := by decide +kernel
set_option maxRecDepth 20000 in
theorem vX6_favoured_158 : KV kX6_favoured 158 RX6 yX6_isStall wsX6_isStall rmX6_isStall 1 := ⟨_, _, _, _, gX6_favoured_X6_isStall, rfl, rfl, rfl, by decide +kernel, ⟨by decide, by decide⟩⟩
set_option maxRecDepth 20000 in
theorem jX6_favoured_7 : Cond.fieldLink RX6 7 (TX6 2).1 (TX6 2).2.1 (TX6 2).2.2.1 ∈ wsX6_favoured := by decide +kernel
set_option maxRecDepth 20000 in
theorem vX6_favoured_155 : KV kX6_favoured 155 RX6 yX6_bag wsX6_bag rmX6_bag 2 := ⟨_, _, _, _, gX6_favoured_X6_bag, rfl, rfl, rfl, by decide +kernel, ⟨by decide, by decide⟩⟩
set_option maxRecDepth 20000 in
theorem vX6_favoured_180 : KV kX6_favoured 180 RX6 yX6_shortOf wsX6_shortOf rmX6_shortOf 1 := ⟨_, _, _, _, gX6_favoured_X6_shortOf, rfl, rfl, rfl, by decide +kernel, ⟨by decide, by decide⟩⟩
def f_X6_favoured_L41 (F : Nat) (a1 : Int32) (s18 : SO) (k26_ : Int32 → Int64 → Int64 → Int32 → Option (Int32 × SO)) : Nat → Int32 → Int64 → Int64 → Int32 → Int64 → Int64 → Int32 → Option (Int32 × SO)
  | 0, _, _, _, _, _, _, _ => none
  | n + 1, x11, x12, x13, x14, x15, x16, x17 =>
    ochi (0 : Int32) 264 (
    (if ((O_s s18) (Int32.toNatClampNeg (0 : Int32))) ≤ x17 then
    (if (lg_cmp x16 (0 : Int64)) ≤ 0 then
    k26_ x11 x12 x13 (x14 + 1)
    else
    olt (fun (x22 : Int32) =>
    k26_ x22 x15 x16 (x22 + 1)) (fun k23 =>
    (if x11 = (-9 : Int32) then
    k23 x14
    else
    (if 0 ≤ (lg_cmp (x15 * x13) (x12 * x16)) then
    k26_ x11 x12 x13 (x14 + 1)
    else
    k23 x14))))
    else
    obd (f_X6_bag F s18 x17 (0 : Int32)) (fun v26 =>
    obd ((if v26 = a1 then
    obd (f_X6_bag F s18 x17 (2 : Int32)) (fun v34 =>
    (if v34 = x14 then
    some (1 : Int32)
    else
    some (0 : Int32)))
    else
    some (0 : Int32))) (fun v32 =>
    obd ((if v32 = 0 then
    some (0 : Int64)
    else
    obd (f_X6_shortOf F s18 x17) (fun v42 =>
    some (Int32.toInt64 v42)))) (fun v40 =>
    (if v32 = 0 then
    f_X6_favoured_L41 F a1 s18 k26_ n x11 x12 x13 x14 (x15 + v40) (x16 + (0 : Int64)) (x17 + 1)
    else
    f_X6_favoured_L41 F a1 s18 k26_ n x11 x12 x13 x14 (x15 + v40) (x16 + (1 : Int64)) (x17 + 1)))))))

def f_X6_favoured_L26 (F : Nat) (a1 : Int32) (s9 : SO) : Nat → Int32 → Int64 → Int64 → Int32 → Option (Int32 × SO)
  | 0, _, _, _, _ => none
  | n + 1, x5, x6, x7, x8 =>
    (if (4 : Int32) ≤ x8 then
    some (x5, s9)
    else
    f_X6_favoured_L41 F a1 s9 (f_X6_favoured_L26 F a1 s9 n) F x5 x6 x7 x8 (0 : Int64) (0 : Int64) (0 : Int32))

def f_X6_favoured (F : Nat) (s : SO) (a1 : Int32) : Option (Int32 × SO) :=
    olt (uO_thrown s (0 : Int32)) (fun s1 =>
    obd (f_X6_isStall F s1 a1) (fun v2 =>
    (if v2 = 0 then
    some ((-1 : Int32), s1)
    else
    f_X6_favoured_L26 F a1 s1 F (-9 : Int32) (0 : Int64) (1 : Int64) (0 : Int32))))

set_option maxHeartbeats 4000000 in
set_option maxRecDepth 100000 in
theorem w_X6_favoured_L41 {E : GE} {cs : CS} {ad : Nat → Nat} {F : Nat} {a1 : Int32} {s18 : SO} {k26_ : Int32 → Int64 → Int64 → Int32 → Option (Int32 × SO)} {r : (Int32 × SO)} (hty : eT E = tyA cs) (hr : Ri E kX6_favoured r.1 (wO cs ad r.2)) (K26_ : ∀ (x5 : Int32) (x6 : Int64) (x7 : Int64) (x8 : Int32), k26_ x5 x6 x7 x8 = some r → G E kX6_favoured 0 0 26 [(0, .ref (ad 0)), (1, .int a1), (2, .int x5), (3, .long x6), (5, .long x7), (7, .int x8)] [] (wO cs ad s18)) : ∀ (n : Nat) (x11 : Int32) (x12 : Int64) (x13 : Int64) (x14 : Int32) (x15 : Int64) (x16 : Int64) (x17 : Int32), f_X6_favoured_L41 F a1 s18 k26_ n x11 x12 x13 x14 x15 x16 x17 = some r → G E kX6_favoured 0 0 41 [(0, .ref (ad 0)), (1, .int a1), (2, .int x11), (3, .long x12), (5, .long x13), (7, .int x14), (8, .long x15), (10, .long x16), (12, .int x17)] [] (wO cs ad s18) := by
  intro n
  induction n with
  | zero =>
    intro x11 x12 x13 x14 x15 x16 x17 hf
    cases (show (none : Option (Int32 × SO)) = some r from hf)
  | succ n ih =>
    intro x11 x12 x13 x14 x15 x16 x17 hf
    rw [f_X6_favoured_L41] at hf
    refine g_iload 8 dX6_favoured_41 rfl ?_
    refine g_aload_n 0 dX6_favoured_43 rfl rfl ?_
    refine g_get (ci := 6) (T := TX6) (N := 29) 0 2 (.ref (ad 1)) dX6_favoured_44 iX6_favoured_X6 rfl jX6_favoured_7 (by decide) wlaO_0 rfl ?_
    refine g_iconst (v := (0 : Int32)) dX6_favoured_47 (by decide) ?_
    obtain ⟨h19, hf⟩ := ochi_some hf
    refine g_iald 1 0 dX6_favoured_48 wlaO_1 (tI hty) h19 ?_
    refine g_icmp_ge (tgt := 124) dX6_favoured_49 (by decide) (fun h20 => ?_) (fun h20 => ?_)
    · have hf := ift h20 hf
      refine g_lload 7 dX6_favoured_124 rfl ?_
      refine g_lconst (v := (0 : Int64)) dX6_favoured_126 (by decide) ?_
      refine g_lcmp dX6_favoured_127 ?_
      refine g_if_le (tgt := 160) dX6_favoured_128 (by decide) (fun h21 => ?_) (fun h21 => ?_)
      · have hf := ift h21 hf
        refine g_iinc (lv2 := [(7, .int (x14 + 1)), (0, .ref (ad 0)), (1, .int a1), (2, .int x11), (3, .long x12), (5, .long x13), (8, .long x15), (10, .long x16), (12, .int x17)]) 5 dX6_favoured_160 rfl (ii1 _) (by decide) rfl ?_
        refine g_goto (tgt := 26) dX6_favoured_163 (by decide) ?_
        exact g_sub [1, 2, 3, 4, 5, 0] rfl (K26_ x11 x12 x13 (x14 + 1) hf)
      · have hf := iff_ h21 hf
        refine g_iload_n 2 dX6_favoured_131 rfl rfl ?_
        refine g_bipush (v := (-9 : Int32)) dX6_favoured_132 (by decide) ?_
        obtain ⟨k23, e_k23, hf⟩ := olt_some hf
        have K_k23 : ∀ (x22 : Int32), k23 x22 = some r → G E kX6_favoured 0 0 150 [(0, .ref (ad 0)), (1, .int a1), (7, .int x22), (8, .long x15), (10, .long x16)] [] (wO cs ad s18) := by
          intro x22 hf
          rw [← e_k23] at hf
          refine g_iload 2 dX6_favoured_150 rfl ?_
          refine g_istore_n (lv2 := [(2, .int x22), (0, .ref (ad 0)), (1, .int a1), (7, .int x22), (8, .long x15), (10, .long x16)]) dX6_favoured_152 rfl (by decide) rfl ?_
          refine g_lload 4 dX6_favoured_153 rfl ?_
          refine g_lstore_n (lv2 := [(3, .long x15), (2, .int x22), (0, .ref (ad 0)), (1, .int a1), (7, .int x22), (8, .long x15), (10, .long x16)]) dX6_favoured_155 rfl (by decide) rfl ?_
          refine g_lload 6 dX6_favoured_156 rfl ?_
          refine g_lstore (lv2 := [(5, .long x16), (3, .long x15), (2, .int x22), (0, .ref (ad 0)), (1, .int a1), (7, .int x22), (8, .long x15), (10, .long x16)]) dX6_favoured_158 (by decide) rfl ?_
          refine g_iinc (lv2 := [(7, .int (x22 + 1)), (5, .long x16), (3, .long x15), (2, .int x22), (0, .ref (ad 0)), (1, .int a1), (8, .long x15), (10, .long x16)]) 5 dX6_favoured_160 rfl (ii1 _) (by decide) rfl ?_
          refine g_goto (tgt := 26) dX6_favoured_163 (by decide) ?_
          exact g_sub [4, 5, 3, 2, 1, 0] rfl (K26_ x22 x15 x16 (x22 + 1) hf)
        refine g_icmp_eq (tgt := 150) dX6_favoured_134 (by decide) (fun h24 => ?_) (fun h24 => ?_)
        · have hf := ift h24 hf
          exact g_sub [0, 1, 5, 6, 7] rfl (K_k23 x14 hf)
        · have hf := iff_ h24 hf
          refine g_lload 6 dX6_favoured_137 rfl ?_
          refine g_lload 4 dX6_favoured_139 rfl ?_
          refine g_lmul dX6_favoured_141 ?_
          refine g_lload_n 3 dX6_favoured_142 rfl rfl ?_
          refine g_lload 7 dX6_favoured_143 rfl ?_
          refine g_lmul dX6_favoured_145 ?_
          refine g_lcmp dX6_favoured_146 ?_
          refine g_if_ge (tgt := 160) dX6_favoured_147 (by decide) (fun h25 => ?_) (fun h25 => ?_)
          · have hf := ift h25 hf
            refine g_iinc (lv2 := [(7, .int (x14 + 1)), (0, .ref (ad 0)), (1, .int a1), (2, .int x11), (3, .long x12), (5, .long x13), (8, .long x15), (10, .long x16), (12, .int x17)]) 5 dX6_favoured_160 rfl (ii1 _) (by decide) rfl ?_
            refine g_goto (tgt := 26) dX6_favoured_163 (by decide) ?_
            exact g_sub [1, 2, 3, 4, 5, 0] rfl (K26_ x11 x12 x13 (x14 + 1) hf)
          · have hf := iff_ h25 hf
            exact g_sub [0, 1, 5, 6, 7] rfl (K_k23 x14 hf)
    · have hf := iff_ h20 hf
      refine g_aload_n 0 dX6_favoured_52 rfl rfl ?_
      refine g_iload 8 dX6_favoured_53 rfl ?_
      refine g_iconst (v := (0 : Int32)) dX6_favoured_55 (by decide) ?_
      obtain ⟨v26, hc27, hf⟩ := obd_some hf
      refine g_callVi (ci := 6) (As := [.int x17, .int (0 : Int32)]) (rest := []) (w2 := (wO cs ad s18)) 0 dX6_favoured_56 vX6_favoured_155 (c_X6_bag ad hty hc27) rfl (mid0 _) rfl rfl 0 wlaO_0 rfl (Nat.le_of_ble_eq_true rfl) ⟨Nat.zero_le _, Nat.zero_le _⟩ (mid2 _ _) ?_
      refine g_iload_n 1 dX6_favoured_59 rfl rfl ?_
      obtain ⟨v32, hE_v32, hf⟩ := obd_some hf
      have J_v32 : G E kX6_favoured 0 0 80 [(0, .ref (ad 0)), (1, .int a1), (2, .int x11), (3, .long x12), (5, .long x13), (7, .int x14), (8, .long x15), (10, .long x16), (12, .int x17)] [.int v32] (wO cs ad s18) := by
        refine g_istore (lv2 := [(13, .int v32), (0, .ref (ad 0)), (1, .int a1), (2, .int x11), (3, .long x12), (5, .long x13), (7, .int x14), (8, .long x15), (10, .long x16), (12, .int x17)]) dX6_favoured_80 (by decide) rfl ?_
        refine g_lload 7 dX6_favoured_82 rfl ?_
        refine g_iload 0 dX6_favoured_84 rfl ?_
        obtain ⟨v40, hE_v40, hf⟩ := obd_some hf
        have J_v40 : G E kX6_favoured 0 0 100 [(0, .ref (ad 0)), (1, .int a1), (2, .int x11), (3, .long x12), (5, .long x13), (7, .int x14), (10, .long x16), (12, .int x17), (13, .int v32)] [.long v40, .long x15] (wO cs ad s18) := by
          refine g_ladd dX6_favoured_100 ?_
          refine g_lstore (lv2 := [(8, .long (x15 + v40)), (0, .ref (ad 0)), (1, .int a1), (2, .int x11), (3, .long x12), (5, .long x13), (7, .int x14), (10, .long x16), (12, .int x17), (13, .int v32)]) dX6_favoured_101 (by decide) rfl ?_
          refine g_lload 7 dX6_favoured_103 rfl ?_
          refine g_iload 9 dX6_favoured_105 rfl ?_
          refine g_if_eq (tgt := 114) dX6_favoured_107 (by decide) (fun h44 => ?_) (fun h44 => ?_)
          · have hf := ift h44 hf
            refine g_lconst (v := (0 : Int64)) dX6_favoured_114 (by decide) ?_
            refine g_ladd dX6_favoured_115 ?_
            refine g_lstore (lv2 := [(10, .long (x16 + (0 : Int64))), (8, .long (x15 + v40)), (0, .ref (ad 0)), (1, .int a1), (2, .int x11), (3, .long x12), (5, .long x13), (7, .int x14), (12, .int x17), (13, .int v32)]) dX6_favoured_116 (by decide) rfl ?_
            refine g_iinc (lv2 := [(12, .int (x17 + 1)), (10, .long (x16 + (0 : Int64))), (8, .long (x15 + v40)), (0, .ref (ad 0)), (1, .int a1), (2, .int x11), (3, .long x12), (5, .long x13), (7, .int x14), (13, .int v32)]) 8 dX6_favoured_118 rfl (ii1 _) (by decide) rfl ?_
            refine g_goto (tgt := 41) dX6_favoured_121 (by decide) ?_
            exact g_sub [3, 4, 5, 6, 7, 8, 2, 1, 0] rfl (ih x11 x12 x13 x14 (x15 + v40) (x16 + (0 : Int64)) (x17 + 1) hf)
          · have hf := iff_ h44 hf
            refine g_lconst (v := (1 : Int64)) dX6_favoured_110 (by decide) ?_
            refine g_goto (tgt := 115) dX6_favoured_111 (by decide) ?_
            refine g_ladd dX6_favoured_115 ?_
            refine g_lstore (lv2 := [(10, .long (x16 + (1 : Int64))), (8, .long (x15 + v40)), (0, .ref (ad 0)), (1, .int a1), (2, .int x11), (3, .long x12), (5, .long x13), (7, .int x14), (12, .int x17), (13, .int v32)]) dX6_favoured_116 (by decide) rfl ?_
            refine g_iinc (lv2 := [(12, .int (x17 + 1)), (10, .long (x16 + (1 : Int64))), (8, .long (x15 + v40)), (0, .ref (ad 0)), (1, .int a1), (2, .int x11), (3, .long x12), (5, .long x13), (7, .int x14), (13, .int v32)]) 8 dX6_favoured_118 rfl (ii1 _) (by decide) rfl ?_
            refine g_goto (tgt := 41) dX6_favoured_121 (by decide) ?_
            exact g_sub [3, 4, 5, 6, 7, 8, 2, 1, 0] rfl (ih x11 x12 x13 x14 (x15 + v40) (x16 + (1 : Int64)) (x17 + 1) hf)
        have hf := hE_v40
        refine g_if_eq (tgt := 99) dX6_favoured_86 (by decide) (fun h41 => ?_) (fun h41 => ?_)
        · have hf := ift h41 hf
          refine g_lconst (v := (0 : Int64)) dX6_favoured_99 (by decide) ?_
          obtain rfl := Option.some.inj hf
          exact g_sub [1, 2, 3, 4, 5, 6, 8, 9, 0] rfl J_v40
        · have hf := iff_ h41 hf
          refine g_aload_n 1 dX6_favoured_89 rfl rfl ?_
          refine g_iload 9 dX6_favoured_90 rfl ?_
          obtain ⟨v42, hc43, hf⟩ := obd_some hf
          refine g_callVi (ci := 6) (As := [.int x17]) (rest := [.long x15]) (w2 := (wO cs ad s18)) 0 dX6_favoured_92 vX6_favoured_180 (c_X6_shortOf ad hty hc43) rfl (mid0 _) rfl rfl 0 wlaO_0 rfl (Nat.le_of_ble_eq_true rfl) ⟨Nat.zero_le _, Nat.zero_le _⟩ (mid2 _ _) ?_
          refine g_i2l dX6_favoured_95 ?_
          refine g_goto (tgt := 100) dX6_favoured_96 (by decide) ?_
          obtain rfl := Option.some.inj hf
          exact g_sub [1, 2, 3, 4, 5, 6, 8, 9, 0] rfl J_v40
      have hf := hE_v32
      refine g_icmp_ne (tgt := 79) dX6_favoured_60 (by decide) (fun h33 => ?_) (fun h33 => ?_)
      · have hf := iff_ h33 hf
        refine g_iconst (v := (0 : Int32)) dX6_favoured_79 (by decide) ?_
        obtain rfl := Option.some.inj hf
        exact g_sub [0, 1, 2, 3, 4, 5, 6, 7, 8] rfl J_v32
      · have hf := ift h33 hf
        refine g_aload_n 0 dX6_favoured_63 rfl rfl ?_
        refine g_iload 8 dX6_favoured_64 rfl ?_
        refine g_iconst (v := (2 : Int32)) dX6_favoured_66 (by decide) ?_
        obtain ⟨v34, hc35, hf⟩ := obd_some hf
        refine g_callVi (ci := 6) (As := [.int x17, .int (2 : Int32)]) (rest := []) (w2 := (wO cs ad s18)) 0 dX6_favoured_67 vX6_favoured_155 (c_X6_bag ad hty hc35) rfl (mid0 _) rfl rfl 0 wlaO_0 rfl (Nat.le_of_ble_eq_true rfl) ⟨Nat.zero_le _, Nat.zero_le _⟩ (mid2 _ _) ?_
        refine g_iload 5 dX6_favoured_70 rfl ?_
        refine g_icmp_ne (tgt := 79) dX6_favoured_72 (by decide) (fun h36 => ?_) (fun h36 => ?_)
        · have hf := iff_ h36 hf
          refine g_iconst (v := (0 : Int32)) dX6_favoured_79 (by decide) ?_
          obtain rfl := Option.some.inj hf
          exact g_sub [0, 1, 2, 3, 4, 5, 6, 7, 8] rfl J_v32
        · have hf := ift h36 hf
          refine g_iconst (v := (1 : Int32)) dX6_favoured_75 (by decide) ?_
          refine g_goto (tgt := 80) dX6_favoured_76 (by decide) ?_
          obtain rfl := Option.some.inj hf
          exact g_sub [0, 1, 2, 3, 4, 5, 6, 7, 8] rfl J_v32

set_option maxHeartbeats 4000000 in
set_option maxRecDepth 100000 in
theorem w_X6_favoured_L26 {E : GE} {cs : CS} {ad : Nat → Nat} {F : Nat} {a1 : Int32} {s9 : SO} {r : (Int32 × SO)} (hty : eT E = tyA cs) (hr : Ri E kX6_favoured r.1 (wO cs ad r.2)) : ∀ (n : Nat) (x5 : Int32) (x6 : Int64) (x7 : Int64) (x8 : Int32), f_X6_favoured_L26 F a1 s9 n x5 x6 x7 x8 = some r → G E kX6_favoured 0 0 26 [(0, .ref (ad 0)), (1, .int a1), (2, .int x5), (3, .long x6), (5, .long x7), (7, .int x8)] [] (wO cs ad s9) := by
  intro n
  induction n with
  | zero =>
    intro x5 x6 x7 x8 hf
    cases (show (none : Option (Int32 × SO)) = some r from hf)
  | succ n ih =>
    intro x5 x6 x7 x8 hf
    rw [f_X6_favoured_L26] at hf
    refine g_iload 5 dX6_favoured_26 rfl ?_
    refine g_iconst (v := (4 : Int32)) dX6_favoured_28 (by decide) ?_
    refine g_icmp_ge (tgt := 166) dX6_favoured_29 (by decide) (fun h10 => ?_) (fun h10 => ?_)
    · have hf := ift h10 hf
      refine g_iload_n 2 dX6_favoured_166 rfl rfl ?_
      obtain rfl := Option.some.inj hf
      exact hr _ _ dX6_favoured_167
    · have hf := iff_ h10 hf
      refine g_lconst (v := (0 : Int64)) dX6_favoured_32 (by decide) ?_
      refine g_lstore (lv2 := [(8, .long (0 : Int64)), (0, .ref (ad 0)), (1, .int a1), (2, .int x5), (3, .long x6), (5, .long x7), (7, .int x8)]) dX6_favoured_33 (by decide) rfl ?_
      refine g_lconst (v := (0 : Int64)) dX6_favoured_35 (by decide) ?_
      refine g_lstore (lv2 := [(10, .long (0 : Int64)), (8, .long (0 : Int64)), (0, .ref (ad 0)), (1, .int a1), (2, .int x5), (3, .long x6), (5, .long x7), (7, .int x8)]) dX6_favoured_36 (by decide) rfl ?_
      refine g_iconst (v := (0 : Int32)) dX6_favoured_38 (by decide) ?_
      refine g_istore (lv2 := [(12, .int (0 : Int32)), (10, .long (0 : Int64)), (8, .long (0 : Int64)), (0, .ref (ad 0)), (1, .int a1), (2, .int x5), (3, .long x6), (5, .long x7), (7, .int x8)]) dX6_favoured_39 (by decide) rfl ?_
      exact g_sub [3, 4, 5, 6, 7, 8, 2, 1, 0] rfl (w_X6_favoured_L41 hty hr ih F x5 x6 x7 x8 (0 : Int64) (0 : Int64) (0 : Int32) hf)

set_option maxHeartbeats 4000000 in
set_option maxRecDepth 100000 in
theorem c_X6_favoured {l : Launch} {D : va_G} {tys : List (ClassId × FieldType)} {X : XT} {cs : CS} (ad : Nat → Nat) {F : Nat} {s : SO} {a1 : Int32} {r : (Int32 × SO)} (htyM : tys = tyA cs) (hf : f_X6_favoured F s a1 = some r) : Ci l D tys X yX6_favoured wsX6_favoured rmX6_favoured [.ref (ad 0), .int a1] (wO cs ad s) r.1 (wO cs ad r.2) := by
  refine Ci_ofG (by decide +kernel) rfl (Nat.le_of_ble_eq_true rfl) .int rfl (vp_nar_int _) (fun E _ _ hty0 hX0 hr => ?_)
  have hty := hty0.trans htyM
  have hr : Ri E kX6_favoured r.1 (wO cs ad r.2) := hr
  show G E kX6_favoured 0 0 0 [(0, .ref (ad 0)), (1, .int a1)] [] (wO cs ad s)
  unfold f_X6_favoured at hf
  refine g_aload_n 0 dX6_favoured_0 rfl rfl ?_
  refine g_iconst (v := (0 : Int32)) dX6_favoured_1 (by decide) ?_
  obtain ⟨s1, e_s1, hf⟩ := olt_some hf
  refine g_put (ci := 6) (T := TX6) (N := 29) (ty := .int) (w2 := (wO cs ad s1)) 0 0 (.int (0 : Int32)) tyX6 dX6_favoured_2 iX6_favoured_X6 tyX6_ok nmX6 rfl jX6_favoured_54 (by decide) rfl rfl rfl rfl wlaO_0 (Nat.le_of_ble_eq_true rfl) (wlpO_0_0.trans (congrArg (wO cs ad) e_s1)) ?_
  refine g_aload_n 0 dX6_favoured_5 rfl rfl ?_
  refine g_iload_n 1 dX6_favoured_6 rfl rfl ?_
  obtain ⟨v2, hc3, hf⟩ := obd_some hf
  refine g_callVi (ci := 6) (As := [.int a1]) (rest := []) (w2 := (wO cs ad s1)) 0 dX6_favoured_7 vX6_favoured_158 (c_X6_isStall ad hty hc3) rfl (mid0 _) rfl rfl 0 wlaO_0 rfl (Nat.le_of_ble_eq_true rfl) ⟨Nat.zero_le _, Nat.zero_le _⟩ (mid2 _ _) ?_
  refine g_if_ne (tgt := 15) dX6_favoured_10 (by decide) (fun h4 => ?_) (fun h4 => ?_)
  · have hf := iff_ h4 hf
    refine g_bipush (v := (-9 : Int32)) dX6_favoured_15 (by decide) ?_
    refine g_istore_n (lv2 := [(2, .int (-9 : Int32)), (0, .ref (ad 0)), (1, .int a1)]) dX6_favoured_17 rfl (by decide) rfl ?_
    refine g_lconst (v := (0 : Int64)) dX6_favoured_18 (by decide) ?_
    refine g_lstore_n (lv2 := [(3, .long (0 : Int64)), (2, .int (-9 : Int32)), (0, .ref (ad 0)), (1, .int a1)]) dX6_favoured_19 rfl (by decide) rfl ?_
    refine g_lconst (v := (1 : Int64)) dX6_favoured_20 (by decide) ?_
    refine g_lstore (lv2 := [(5, .long (1 : Int64)), (3, .long (0 : Int64)), (2, .int (-9 : Int32)), (0, .ref (ad 0)), (1, .int a1)]) dX6_favoured_21 (by decide) rfl ?_
    refine g_iconst (v := (0 : Int32)) dX6_favoured_23 (by decide) ?_
    refine g_istore (lv2 := [(7, .int (0 : Int32)), (5, .long (1 : Int64)), (3, .long (0 : Int64)), (2, .int (-9 : Int32)), (0, .ref (ad 0)), (1, .int a1)]) dX6_favoured_24 (by decide) rfl ?_
    exact g_sub [4, 5, 3, 2, 1, 0] rfl (w_X6_favoured_L26 hty hr F (-9 : Int32) (0 : Int64) (1 : Int64) (0 : Int32) hf)
  · have hf := ift h4 hf
    refine g_iconst (v := (-1 : Int32)) dX6_favoured_13 (by decide) ?_
    obtain rfl := Option.some.inj hf
    exact hr _ _ dX6_favoured_14

-- ThumbScaleModel even (II)J
def rmX6_even : Room := { frames := 3, cells := 0, slots := 0, locals := 65 }
def kX6_even : MK := (cX6_even, 6, RX6, wsX6_even, (some .long), rmX6_even)

set_option maxRecDepth 20000 in
theorem jX6_even_54 : Cond.fieldLink RX6 54 (TX6 0).1 (TX6 0).2.1 (TX6 0).2.2.1 ∈ wsX6_even := by decide +kernel
set_option maxRecDepth 20000 in
theorem iX6_even_X6 : ∀ x ∈ u_ws RX6 TX6 29, x ∈ wsX6_even := by decide +kernel
set_option maxRecDepth 20000 in
theorem vX6_even_158 : KV kX6_even 158 RX6 yX6_isStall wsX6_isStall rmX6_isStall 1 := ⟨_, _, _, _, gX6_even_X6_isStall, rfl, rfl, rfl, by decide +kernel, ⟨by decide, by decide⟩⟩
set_option maxRecDepth 20000 in
theorem qX6_even_205 : Cond.constantLong RX6 205 (-1 : Int64) ∈ wsX6_even := by decide +kernel
set_option maxRecDepth 20000 in
theorem vX6_even_61 : KS kX6_even 61 yX6_in wsX6_in rmX6_in 3 := ⟨_, _, _, _, gX6_even_X6_in, rfl, rfl, rfl, by decide +kernel, ⟨by decide, by decide⟩⟩
set_option maxRecDepth 20000 in
theorem vX6_even_161 : KV kX6_even 161 RX6 yX6_bagsOf wsX6_bagsOf rmX6_bagsOf 1 := ⟨_, _, _, _, gX6_even_X6_bagsOf, rfl, rfl, rfl, by decide +kernel, ⟨by decide, by decide⟩⟩
set_option maxRecDepth 20000 in
theorem jX6_even_7 : Cond.fieldLink RX6 7 (TX6 2).1 (TX6 2).2.1 (TX6 2).2.2.1 ∈ wsX6_even := by decide +kernel
set_option maxRecDepth 20000 in
theorem qX6_even_213 : Cond.constantLong RX6 213 (10 : Int64) ∈ wsX6_even := by decide +kernel
set_option maxRecDepth 20000 in
theorem vX6_even_202 : KS kX6_even 202 yX6_power wsX6_power rmX6_power 2 := ⟨_, _, _, _, gX6_even_X6_power, rfl, rfl, rfl, by decide +kernel, ⟨by decide, by decide⟩⟩
set_option maxRecDepth 20000 in
theorem jX6_even_27 : Cond.fieldLink RX6 27 (TX6 13).1 (TX6 13).2.1 (TX6 13).2.2.1 ∈ wsX6_even := by decide +kernel
set_option maxRecDepth 20000 in
theorem vX6_even_209 : KV kX6_even 209 RX6 yX6_rows wsX6_rows rmX6_rows 3 := ⟨_, _, _, _, gX6_even_X6_rows, rfl, rfl, rfl, by decide +kernel, ⟨by decide, by decide⟩⟩
set_option maxRecDepth 20000 in
theorem vX6_even_155 : KV kX6_even 155 RX6 yX6_bag wsX6_bag rmX6_bag 2 := ⟨_, _, _, _, gX6_even_X6_bag, rfl, rfl, rfl, by decide +kernel, ⟨by decide, by decide⟩⟩
set_option maxRecDepth 20000 in
theorem vX6_even_191 : KV kX6_even 191 RX6 yX6_stepsOf wsX6_stepsOf rmX6_stepsOf 1 := ⟨_, _, _, _, gX6_even_X6_stepsOf, rfl, rfl, rfl, by decide +kernel, ⟨by decide, by decide⟩⟩
set_option maxRecDepth 20000 in
theorem qX6_even_207 : Cond.constantLong RX6 207 (-2 : Int64) ∈ wsX6_even := by decide +kernel
def f_X6_even_L48 (F : Nat) (a1 : Int32) (a2 : Int32) (x13 : Int32) (s14 : SO) : Nat → Int32 → Int32 → Option (Int64 × SO)
  | 0, _, _ => none
  | n + 1, x11, x12 =>
    ochi (0 : Int32) 264 (
    (if ((O_s s14) (Int32.toNatClampNeg (0 : Int32))) ≤ x12 then
    (if a2 = 0 then
    ochi (1 : Int32) 6 (
    obd (f_X6_rows F s14 x13 x11 ((O_luck s14) (Int32.toNatClampNeg (1 : Int32)))) (fun v22 =>
    some (v22, s14)))
    else
    (if a2 = (1 : Int32) then
    obd (f_X6_power F (10 : Int64) x13) (fun v19 =>
    some (v19, s14))
    else
    some ((Int32.toInt64 x11), s14)))
    else
    obd (f_X6_bag F s14 x12 (0 : Int32)) (fun v24 =>
    (if v24 = a1 then
    obd (f_X6_stepsOf F s14 x12) (fun v27 =>
    (if v27 = 0 then
    f_X6_even_L48 F a1 a2 x13 s14 n (x11 + (1 : Int32)) (x12 + 1)
    else
    f_X6_even_L48 F a1 a2 x13 s14 n (x11 + (0 : Int32)) (x12 + 1)))
    else
    f_X6_even_L48 F a1 a2 x13 s14 n (x11 + (0 : Int32)) (x12 + 1)))))

def f_X6_even (F : Nat) (s : SO) (a1 : Int32) (a2 : Int32) : Option (Int64 × SO) :=
    olt (uO_thrown s (0 : Int32)) (fun s1 =>
    obd (f_X6_isStall F s1 a1) (fun v2 =>
    (if v2 = 0 then
    some ((-1 : Int64), s1)
    else
    obd (f_X6_in F a2 (0 : Int32) (2 : Int32)) (fun v5 =>
    (if v5 = 0 then
    some ((-1 : Int64), s1)
    else
    obd (f_X6_bagsOf F s1 a1) (fun v8 =>
    (if v8 ≤ (18 : Int32) then
    f_X6_even_L48 F a1 a2 v8 s1 F (0 : Int32) (0 : Int32)
    else
    some ((-2 : Int64), s1))))))))

set_option maxHeartbeats 4000000 in
set_option maxRecDepth 100000 in
theorem w_X6_even_L48 {E : GE} {cs : CS} {ad : Nat → Nat} {F : Nat} {a1 : Int32} {a2 : Int32} {x13 : Int32} {s14 : SO} {r : (Int64 × SO)} (hty : eT E = tyA cs) (hr : Rl E kX6_even r.1 (wO cs ad r.2)) : ∀ (n : Nat) (x11 : Int32) (x12 : Int32), f_X6_even_L48 F a1 a2 x13 s14 n x11 x12 = some r → G E kX6_even 0 0 48 [(0, .ref (ad 0)), (1, .int a1), (2, .int a2), (3, .int x13), (4, .int x11), (5, .int x12)] [] (wO cs ad s14) := by
  intro n
  induction n with
  | zero =>
    intro x11 x12 hf
    cases (show (none : Option (Int64 × SO)) = some r from hf)
  | succ n ih =>
    intro x11 x12 hf
    rw [f_X6_even_L48] at hf
    refine g_iload 5 dX6_even_48 rfl ?_
    refine g_aload_n 0 dX6_even_50 rfl rfl ?_
    refine g_get (ci := 6) (T := TX6) (N := 29) 0 2 (.ref (ad 1)) dX6_even_51 iX6_even_X6 rfl jX6_even_7 (by decide) wlaO_0 rfl ?_
    refine g_iconst (v := (0 : Int32)) dX6_even_54 (by decide) ?_
    obtain ⟨h15, hf⟩ := ochi_some hf
    refine g_iald 1 0 dX6_even_55 wlaO_1 (tI hty) h15 ?_
    refine g_icmp_ge (tgt := 95) dX6_even_56 (by decide) (fun h16 => ?_) (fun h16 => ?_)
    · have hf := ift h16 hf
      refine g_iload_n 2 dX6_even_95 rfl rfl ?_
      refine g_if_ne (tgt := 115) dX6_even_96 (by decide) (fun h17 => ?_) (fun h17 => ?_)
      · have hf := iff_ h17 hf
        refine g_iload_n 2 dX6_even_115 rfl rfl ?_
        refine g_iconst (v := (1 : Int32)) dX6_even_116 (by decide) ?_
        refine g_icmp_ne (tgt := 130) dX6_even_117 (by decide) (fun h18 => ?_) (fun h18 => ?_)
        · have hf := iff_ h18 hf
          refine g_iload 4 dX6_even_130 rfl ?_
          refine g_i2l dX6_even_132 ?_
          obtain rfl := Option.some.inj hf
          exact hr _ _ dX6_even_133
        · have hf := ift h18 hf
          refine g_ldc2 (v := (10 : Int64)) dX6_even_120 qX6_even_213 ?_
          refine g_iload_n 3 dX6_even_123 rfl rfl ?_
          obtain ⟨v19, hc20, hf⟩ := obd_some hf
          refine g_callSl (As := [.long (10 : Int64), .int x13]) (rest := []) (w2 := (wO cs ad s14)) 0 dX6_even_124 vX6_even_202 (c_X6_power hty hc20) rfl (midm _) rfl (Nat.le_of_ble_eq_true rfl) ⟨Nat.zero_le _, Nat.zero_le _⟩ (midn _) ?_
          refine g_goto (tgt := 133) dX6_even_127 (by decide) ?_
          obtain rfl := Option.some.inj hf
          exact hr _ _ dX6_even_133
      · have hf := ift h17 hf
        refine g_aload_n 0 dX6_even_99 rfl rfl ?_
        refine g_iload_n 3 dX6_even_100 rfl rfl ?_
        refine g_iload 4 dX6_even_101 rfl ?_
        refine g_aload_n 0 dX6_even_103 rfl rfl ?_
        refine g_get (ci := 6) (T := TX6) (N := 29) 0 13 (.ref (ad 6)) dX6_even_104 iX6_even_X6 rfl jX6_even_27 (by decide) wlaO_0 rfl ?_
        refine g_iconst (v := (1 : Int32)) dX6_even_107 (by decide) ?_
        obtain ⟨h21, hf⟩ := ochi_some hf
        refine g_iald 6 0 dX6_even_108 wlaO_6 (tI hty) h21 ?_
        obtain ⟨v22, hc23, hf⟩ := obd_some hf
        refine g_callVl (ci := 6) (As := [.int x13, .int x11, .int ((O_luck s14) (Int32.toNatClampNeg (1 : Int32)))]) (rest := []) (w2 := (wO cs ad s14)) 0 dX6_even_109 vX6_even_209 (c_X6_rows ad hty hc23) rfl (mid0 _) rfl rfl 0 wlaO_0 rfl (Nat.le_of_ble_eq_true rfl) ⟨Nat.zero_le _, Nat.zero_le _⟩ (mid2 _ _) ?_
        refine g_goto (tgt := 133) dX6_even_112 (by decide) ?_
        obtain rfl := Option.some.inj hf
        exact hr _ _ dX6_even_133
    · have hf := iff_ h16 hf
      refine g_iload 4 dX6_even_59 rfl ?_
      refine g_aload_n 0 dX6_even_61 rfl rfl ?_
      refine g_iload 5 dX6_even_62 rfl ?_
      refine g_iconst (v := (0 : Int32)) dX6_even_64 (by decide) ?_
      obtain ⟨v24, hc25, hf⟩ := obd_some hf
      refine g_callVi (ci := 6) (As := [.int x12, .int (0 : Int32)]) (rest := [.int x11]) (w2 := (wO cs ad s14)) 0 dX6_even_65 vX6_even_155 (c_X6_bag ad hty hc25) rfl (mid0 _) rfl rfl 0 wlaO_0 rfl (Nat.le_of_ble_eq_true rfl) ⟨Nat.zero_le _, Nat.zero_le _⟩ (mid2 _ _) ?_
      refine g_iload_n 1 dX6_even_68 rfl rfl ?_
      refine g_icmp_ne (tgt := 85) dX6_even_69 (by decide) (fun h26 => ?_) (fun h26 => ?_)
      · have hf := iff_ h26 hf
        refine g_iconst (v := (0 : Int32)) dX6_even_85 (by decide) ?_
        refine g_iadd dX6_even_86 ?_
        refine g_istore (lv2 := [(4, .int (x11 + (0 : Int32))), (0, .ref (ad 0)), (1, .int a1), (2, .int a2), (3, .int x13), (5, .int x12)]) dX6_even_87 (by decide) rfl ?_
        refine g_iinc (lv2 := [(5, .int (x12 + 1)), (4, .int (x11 + (0 : Int32))), (0, .ref (ad 0)), (1, .int a1), (2, .int a2), (3, .int x13)]) 5 dX6_even_89 rfl (ii1 _) (by decide) rfl ?_
        refine g_goto (tgt := 48) dX6_even_92 (by decide) ?_
        exact g_sub [2, 3, 4, 5, 1, 0] rfl (ih (x11 + (0 : Int32)) (x12 + 1) hf)
      · have hf := ift h26 hf
        refine g_aload_n 0 dX6_even_72 rfl rfl ?_
        refine g_iload 5 dX6_even_73 rfl ?_
        obtain ⟨v27, hc28, hf⟩ := obd_some hf
        refine g_callVi (ci := 6) (As := [.int x12]) (rest := [.int x11]) (w2 := (wO cs ad s14)) 0 dX6_even_75 vX6_even_191 (c_X6_stepsOf ad hty hc28) rfl (mid0 _) rfl rfl 0 wlaO_0 rfl (Nat.le_of_ble_eq_true rfl) ⟨Nat.zero_le _, Nat.zero_le _⟩ (mid2 _ _) ?_
        refine g_if_ne (tgt := 85) dX6_even_78 (by decide) (fun h29 => ?_) (fun h29 => ?_)
        · have hf := iff_ h29 hf
          refine g_iconst (v := (0 : Int32)) dX6_even_85 (by decide) ?_
          refine g_iadd dX6_even_86 ?_
          refine g_istore (lv2 := [(4, .int (x11 + (0 : Int32))), (0, .ref (ad 0)), (1, .int a1), (2, .int a2), (3, .int x13), (5, .int x12)]) dX6_even_87 (by decide) rfl ?_
          refine g_iinc (lv2 := [(5, .int (x12 + 1)), (4, .int (x11 + (0 : Int32))), (0, .ref (ad 0)), (1, .int a1), (2, .int a2), (3, .int x13)]) 5 dX6_even_89 rfl (ii1 _) (by decide) rfl ?_
          refine g_goto (tgt := 48) dX6_even_92 (by decide) ?_
          exact g_sub [2, 3, 4, 5, 1, 0] rfl (ih (x11 + (0 : Int32)) (x12 + 1) hf)
        · have hf := ift h29 hf
          refine g_iconst (v := (1 : Int32)) dX6_even_81 (by decide) ?_
          refine g_goto (tgt := 86) dX6_even_82 (by decide) ?_
          refine g_iadd dX6_even_86 ?_
          refine g_istore (lv2 := [(4, .int (x11 + (1 : Int32))), (0, .ref (ad 0)), (1, .int a1), (2, .int a2), (3, .int x13), (5, .int x12)]) dX6_even_87 (by decide) rfl ?_
          refine g_iinc (lv2 := [(5, .int (x12 + 1)), (4, .int (x11 + (1 : Int32))), (0, .ref (ad 0)), (1, .int a1), (2, .int a2), (3, .int x13)]) 5 dX6_even_89 rfl (ii1 _) (by decide) rfl ?_
          refine g_goto (tgt := 48) dX6_even_92 (by decide) ?_
          exact g_sub [2, 3, 4, 5, 1, 0] rfl (ih (x11 + (1 : Int32)) (x12 + 1) hf)

set_option maxHeartbeats 4000000 in
set_option maxRecDepth 100000 in
theorem c_X6_even {l : Launch} {D : va_G} {tys : List (ClassId × FieldType)} {X : XT} {cs : CS} (ad : Nat → Nat) {F : Nat} {s : SO} {a1 : Int32} {a2 : Int32} {r : (Int64 × SO)} (htyM : tys = tyA cs) (hf : f_X6_even F s a1 a2 = some r) : Cl l D tys X yX6_even wsX6_even rmX6_even [.ref (ad 0), .int a1, .int a2] (wO cs ad s) r.1 (wO cs ad r.2) := by
  refine Cl_ofG (by decide +kernel) rfl (Nat.le_of_ble_eq_true rfl) (fun E _ _ hty0 hX0 hr => ?_)
  have hty := hty0.trans htyM
  have hr : Rl E kX6_even r.1 (wO cs ad r.2) := hr
  show G E kX6_even 0 0 0 [(0, .ref (ad 0)), (1, .int a1), (2, .int a2)] [] (wO cs ad s)
  unfold f_X6_even at hf
  refine g_aload_n 0 dX6_even_0 rfl rfl ?_
  refine g_iconst (v := (0 : Int32)) dX6_even_1 (by decide) ?_
  obtain ⟨s1, e_s1, hf⟩ := olt_some hf
  refine g_put (ci := 6) (T := TX6) (N := 29) (ty := .int) (w2 := (wO cs ad s1)) 0 0 (.int (0 : Int32)) tyX6 dX6_even_2 iX6_even_X6 tyX6_ok nmX6 rfl jX6_even_54 (by decide) rfl rfl rfl rfl wlaO_0 (Nat.le_of_ble_eq_true rfl) (wlpO_0_0.trans (congrArg (wO cs ad) e_s1)) ?_
  refine g_aload_n 0 dX6_even_5 rfl rfl ?_
  refine g_iload_n 1 dX6_even_6 rfl rfl ?_
  obtain ⟨v2, hc3, hf⟩ := obd_some hf
  refine g_callVi (ci := 6) (As := [.int a1]) (rest := []) (w2 := (wO cs ad s1)) 0 dX6_even_7 vX6_even_158 (c_X6_isStall ad hty hc3) rfl (mid0 _) rfl rfl 0 wlaO_0 rfl (Nat.le_of_ble_eq_true rfl) ⟨Nat.zero_le _, Nat.zero_le _⟩ (mid2 _ _) ?_
  refine g_if_eq (tgt := 22) dX6_even_10 (by decide) (fun h4 => ?_) (fun h4 => ?_)
  · have hf := ift h4 hf
    refine g_ldc2 (v := (-1 : Int64)) dX6_even_22 qX6_even_205 ?_
    obtain rfl := Option.some.inj hf
    exact hr _ _ dX6_even_25
  · have hf := iff_ h4 hf
    refine g_iload_n 2 dX6_even_13 rfl rfl ?_
    refine g_iconst (v := (0 : Int32)) dX6_even_14 (by decide) ?_
    refine g_iconst (v := (2 : Int32)) dX6_even_15 (by decide) ?_
    obtain ⟨v5, hc6, hf⟩ := obd_some hf
    refine g_callSi (As := [.int a2, .int (0 : Int32), .int (2 : Int32)]) (rest := []) (w2 := (wO cs ad s1)) 0 dX6_even_16 vX6_even_61 (c_X6_in hty hc6) rfl (midm _) rfl (Nat.le_of_ble_eq_true rfl) ⟨Nat.zero_le _, Nat.zero_le _⟩ (midn _) ?_
    refine g_if_ne (tgt := 26) dX6_even_19 (by decide) (fun h7 => ?_) (fun h7 => ?_)
    · have hf := iff_ h7 hf
      refine g_aload_n 0 dX6_even_26 rfl rfl ?_
      refine g_iload_n 1 dX6_even_27 rfl rfl ?_
      obtain ⟨v8, hc9, hf⟩ := obd_some hf
      refine g_callVi (ci := 6) (As := [.int a1]) (rest := []) (w2 := (wO cs ad s1)) 0 dX6_even_28 vX6_even_161 (c_X6_bagsOf ad hty hc9) rfl (mid0 _) rfl rfl 0 wlaO_0 rfl (Nat.le_of_ble_eq_true rfl) ⟨Nat.zero_le _, Nat.zero_le _⟩ (mid2 _ _) ?_
      refine g_istore_n (lv2 := [(3, .int v8), (0, .ref (ad 0)), (1, .int a1), (2, .int a2)]) dX6_even_31 rfl (by decide) rfl ?_
      refine g_iload_n 0 dX6_even_32 rfl rfl ?_
      refine g_bipush (v := (18 : Int32)) dX6_even_33 (by decide) ?_
      refine g_icmp_le (tgt := 42) dX6_even_35 (by decide) (fun h10 => ?_) (fun h10 => ?_)
      · have hf := ift h10 hf
        refine g_iconst (v := (0 : Int32)) dX6_even_42 (by decide) ?_
        refine g_istore (lv2 := [(4, .int (0 : Int32)), (3, .int v8), (0, .ref (ad 0)), (1, .int a1), (2, .int a2)]) dX6_even_43 (by decide) rfl ?_
        refine g_iconst (v := (0 : Int32)) dX6_even_45 (by decide) ?_
        refine g_istore (lv2 := [(5, .int (0 : Int32)), (4, .int (0 : Int32)), (3, .int v8), (0, .ref (ad 0)), (1, .int a1), (2, .int a2)]) dX6_even_46 (by decide) rfl ?_
        exact g_sub [3, 4, 5, 2, 1, 0] rfl (w_X6_even_L48 hty hr F (0 : Int32) (0 : Int32) hf)
      · have hf := iff_ h10 hf
        refine g_ldc2 (v := (-2 : Int64)) dX6_even_38 qX6_even_207 ?_
        obtain rfl := Option.some.inj hf
        exact hr _ _ dX6_even_41
    · have hf := ift h7 hf
      refine g_ldc2 (v := (-1 : Int64)) dX6_even_22 qX6_even_205 ?_
      obtain rfl := Option.some.inj hf
      exact hr _ _ dX6_even_25

-- ThumbScaleModel trial (IIII)I
def rmX6_trial : Room := { frames := 2, cells := 0, slots := 0, locals := 43 }
def kX6_trial : MK := (cX6_trial, 6, RX6, wsX6_trial, (some .int), rmX6_trial)

set_option maxRecDepth 20000 in
theorem jX6_trial_54 : Cond.fieldLink RX6 54 (TX6 0).1 (TX6 0).2.1 (TX6 0).2.2.1 ∈ wsX6_trial := by decide +kernel
set_option maxRecDepth 20000 in
theorem iX6_trial_X6 : ∀ x ∈ u_ws RX6 TX6 29, x ∈ wsX6_trial := by decide +kernel
set_option maxRecDepth 20000 in
theorem vX6_trial_158 : KV kX6_trial 158 RX6 yX6_isStall wsX6_isStall rmX6_isStall 1 := ⟨_, _, _, _, gX6_trial_X6_isStall, rfl, rfl, rfl, by decide +kernel, ⟨by decide, by decide⟩⟩
set_option maxRecDepth 20000 in
theorem vX6_trial_61 : KS kX6_trial 61 yX6_in wsX6_in rmX6_in 3 := ⟨_, _, _, _, gX6_trial_X6_in, rfl, rfl, rfl, by decide +kernel, ⟨by decide, by decide⟩⟩
set_option maxRecDepth 20000 in
theorem jX6_trial_7 : Cond.fieldLink RX6 7 (TX6 2).1 (TX6 2).2.1 (TX6 2).2.2.1 ∈ wsX6_trial := by decide +kernel
set_option maxRecDepth 20000 in
theorem vX6_trial_164 : KV kX6_trial 164 RX6 yX6_trialsOf wsX6_trialsOf rmX6_trialsOf 1 := ⟨_, _, _, _, gX6_trial_X6_trialsOf, rfl, rfl, rfl, by decide +kernel, ⟨by decide, by decide⟩⟩
def f_X6_trial (F : Nat) (s : SO) (a1 : Int32) (a2 : Int32) (a3 : Int32) (a4 : Int32) : Option (Int32 × SO) :=
    olt (uO_thrown s (0 : Int32)) (fun s1 =>
    obd (f_X6_isStall F s1 a1) (fun v2 =>
    (if v2 = 0 then
    some ((-1 : Int32), s1)
    else
    obd (f_X6_in F a2 (0 : Int32) (365 : Int32)) (fun v5 =>
    (if v5 = 0 then
    some ((-1 : Int32), s1)
    else
    obd (f_X6_in F a3 (1 : Int32) (999 : Int32)) (fun v8 =>
    (if v8 = 0 then
    some ((-1 : Int32), s1)
    else
    obd (f_X6_in F a4 (0 : Int32) (999 : Int32)) (fun v11 =>
    (if v11 = 0 then
    some ((-1 : Int32), s1)
    else
    ochi (181 : Int32) 264 (
    (if ((O_s s1) (Int32.toNatClampNeg (181 : Int32))) = (20 : Int32) then
    some ((-3 : Int32), s1)
    else
    ochi (181 : Int32) 264 (
    olt ((182 : Int32) + ((4 : Int32) * ((O_s s1) (Int32.toNatClampNeg (181 : Int32))))) (fun z17 =>
    ochi z17 264 (olt (uO_s s1 (upd (O_s s1) (Int32.toNatClampNeg z17) a1)) (fun s19 =>
    ochi (z17 + (1 : Int32)) 264 (olt (uO_s s19 (upd (O_s s19) (Int32.toNatClampNeg (z17 + (1 : Int32))) a2)) (fun s21 =>
    ochi (z17 + (2 : Int32)) 264 (olt (uO_s s21 (upd (O_s s21) (Int32.toNatClampNeg (z17 + (2 : Int32))) a3)) (fun s23 =>
    ochi (z17 + (3 : Int32)) 264 (olt (uO_s s23 (upd (O_s s23) (Int32.toNatClampNeg (z17 + (3 : Int32))) a4)) (fun s25 =>
    ochi (181 : Int32) 264 (
    olt (((O_s s25) (Int32.toNatClampNeg (181 : Int32))) + (1 : Int32)) (fun z27 =>
    ochi (181 : Int32) 264 (olt (uO_s s25 (upd (O_s s25) (Int32.toNatClampNeg (181 : Int32)) z27)) (fun s29 =>
    obd (f_X6_trialsOf F s29 a1) (fun v30 =>
    some (v30, s29)))))))))))))))))))))))))))

set_option maxHeartbeats 4000000 in
set_option maxRecDepth 100000 in
theorem c_X6_trial {l : Launch} {D : va_G} {tys : List (ClassId × FieldType)} {X : XT} {cs : CS} (ad : Nat → Nat) {F : Nat} {s : SO} {a1 : Int32} {a2 : Int32} {a3 : Int32} {a4 : Int32} {r : (Int32 × SO)} (htyM : tys = tyA cs) (hf : f_X6_trial F s a1 a2 a3 a4 = some r) : Ci l D tys X yX6_trial wsX6_trial rmX6_trial [.ref (ad 0), .int a1, .int a2, .int a3, .int a4] (wO cs ad s) r.1 (wO cs ad r.2) := by
  refine Ci_ofG (by decide +kernel) rfl (Nat.le_of_ble_eq_true rfl) .int rfl (vp_nar_int _) (fun E _ _ hty0 hX0 hr => ?_)
  have hty := hty0.trans htyM
  have hr : Ri E kX6_trial r.1 (wO cs ad r.2) := hr
  show G E kX6_trial 0 0 0 [(0, .ref (ad 0)), (1, .int a1), (2, .int a2), (3, .int a3), (4, .int a4)] [] (wO cs ad s)
  unfold f_X6_trial at hf
  refine g_aload_n 0 dX6_trial_0 rfl rfl ?_
  refine g_iconst (v := (0 : Int32)) dX6_trial_1 (by decide) ?_
  obtain ⟨s1, e_s1, hf⟩ := olt_some hf
  refine g_put (ci := 6) (T := TX6) (N := 29) (ty := .int) (w2 := (wO cs ad s1)) 0 0 (.int (0 : Int32)) tyX6 dX6_trial_2 iX6_trial_X6 tyX6_ok nmX6 rfl jX6_trial_54 (by decide) rfl rfl rfl rfl wlaO_0 (Nat.le_of_ble_eq_true rfl) (wlpO_0_0.trans (congrArg (wO cs ad) e_s1)) ?_
  refine g_aload_n 0 dX6_trial_5 rfl rfl ?_
  refine g_iload_n 1 dX6_trial_6 rfl rfl ?_
  obtain ⟨v2, hc3, hf⟩ := obd_some hf
  refine g_callVi (ci := 6) (As := [.int a1]) (rest := []) (w2 := (wO cs ad s1)) 0 dX6_trial_7 vX6_trial_158 (c_X6_isStall ad hty hc3) rfl (mid0 _) rfl rfl 0 wlaO_0 rfl (Nat.le_of_ble_eq_true rfl) ⟨Nat.zero_le _, Nat.zero_le _⟩ (mid2 _ _) ?_
  refine g_if_eq (tgt := 47) dX6_trial_10 (by decide) (fun h4 => ?_) (fun h4 => ?_)
  · have hf := ift h4 hf
    refine g_iconst (v := (-1 : Int32)) dX6_trial_47 (by decide) ?_
    obtain rfl := Option.some.inj hf
    exact hr _ _ dX6_trial_48
  · have hf := iff_ h4 hf
    refine g_iload_n 2 dX6_trial_13 rfl rfl ?_
    refine g_iconst (v := (0 : Int32)) dX6_trial_14 (by decide) ?_
    refine g_sipush (v := (365 : Int32)) dX6_trial_15 (by decide) ?_
    obtain ⟨v5, hc6, hf⟩ := obd_some hf
    refine g_callSi (As := [.int a2, .int (0 : Int32), .int (365 : Int32)]) (rest := []) (w2 := (wO cs ad s1)) 0 dX6_trial_18 vX6_trial_61 (c_X6_in hty hc6) rfl (midm _) rfl (Nat.le_of_ble_eq_true rfl) ⟨Nat.zero_le _, Nat.zero_le _⟩ (midn _) ?_
    refine g_if_eq (tgt := 47) dX6_trial_21 (by decide) (fun h7 => ?_) (fun h7 => ?_)
    · have hf := ift h7 hf
      refine g_iconst (v := (-1 : Int32)) dX6_trial_47 (by decide) ?_
      obtain rfl := Option.some.inj hf
      exact hr _ _ dX6_trial_48
    · have hf := iff_ h7 hf
      refine g_iload_n 3 dX6_trial_24 rfl rfl ?_
      refine g_iconst (v := (1 : Int32)) dX6_trial_25 (by decide) ?_
      refine g_sipush (v := (999 : Int32)) dX6_trial_26 (by decide) ?_
      obtain ⟨v8, hc9, hf⟩ := obd_some hf
      refine g_callSi (As := [.int a3, .int (1 : Int32), .int (999 : Int32)]) (rest := []) (w2 := (wO cs ad s1)) 0 dX6_trial_29 vX6_trial_61 (c_X6_in hty hc9) rfl (midm _) rfl (Nat.le_of_ble_eq_true rfl) ⟨Nat.zero_le _, Nat.zero_le _⟩ (midn _) ?_
      refine g_if_eq (tgt := 47) dX6_trial_32 (by decide) (fun h10 => ?_) (fun h10 => ?_)
      · have hf := ift h10 hf
        refine g_iconst (v := (-1 : Int32)) dX6_trial_47 (by decide) ?_
        obtain rfl := Option.some.inj hf
        exact hr _ _ dX6_trial_48
      · have hf := iff_ h10 hf
        refine g_iload 4 dX6_trial_35 rfl ?_
        refine g_iconst (v := (0 : Int32)) dX6_trial_37 (by decide) ?_
        refine g_sipush (v := (999 : Int32)) dX6_trial_38 (by decide) ?_
        obtain ⟨v11, hc12, hf⟩ := obd_some hf
        refine g_callSi (As := [.int a4, .int (0 : Int32), .int (999 : Int32)]) (rest := []) (w2 := (wO cs ad s1)) 0 dX6_trial_41 vX6_trial_61 (c_X6_in hty hc12) rfl (midm _) rfl (Nat.le_of_ble_eq_true rfl) ⟨Nat.zero_le _, Nat.zero_le _⟩ (midn _) ?_
        refine g_if_ne (tgt := 49) dX6_trial_44 (by decide) (fun h13 => ?_) (fun h13 => ?_)
        · have hf := iff_ h13 hf
          refine g_aload_n 0 dX6_trial_49 rfl rfl ?_
          refine g_get (ci := 6) (T := TX6) (N := 29) 0 2 (.ref (ad 1)) dX6_trial_50 iX6_trial_X6 rfl jX6_trial_7 (by decide) wlaO_0 rfl ?_
          refine g_sipush (v := (181 : Int32)) dX6_trial_53 (by decide) ?_
          obtain ⟨h14, hf⟩ := ochi_some hf
          refine g_iald 1 0 dX6_trial_56 wlaO_1 (tI hty) h14 ?_
          refine g_bipush (v := (20 : Int32)) dX6_trial_57 (by decide) ?_
          refine g_icmp_ne (tgt := 65) dX6_trial_59 (by decide) (fun h15 => ?_) (fun h15 => ?_)
          · have hf := iff_ h15 hf
            refine g_sipush (v := (182 : Int32)) dX6_trial_65 (by decide) ?_
            refine g_iconst (v := (4 : Int32)) dX6_trial_68 (by decide) ?_
            refine g_aload_n 0 dX6_trial_69 rfl rfl ?_
            refine g_get (ci := 6) (T := TX6) (N := 29) 0 2 (.ref (ad 1)) dX6_trial_70 iX6_trial_X6 rfl jX6_trial_7 (by decide) wlaO_0 rfl ?_
            refine g_sipush (v := (181 : Int32)) dX6_trial_73 (by decide) ?_
            obtain ⟨h16, hf⟩ := ochi_some hf
            refine g_iald 1 0 dX6_trial_76 wlaO_1 (tI hty) h16 ?_
            refine g_imul dX6_trial_77 ?_
            refine g_iadd dX6_trial_78 ?_
            obtain ⟨z17, e_z17, hf⟩ := olt_some hf
            refine g_cast rfl rfl (congrArg (fun q => Value.int q :: []) e_z17) rfl ?_
            refine g_istore (lv2 := [(5, .int z17), (0, .ref (ad 0)), (1, .int a1), (2, .int a2), (3, .int a3), (4, .int a4)]) dX6_trial_79 (by decide) rfl ?_
            refine g_aload_n 1 dX6_trial_81 rfl rfl ?_
            refine g_get (ci := 6) (T := TX6) (N := 29) 0 2 (.ref (ad 1)) dX6_trial_82 iX6_trial_X6 rfl jX6_trial_7 (by decide) wlaO_0 rfl ?_
            refine g_iload 0 dX6_trial_85 rfl ?_
            refine g_iload_n 2 dX6_trial_87 rfl rfl ?_
            obtain ⟨h18, hf⟩ := ochi_some hf
            obtain ⟨s19, e_s19, hf⟩ := olt_some hf
            refine g_iast (w2 := (wO cs ad s19)) 1 0 dX6_trial_88 wlaO_1 (tI hty) h18 (wlsO_1.trans (congrArg (wO cs ad) e_s19)) ?_
            refine g_aload_n 1 dX6_trial_89 rfl rfl ?_
            refine g_get (ci := 6) (T := TX6) (N := 29) 0 2 (.ref (ad 1)) dX6_trial_90 iX6_trial_X6 rfl jX6_trial_7 (by decide) wlaO_0 rfl ?_
            refine g_iload 0 dX6_trial_93 rfl ?_
            refine g_iconst (v := (1 : Int32)) dX6_trial_95 (by decide) ?_
            refine g_iadd dX6_trial_96 ?_
            refine g_iload_n 3 dX6_trial_97 rfl rfl ?_
            obtain ⟨h20, hf⟩ := ochi_some hf
            obtain ⟨s21, e_s21, hf⟩ := olt_some hf
            refine g_iast (w2 := (wO cs ad s21)) 1 0 dX6_trial_98 wlaO_1 (tI hty) h20 (wlsO_1.trans (congrArg (wO cs ad) e_s21)) ?_
            refine g_aload_n 1 dX6_trial_99 rfl rfl ?_
            refine g_get (ci := 6) (T := TX6) (N := 29) 0 2 (.ref (ad 1)) dX6_trial_100 iX6_trial_X6 rfl jX6_trial_7 (by decide) wlaO_0 rfl ?_
            refine g_iload 0 dX6_trial_103 rfl ?_
            refine g_iconst (v := (2 : Int32)) dX6_trial_105 (by decide) ?_
            refine g_iadd dX6_trial_106 ?_
            refine g_iload_n 4 dX6_trial_107 rfl rfl ?_
            obtain ⟨h22, hf⟩ := ochi_some hf
            obtain ⟨s23, e_s23, hf⟩ := olt_some hf
            refine g_iast (w2 := (wO cs ad s23)) 1 0 dX6_trial_108 wlaO_1 (tI hty) h22 (wlsO_1.trans (congrArg (wO cs ad) e_s23)) ?_
            refine g_aload_n 1 dX6_trial_109 rfl rfl ?_
            refine g_get (ci := 6) (T := TX6) (N := 29) 0 2 (.ref (ad 1)) dX6_trial_110 iX6_trial_X6 rfl jX6_trial_7 (by decide) wlaO_0 rfl ?_
            refine g_iload 0 dX6_trial_113 rfl ?_
            refine g_iconst (v := (3 : Int32)) dX6_trial_115 (by decide) ?_
            refine g_iadd dX6_trial_116 ?_
            refine g_iload 5 dX6_trial_117 rfl ?_
            obtain ⟨h24, hf⟩ := ochi_some hf
            obtain ⟨s25, e_s25, hf⟩ := olt_some hf
            refine g_iast (w2 := (wO cs ad s25)) 1 0 dX6_trial_119 wlaO_1 (tI hty) h24 (wlsO_1.trans (congrArg (wO cs ad) e_s25)) ?_
            refine g_aload_n 1 dX6_trial_120 rfl rfl ?_
            refine g_get (ci := 6) (T := TX6) (N := 29) 0 2 (.ref (ad 1)) dX6_trial_121 iX6_trial_X6 rfl jX6_trial_7 (by decide) wlaO_0 rfl ?_
            refine g_sipush (v := (181 : Int32)) dX6_trial_124 (by decide) ?_
            refine g_dup2 dX6_trial_127 rfl rfl ?_
            obtain ⟨h26, hf⟩ := ochi_some hf
            refine g_iald 1 0 dX6_trial_128 wlaO_1 (tI hty) h26 ?_
            refine g_iconst (v := (1 : Int32)) dX6_trial_129 (by decide) ?_
            refine g_iadd dX6_trial_130 ?_
            obtain ⟨z27, e_z27, hf⟩ := olt_some hf
            refine g_cast rfl rfl (congrArg (fun q => Value.int q :: [.int (181 : Int32), .ref (ad 1)]) e_z27) rfl ?_
            obtain ⟨h28, hf⟩ := ochi_some hf
            obtain ⟨s29, e_s29, hf⟩ := olt_some hf
            refine g_iast (w2 := (wO cs ad s29)) 1 0 dX6_trial_131 wlaO_1 (tI hty) h28 (wlsO_1.trans (congrArg (wO cs ad) e_s29)) ?_
            refine g_aload_n 1 dX6_trial_132 rfl rfl ?_
            refine g_iload_n 2 dX6_trial_133 rfl rfl ?_
            obtain ⟨v30, hc31, hf⟩ := obd_some hf
            refine g_callVi (ci := 6) (As := [.int a1]) (rest := []) (w2 := (wO cs ad s29)) 0 dX6_trial_134 vX6_trial_164 (c_X6_trialsOf ad hty hc31) rfl (mid0 _) rfl rfl 0 wlaO_0 rfl (Nat.le_of_ble_eq_true rfl) ⟨Nat.zero_le _, Nat.zero_le _⟩ (mid2 _ _) ?_
            obtain rfl := Option.some.inj hf
            exact hr _ _ dX6_trial_137
          · have hf := ift h15 hf
            refine g_bipush (v := (-3 : Int32)) dX6_trial_62 (by decide) ?_
            obtain rfl := Option.some.inj hf
            exact hr _ _ dX6_trial_64
        · have hf := ift h13 hf
          refine g_iconst (v := (-1 : Int32)) dX6_trial_47 (by decide) ?_
          obtain rfl := Option.some.inj hf
          exact hr _ _ dX6_trial_48

-- ThumbScaleModel middle (I)J
def rmX6_middle : Room := { frames := 2, cells := 0, slots := 0, locals := 43 }
def kX6_middle : MK := (cX6_middle, 6, RX6, wsX6_middle, (some .long), rmX6_middle)

set_option maxRecDepth 20000 in
theorem jX6_middle_54 : Cond.fieldLink RX6 54 (TX6 0).1 (TX6 0).2.1 (TX6 0).2.2.1 ∈ wsX6_middle := by decide +kernel
set_option maxRecDepth 20000 in
theorem iX6_middle_X6 : ∀ x ∈ u_ws RX6 TX6 29, x ∈ wsX6_middle := by decide +kernel
set_option maxRecDepth 20000 in
theorem vX6_middle_158 : KV kX6_middle 158 RX6 yX6_isStall wsX6_isStall rmX6_isStall 1 := ⟨_, _, _, _, gX6_middle_X6_isStall, rfl, rfl, rfl, by decide +kernel, ⟨by decide, by decide⟩⟩
set_option maxRecDepth 20000 in
theorem qX6_middle_189 : Cond.constantLong RX6 189 (-1000000000000000000 : Int64) ∈ wsX6_middle := by decide +kernel
set_option maxRecDepth 20000 in
theorem vX6_middle_164 : KV kX6_middle 164 RX6 yX6_trialsOf wsX6_trialsOf rmX6_trialsOf 1 := ⟨_, _, _, _, gX6_middle_X6_trialsOf, rfl, rfl, rfl, by decide +kernel, ⟨by decide, by decide⟩⟩
set_option maxRecDepth 20000 in
theorem jX6_middle_7 : Cond.fieldLink RX6 7 (TX6 2).1 (TX6 2).2.1 (TX6 2).2.2.1 ∈ wsX6_middle := by decide +kernel
set_option maxRecDepth 20000 in
theorem jX6_middle_51 : Cond.fieldLink RX6 51 (TX6 25).1 (TX6 25).2.1 (TX6 25).2.2.1 ∈ wsX6_middle := by decide +kernel
set_option maxRecDepth 20000 in
theorem vX6_middle_251 : KV kX6_middle 251 RX6 yX6_offOf wsX6_offOf rmX6_offOf 1 := ⟨_, _, _, _, gX6_middle_X6_offOf, rfl, rfl, rfl, by decide +kernel, ⟨by decide, by decide⟩⟩
def f_X6_middle_L67 (F : Nat) (a1 : Int32) (x22 : Int32) (x23 : Int32) (k29_ : Int32 → Int32 → SO → Option (Int64 × SO)) : Nat → Int32 → Int32 → SO → Option (Int64 × SO)
  | 0, _, _, _ => none
  | n + 1, x19, x20, s21 =>
    olt (fun (x24 : Int32) (s25 : SO) =>
    ochi x24 20 (olt (uO_row s25 (upd (O_row s25) (Int32.toNatClampNeg x24) x23)) (fun s27 =>
    k29_ (x19 + 1) (x22 + 1) s27))) (fun k28 =>
    (if x20 ≤ 0 then
    k28 x20 s21
    else
    ochi (x20 - (1 : Int32)) 20 (
    (if ((O_row s21) (Int32.toNatClampNeg (x20 - (1 : Int32)))) ≤ x23 then
    k28 x20 s21
    else
    ochi (x20 - (1 : Int32)) 20 (
    olt ((O_row s21) (Int32.toNatClampNeg (x20 - (1 : Int32)))) (fun z33 =>
    ochi x20 20 (olt (uO_row s21 (upd (O_row s21) (Int32.toNatClampNeg x20) z33)) (fun s35 =>
    f_X6_middle_L67 F a1 x22 x23 k29_ n x19 (x20 + (-1)) s35))))))))

def f_X6_middle_L29 (F : Nat) (a1 : Int32) : Nat → Int32 → Int32 → SO → Option (Int64 × SO)
  | 0, _, _, _ => none
  | n + 1, x8, x9, s10 =>
    ochi (181 : Int32) 264 (
    (if ((O_s s10) (Int32.toNatClampNeg (181 : Int32))) ≤ x9 then
    ochk (¬ (2 : Int32) = 0) (
    ochi ((x8 - (1 : Int32)) / (2 : Int32)) 20 (
    some ((Int32.toInt64 ((O_row s10) (Int32.toNatClampNeg ((x8 - (1 : Int32)) / (2 : Int32))))), s10)))
    else
    ochi ((182 : Int32) + ((4 : Int32) * x9)) 264 (
    (if ((O_s s10) (Int32.toNatClampNeg ((182 : Int32) + ((4 : Int32) * x9)))) = a1 then
    obd (f_X6_offOf F s10 x9) (fun v17 =>
    f_X6_middle_L67 F a1 x9 v17 (f_X6_middle_L29 F a1 n) F x8 x8 s10)
    else
    f_X6_middle_L29 F a1 n x8 (x9 + 1) s10))))

def f_X6_middle (F : Nat) (s : SO) (a1 : Int32) : Option (Int64 × SO) :=
    olt (uO_thrown s (0 : Int32)) (fun s1 =>
    obd (f_X6_isStall F s1 a1) (fun v2 =>
    (if v2 = 0 then
    some ((-1000000000000000000 : Int64), s1)
    else
    obd (f_X6_trialsOf F s1 a1) (fun v5 =>
    (if v5 = 0 then
    some ((-1000000000000000000 : Int64), s1)
    else
    f_X6_middle_L29 F a1 F (0 : Int32) (0 : Int32) s1)))))

set_option maxHeartbeats 4000000 in
set_option maxRecDepth 100000 in
theorem w_X6_middle_L67 {E : GE} {cs : CS} {ad : Nat → Nat} {F : Nat} {a1 : Int32} {x22 : Int32} {x23 : Int32} {k29_ : Int32 → Int32 → SO → Option (Int64 × SO)} {r : (Int64 × SO)} (hty : eT E = tyA cs) (hr : Rl E kX6_middle r.1 (wO cs ad r.2)) (K29_ : ∀ (x8 : Int32) (x9 : Int32) (s10 : SO), k29_ x8 x9 s10 = some r → G E kX6_middle 0 0 29 [(0, .ref (ad 0)), (1, .int a1), (2, .int x8), (3, .int x9)] [] (wO cs ad s10)) : ∀ (n : Nat) (x19 : Int32) (x20 : Int32) (s21 : SO), f_X6_middle_L67 F a1 x22 x23 k29_ n x19 x20 s21 = some r → G E kX6_middle 0 0 67 [(0, .ref (ad 0)), (1, .int a1), (2, .int x19), (3, .int x22), (4, .int x23), (5, .int x20)] [] (wO cs ad s21) := by
  intro n
  induction n with
  | zero =>
    intro x19 x20 s21 hf
    cases (show (none : Option (Int64 × SO)) = some r from hf)
  | succ n ih =>
    intro x19 x20 s21 hf
    rw [f_X6_middle_L67] at hf
    refine g_iload 5 dX6_middle_67 rfl ?_
    obtain ⟨k28, e_k28, hf⟩ := olt_some hf
    have K_k28 : ∀ (x24 : Int32) (s25 : SO), k28 x24 s25 = some r → G E kX6_middle 0 0 108 [(0, .ref (ad 0)), (1, .int a1), (2, .int x19), (3, .int x22), (4, .int x23), (5, .int x24)] [] (wO cs ad s25) := by
      intro x24 s25 hf
      rw [← e_k28] at hf
      refine g_aload_n 0 dX6_middle_108 rfl rfl ?_
      refine g_get (ci := 6) (T := TX6) (N := 29) 0 25 (.ref (ad 14)) dX6_middle_109 iX6_middle_X6 rfl jX6_middle_51 (by decide) wlaO_0 rfl ?_
      refine g_iload 5 dX6_middle_112 rfl ?_
      refine g_iload 4 dX6_middle_114 rfl ?_
      obtain ⟨h26, hf⟩ := ochi_some hf
      obtain ⟨s27, e_s27, hf⟩ := olt_some hf
      refine g_iast (w2 := (wO cs ad s27)) 14 0 dX6_middle_116 wlaO_14 (tI hty) h26 (wlsO_14.trans (congrArg (wO cs ad) e_s27)) ?_
      refine g_iinc (lv2 := [(2, .int (x19 + 1)), (0, .ref (ad 0)), (1, .int a1), (3, .int x22), (4, .int x23), (5, .int x24)]) 2 dX6_middle_117 rfl (ii1 _) (by decide) rfl ?_
      refine g_iinc (lv2 := [(3, .int (x22 + 1)), (2, .int (x19 + 1)), (0, .ref (ad 0)), (1, .int a1), (4, .int x23), (5, .int x24)]) 3 dX6_middle_120 rfl (ii1 _) (by decide) rfl ?_
      refine g_goto (tgt := 29) dX6_middle_123 (by decide) ?_
      exact g_sub [2, 3, 1, 0] rfl (K29_ (x19 + 1) (x22 + 1) s27 hf)
    refine g_if_le (tgt := 108) dX6_middle_69 (by decide) (fun h29 => ?_) (fun h29 => ?_)
    · have hf := ift h29 hf
      exact g_sub [0, 1, 2, 3, 4, 5] rfl (K_k28 x20 s21 hf)
    · have hf := iff_ h29 hf
      refine g_aload_n 0 dX6_middle_72 rfl rfl ?_
      refine g_get (ci := 6) (T := TX6) (N := 29) 0 25 (.ref (ad 14)) dX6_middle_73 iX6_middle_X6 rfl jX6_middle_51 (by decide) wlaO_0 rfl ?_
      refine g_iload 5 dX6_middle_76 rfl ?_
      refine g_iconst (v := (1 : Int32)) dX6_middle_78 (by decide) ?_
      refine g_isub dX6_middle_79 ?_
      obtain ⟨h30, hf⟩ := ochi_some hf
      refine g_iald 14 0 dX6_middle_80 wlaO_14 (tI hty) h30 ?_
      refine g_iload 4 dX6_middle_81 rfl ?_
      refine g_icmp_le (tgt := 108) dX6_middle_83 (by decide) (fun h31 => ?_) (fun h31 => ?_)
      · have hf := ift h31 hf
        exact g_sub [0, 1, 2, 3, 4, 5] rfl (K_k28 x20 s21 hf)
      · have hf := iff_ h31 hf
        refine g_aload_n 0 dX6_middle_86 rfl rfl ?_
        refine g_get (ci := 6) (T := TX6) (N := 29) 0 25 (.ref (ad 14)) dX6_middle_87 iX6_middle_X6 rfl jX6_middle_51 (by decide) wlaO_0 rfl ?_
        refine g_iload 5 dX6_middle_90 rfl ?_
        refine g_aload_n 0 dX6_middle_92 rfl rfl ?_
        refine g_get (ci := 6) (T := TX6) (N := 29) 0 25 (.ref (ad 14)) dX6_middle_93 iX6_middle_X6 rfl jX6_middle_51 (by decide) wlaO_0 rfl ?_
        refine g_iload 5 dX6_middle_96 rfl ?_
        refine g_iconst (v := (1 : Int32)) dX6_middle_98 (by decide) ?_
        refine g_isub dX6_middle_99 ?_
        obtain ⟨h32, hf⟩ := ochi_some hf
        refine g_iald 14 0 dX6_middle_100 wlaO_14 (tI hty) h32 ?_
        obtain ⟨z33, e_z33, hf⟩ := olt_some hf
        refine g_cast rfl rfl (congrArg (fun q => Value.int q :: [.int x20, .ref (ad 14)]) e_z33) rfl ?_
        obtain ⟨h34, hf⟩ := ochi_some hf
        obtain ⟨s35, e_s35, hf⟩ := olt_some hf
        refine g_iast (w2 := (wO cs ad s35)) 14 0 dX6_middle_101 wlaO_14 (tI hty) h34 (wlsO_14.trans (congrArg (wO cs ad) e_s35)) ?_
        refine g_iinc (lv2 := [(5, .int (x20 + (-1))), (0, .ref (ad 0)), (1, .int a1), (2, .int x19), (3, .int x22), (4, .int x23)]) 5 dX6_middle_102 rfl (iim1 _) (by decide) rfl ?_
        refine g_goto (tgt := 67) dX6_middle_105 (by decide) ?_
        exact g_sub [1, 2, 3, 4, 5, 0] rfl (ih x19 (x20 + (-1)) s35 hf)

set_option maxHeartbeats 4000000 in
set_option maxRecDepth 100000 in
theorem w_X6_middle_L29 {E : GE} {cs : CS} {ad : Nat → Nat} {F : Nat} {a1 : Int32} {r : (Int64 × SO)} (hty : eT E = tyA cs) (hr : Rl E kX6_middle r.1 (wO cs ad r.2)) : ∀ (n : Nat) (x8 : Int32) (x9 : Int32) (s10 : SO), f_X6_middle_L29 F a1 n x8 x9 s10 = some r → G E kX6_middle 0 0 29 [(0, .ref (ad 0)), (1, .int a1), (2, .int x8), (3, .int x9)] [] (wO cs ad s10) := by
  intro n
  induction n with
  | zero =>
    intro x8 x9 s10 hf
    cases (show (none : Option (Int64 × SO)) = some r from hf)
  | succ n ih =>
    intro x8 x9 s10 hf
    rw [f_X6_middle_L29] at hf
    refine g_iload_n 3 dX6_middle_29 rfl rfl ?_
    refine g_aload_n 0 dX6_middle_30 rfl rfl ?_
    refine g_get (ci := 6) (T := TX6) (N := 29) 0 2 (.ref (ad 1)) dX6_middle_31 iX6_middle_X6 rfl jX6_middle_7 (by decide) wlaO_0 rfl ?_
    refine g_sipush (v := (181 : Int32)) dX6_middle_34 (by decide) ?_
    obtain ⟨h11, hf⟩ := ochi_some hf
    refine g_iald 1 0 dX6_middle_37 wlaO_1 (tI hty) h11 ?_
    refine g_icmp_ge (tgt := 126) dX6_middle_38 (by decide) (fun h12 => ?_) (fun h12 => ?_)
    · have hf := ift h12 hf
      refine g_aload_n 0 dX6_middle_126 rfl rfl ?_
      refine g_get (ci := 6) (T := TX6) (N := 29) 0 25 (.ref (ad 14)) dX6_middle_127 iX6_middle_X6 rfl jX6_middle_51 (by decide) wlaO_0 rfl ?_
      refine g_iload_n 2 dX6_middle_130 rfl rfl ?_
      refine g_iconst (v := (1 : Int32)) dX6_middle_131 (by decide) ?_
      refine g_isub dX6_middle_132 ?_
      refine g_iconst (v := (2 : Int32)) dX6_middle_133 (by decide) ?_
      obtain ⟨h13, hf⟩ := ochk_some hf
      refine g_idiv dX6_middle_134 h13 ?_
      obtain ⟨h14, hf⟩ := ochi_some hf
      refine g_iald 14 0 dX6_middle_135 wlaO_14 (tI hty) h14 ?_
      refine g_i2l dX6_middle_136 ?_
      obtain rfl := Option.some.inj hf
      exact hr _ _ dX6_middle_137
    · have hf := iff_ h12 hf
      refine g_aload_n 0 dX6_middle_41 rfl rfl ?_
      refine g_get (ci := 6) (T := TX6) (N := 29) 0 2 (.ref (ad 1)) dX6_middle_42 iX6_middle_X6 rfl jX6_middle_7 (by decide) wlaO_0 rfl ?_
      refine g_sipush (v := (182 : Int32)) dX6_middle_45 (by decide) ?_
      refine g_iconst (v := (4 : Int32)) dX6_middle_48 (by decide) ?_
      refine g_iload_n 3 dX6_middle_49 rfl rfl ?_
      refine g_imul dX6_middle_50 ?_
      refine g_iadd dX6_middle_51 ?_
      obtain ⟨h15, hf⟩ := ochi_some hf
      refine g_iald 1 0 dX6_middle_52 wlaO_1 (tI hty) h15 ?_
      refine g_iload_n 1 dX6_middle_53 rfl rfl ?_
      refine g_icmp_ne (tgt := 120) dX6_middle_54 (by decide) (fun h16 => ?_) (fun h16 => ?_)
      · have hf := iff_ h16 hf
        refine g_iinc (lv2 := [(3, .int (x9 + 1)), (0, .ref (ad 0)), (1, .int a1), (2, .int x8)]) 3 dX6_middle_120 rfl (ii1 _) (by decide) rfl ?_
        refine g_goto (tgt := 29) dX6_middle_123 (by decide) ?_
        exact g_sub [1, 2, 3, 0] rfl (ih x8 (x9 + 1) s10 hf)
      · have hf := ift h16 hf
        refine g_aload_n 0 dX6_middle_57 rfl rfl ?_
        refine g_iload_n 3 dX6_middle_58 rfl rfl ?_
        obtain ⟨v17, hc18, hf⟩ := obd_some hf
        refine g_callVi (ci := 6) (As := [.int x9]) (rest := []) (w2 := (wO cs ad s10)) 0 dX6_middle_59 vX6_middle_251 (c_X6_offOf ad hty hc18) rfl (mid0 _) rfl rfl 0 wlaO_0 rfl (Nat.le_of_ble_eq_true rfl) ⟨Nat.zero_le _, Nat.zero_le _⟩ (mid2 _ _) ?_
        refine g_istore (lv2 := [(4, .int v17), (0, .ref (ad 0)), (1, .int a1), (2, .int x8), (3, .int x9)]) dX6_middle_62 (by decide) rfl ?_
        refine g_iload_n 3 dX6_middle_64 rfl rfl ?_
        refine g_istore (lv2 := [(5, .int x8), (4, .int v17), (0, .ref (ad 0)), (1, .int a1), (2, .int x8), (3, .int x9)]) dX6_middle_65 (by decide) rfl ?_
        exact g_sub [2, 3, 4, 5, 1, 0] rfl (w_X6_middle_L67 hty hr ih F x8 x8 s10 hf)

set_option maxHeartbeats 4000000 in
set_option maxRecDepth 100000 in
theorem c_X6_middle {l : Launch} {D : va_G} {tys : List (ClassId × FieldType)} {X : XT} {cs : CS} (ad : Nat → Nat) {F : Nat} {s : SO} {a1 : Int32} {r : (Int64 × SO)} (htyM : tys = tyA cs) (hf : f_X6_middle F s a1 = some r) : Cl l D tys X yX6_middle wsX6_middle rmX6_middle [.ref (ad 0), .int a1] (wO cs ad s) r.1 (wO cs ad r.2) := by
  refine Cl_ofG (by decide +kernel) rfl (Nat.le_of_ble_eq_true rfl) (fun E _ _ hty0 hX0 hr => ?_)
  have hty := hty0.trans htyM
  have hr : Rl E kX6_middle r.1 (wO cs ad r.2) := hr
  show G E kX6_middle 0 0 0 [(0, .ref (ad 0)), (1, .int a1)] [] (wO cs ad s)
  unfold f_X6_middle at hf
  refine g_aload_n 0 dX6_middle_0 rfl rfl ?_
  refine g_iconst (v := (0 : Int32)) dX6_middle_1 (by decide) ?_
  obtain ⟨s1, e_s1, hf⟩ := olt_some hf
  refine g_put (ci := 6) (T := TX6) (N := 29) (ty := .int) (w2 := (wO cs ad s1)) 0 0 (.int (0 : Int32)) tyX6 dX6_middle_2 iX6_middle_X6 tyX6_ok nmX6 rfl jX6_middle_54 (by decide) rfl rfl rfl rfl wlaO_0 (Nat.le_of_ble_eq_true rfl) (wlpO_0_0.trans (congrArg (wO cs ad) e_s1)) ?_
  refine g_aload_n 0 dX6_middle_5 rfl rfl ?_
  refine g_iload_n 1 dX6_middle_6 rfl rfl ?_
  obtain ⟨v2, hc3, hf⟩ := obd_some hf
  refine g_callVi (ci := 6) (As := [.int a1]) (rest := []) (w2 := (wO cs ad s1)) 0 dX6_middle_7 vX6_middle_158 (c_X6_isStall ad hty hc3) rfl (mid0 _) rfl rfl 0 wlaO_0 rfl (Nat.le_of_ble_eq_true rfl) ⟨Nat.zero_le _, Nat.zero_le _⟩ (mid2 _ _) ?_
  refine g_if_eq (tgt := 21) dX6_middle_10 (by decide) (fun h4 => ?_) (fun h4 => ?_)
  · have hf := ift h4 hf
    refine g_ldc2 (v := (-1000000000000000000 : Int64)) dX6_middle_21 qX6_middle_189 ?_
    obtain rfl := Option.some.inj hf
    exact hr _ _ dX6_middle_24
  · have hf := iff_ h4 hf
    refine g_aload_n 0 dX6_middle_13 rfl rfl ?_
    refine g_iload_n 1 dX6_middle_14 rfl rfl ?_
    obtain ⟨v5, hc6, hf⟩ := obd_some hf
    refine g_callVi (ci := 6) (As := [.int a1]) (rest := []) (w2 := (wO cs ad s1)) 0 dX6_middle_15 vX6_middle_164 (c_X6_trialsOf ad hty hc6) rfl (mid0 _) rfl rfl 0 wlaO_0 rfl (Nat.le_of_ble_eq_true rfl) ⟨Nat.zero_le _, Nat.zero_le _⟩ (mid2 _ _) ?_
    refine g_if_ne (tgt := 25) dX6_middle_18 (by decide) (fun h7 => ?_) (fun h7 => ?_)
    · have hf := iff_ h7 hf
      refine g_iconst (v := (0 : Int32)) dX6_middle_25 (by decide) ?_
      refine g_istore_n (lv2 := [(2, .int (0 : Int32)), (0, .ref (ad 0)), (1, .int a1)]) dX6_middle_26 rfl (by decide) rfl ?_
      refine g_iconst (v := (0 : Int32)) dX6_middle_27 (by decide) ?_
      refine g_istore_n (lv2 := [(3, .int (0 : Int32)), (2, .int (0 : Int32)), (0, .ref (ad 0)), (1, .int a1)]) dX6_middle_28 rfl (by decide) rfl ?_
      exact g_sub [2, 3, 1, 0] rfl (w_X6_middle_L29 hty hr F (0 : Int32) (0 : Int32) s1 hf)
    · have hf := ift h7 hf
      refine g_ldc2 (v := (-1000000000000000000 : Int64)) dX6_middle_21 qX6_middle_189 ?_
      obtain rfl := Option.some.inj hf
      exact hr _ _ dX6_middle_24

-- ThumbScaleModel drift (II)J
def rmX6_drift : Room := { frames := 3, cells := 0, slots := 0, locals := 76 }
def kX6_drift : MK := (cX6_drift, 16, RX6, wsX6_drift, (some .long), rmX6_drift)

set_option maxRecDepth 20000 in
theorem jX6_drift_54 : Cond.fieldLink RX6 54 (TX6 0).1 (TX6 0).2.1 (TX6 0).2.2.1 ∈ wsX6_drift := by decide +kernel
set_option maxRecDepth 20000 in
theorem iX6_drift_X6 : ∀ x ∈ u_ws RX6 TX6 29, x ∈ wsX6_drift := by decide +kernel
set_option maxRecDepth 20000 in
theorem vX6_drift_158 : KV kX6_drift 158 RX6 yX6_isStall wsX6_isStall rmX6_isStall 1 := ⟨_, _, _, _, gX6_drift_X6_isStall, rfl, rfl, rfl, by decide +kernel, ⟨by decide, by decide⟩⟩
set_option maxRecDepth 20000 in
theorem qX6_drift_189 : Cond.constantLong RX6 189 (-1000000000000000000 : Int64) ∈ wsX6_drift := by decide +kernel
set_option maxRecDepth 20000 in
theorem vX6_drift_61 : KS kX6_drift 61 yX6_in wsX6_in rmX6_in 3 := ⟨_, _, _, _, gX6_drift_X6_in, rfl, rfl, rfl, by decide +kernel, ⟨by decide, by decide⟩⟩
set_option maxRecDepth 20000 in
theorem jX6_drift_7 : Cond.fieldLink RX6 7 (TX6 2).1 (TX6 2).2.1 (TX6 2).2.2.1 ∈ wsX6_drift := by decide +kernel
set_option maxRecDepth 20000 in
theorem vX6_drift_221 : KS kX6_drift 221 yX6_part wsX6_part rmX6_part 3 := ⟨_, _, _, _, gX6_drift_X6_part, rfl, rfl, rfl, by decide +kernel, ⟨by decide, by decide⟩⟩
set_option maxRecDepth 20000 in
theorem vX6_drift_251 : KV kX6_drift 251 RX6 yX6_offOf wsX6_offOf rmX6_offOf 1 := ⟨_, _, _, _, gX6_drift_X6_offOf, rfl, rfl, rfl, by decide +kernel, ⟨by decide, by decide⟩⟩
def f_X6_drift_L43 (F : Nat) (a1 : Int32) (a2 : Int32) (s14 : SO) : Nat → Int64 → Int64 → Int64 → Int64 → Int64 → Int32 → Option (Int64 × SO)
  | 0, _, _, _, _, _, _ => none
  | n + 1, x8, x9, x10, x11, x12, x13 =>
    ochi (181 : Int32) 264 (
    (if ((O_s s14) (Int32.toNatClampNeg (181 : Int32))) ≤ x13 then
    (if (lg_cmp ((x8 * x11) - (x9 * x9)) (0 : Int64)) = 0 then
    some ((-1000000000000000000 : Int64), s14)
    else
    obd (f_X6_part F ((x8 * x12) - (x9 * x10)) ((x8 * x11) - (x9 * x9)) a2) (fun v18 =>
    some (v18, s14)))
    else
    ochi ((182 : Int32) + ((4 : Int32) * x13)) 264 (
    (if ((O_s s14) (Int32.toNatClampNeg ((182 : Int32) + ((4 : Int32) * x13)))) = a1 then
    ochi (((182 : Int32) + ((4 : Int32) * x13)) + (1 : Int32)) 264 (
    olt (Int32.toInt64 ((O_s s14) (Int32.toNatClampNeg (((182 : Int32) + ((4 : Int32) * x13)) + (1 : Int32))))) (fun z23 =>
    obd (f_X6_offOf F s14 x13) (fun v24 =>
    obd (f_X6_offOf F s14 x13) (fun v26 =>
    f_X6_drift_L43 F a1 a2 s14 n (x8 + (1 : Int64)) (x9 + z23) (x10 + (Int32.toInt64 v24)) (x11 + (z23 * z23)) (x12 + (z23 * (Int32.toInt64 v26))) (x13 + 1)))))
    else
    f_X6_drift_L43 F a1 a2 s14 n x8 x9 x10 x11 x12 (x13 + 1)))))

def f_X6_drift (F : Nat) (s : SO) (a1 : Int32) (a2 : Int32) : Option (Int64 × SO) :=
    olt (uO_thrown s (0 : Int32)) (fun s1 =>
    obd (f_X6_isStall F s1 a1) (fun v2 =>
    (if v2 = 0 then
    some ((-1000000000000000000 : Int64), s1)
    else
    obd (f_X6_in F a2 (0 : Int32) (1 : Int32)) (fun v5 =>
    (if v5 = 0 then
    some ((-1000000000000000000 : Int64), s1)
    else
    f_X6_drift_L43 F a1 a2 s1 F (0 : Int64) (0 : Int64) (0 : Int64) (0 : Int64) (0 : Int64) (0 : Int32))))))

set_option maxHeartbeats 4000000 in
set_option maxRecDepth 100000 in
theorem w_X6_drift_L43 {E : GE} {cs : CS} {ad : Nat → Nat} {F : Nat} {a1 : Int32} {a2 : Int32} {s14 : SO} {r : (Int64 × SO)} (hty : eT E = tyA cs) (hr : Rl E kX6_drift r.1 (wO cs ad r.2)) : ∀ (n : Nat) (x8 : Int64) (x9 : Int64) (x10 : Int64) (x11 : Int64) (x12 : Int64) (x13 : Int32), f_X6_drift_L43 F a1 a2 s14 n x8 x9 x10 x11 x12 x13 = some r → G E kX6_drift 0 0 43 [(0, .ref (ad 0)), (1, .int a1), (2, .int a2), (3, .long x8), (5, .long x9), (7, .long x10), (9, .long x11), (11, .long x12), (13, .int x13)] [] (wO cs ad s14) := by
  intro n
  induction n with
  | zero =>
    intro x8 x9 x10 x11 x12 x13 hf
    cases (show (none : Option (Int64 × SO)) = some r from hf)
  | succ n ih =>
    intro x8 x9 x10 x11 x12 x13 hf
    rw [f_X6_drift_L43] at hf
    refine g_iload 8 dX6_drift_43 rfl ?_
    refine g_aload_n 0 dX6_drift_45 rfl rfl ?_
    refine g_get (ci := 6) (T := TX6) (N := 29) 0 2 (.ref (ad 1)) dX6_drift_46 iX6_drift_X6 rfl jX6_drift_7 (by decide) wlaO_0 rfl ?_
    refine g_sipush (v := (181 : Int32)) dX6_drift_49 (by decide) ?_
    obtain ⟨h15, hf⟩ := ochi_some hf
    refine g_iald 1 0 dX6_drift_52 wlaO_1 (tI hty) h15 ?_
    refine g_icmp_ge (tgt := 145) dX6_drift_53 (by decide) (fun h16 => ?_) (fun h16 => ?_)
    · have hf := ift h16 hf
      refine g_lload_n 3 dX6_drift_145 rfl rfl ?_
      refine g_lload 6 dX6_drift_146 rfl ?_
      refine g_lmul dX6_drift_148 ?_
      refine g_lload 4 dX6_drift_149 rfl ?_
      refine g_lload 4 dX6_drift_151 rfl ?_
      refine g_lmul dX6_drift_153 ?_
      refine g_lsub dX6_drift_154 ?_
      refine g_lstore (lv2 := [(13, .long ((x8 * x11) - (x9 * x9))), (0, .ref (ad 0)), (1, .int a1), (2, .int a2), (3, .long x8), (5, .long x9), (7, .long x10), (9, .long x11), (11, .long x12)]) dX6_drift_155 (by decide) rfl ?_
      refine g_lload 0 dX6_drift_157 rfl ?_
      refine g_lconst (v := (0 : Int64)) dX6_drift_159 (by decide) ?_
      refine g_lcmp dX6_drift_160 ?_
      refine g_if_ne (tgt := 170) dX6_drift_161 (by decide) (fun h17 => ?_) (fun h17 => ?_)
      · have hf := iff_ h17 hf
        refine g_lload_n 4 dX6_drift_170 rfl rfl ?_
        refine g_lload 8 dX6_drift_171 rfl ?_
        refine g_lmul dX6_drift_173 ?_
        refine g_lload 5 dX6_drift_174 rfl ?_
        refine g_lload 6 dX6_drift_176 rfl ?_
        refine g_lmul dX6_drift_178 ?_
        refine g_lsub dX6_drift_179 ?_
        refine g_lload 0 dX6_drift_180 rfl ?_
        refine g_iload_n 3 dX6_drift_182 rfl rfl ?_
        obtain ⟨v18, hc19, hf⟩ := obd_some hf
        refine g_callSl (As := [.long ((x8 * x12) - (x9 * x10)), .long ((x8 * x11) - (x9 * x9)), .int a2]) (rest := []) (w2 := (wO cs ad s14)) 0 dX6_drift_183 vX6_drift_221 (c_X6_part hty hc19) rfl (midm _) rfl (Nat.le_of_ble_eq_true rfl) ⟨Nat.zero_le _, Nat.zero_le _⟩ (midn _) ?_
        obtain rfl := Option.some.inj hf
        exact hr _ _ dX6_drift_186
      · have hf := ift h17 hf
        refine g_ldc2 (v := (-1000000000000000000 : Int64)) dX6_drift_164 qX6_drift_189 ?_
        refine g_goto (tgt := 186) dX6_drift_167 (by decide) ?_
        obtain rfl := Option.some.inj hf
        exact hr _ _ dX6_drift_186
    · have hf := iff_ h16 hf
      refine g_aload_n 0 dX6_drift_56 rfl rfl ?_
      refine g_get (ci := 6) (T := TX6) (N := 29) 0 2 (.ref (ad 1)) dX6_drift_57 iX6_drift_X6 rfl jX6_drift_7 (by decide) wlaO_0 rfl ?_
      refine g_sipush (v := (182 : Int32)) dX6_drift_60 (by decide) ?_
      refine g_iconst (v := (4 : Int32)) dX6_drift_63 (by decide) ?_
      refine g_iload 8 dX6_drift_64 rfl ?_
      refine g_imul dX6_drift_66 ?_
      refine g_iadd dX6_drift_67 ?_
      obtain ⟨h20, hf⟩ := ochi_some hf
      refine g_iald 1 0 dX6_drift_68 wlaO_1 (tI hty) h20 ?_
      refine g_iload_n 1 dX6_drift_69 rfl rfl ?_
      refine g_icmp_ne (tgt := 139) dX6_drift_70 (by decide) (fun h21 => ?_) (fun h21 => ?_)
      · have hf := iff_ h21 hf
        refine g_iinc (lv2 := [(13, .int (x13 + 1)), (0, .ref (ad 0)), (1, .int a1), (2, .int a2), (3, .long x8), (5, .long x9), (7, .long x10), (9, .long x11), (11, .long x12)]) 8 dX6_drift_139 rfl (ii1 _) (by decide) rfl ?_
        refine g_goto (tgt := 43) dX6_drift_142 (by decide) ?_
        exact g_sub [1, 2, 3, 4, 5, 6, 7, 8, 0] rfl (ih x8 x9 x10 x11 x12 (x13 + 1) hf)
      · have hf := ift h21 hf
        refine g_aload_n 0 dX6_drift_73 rfl rfl ?_
        refine g_get (ci := 6) (T := TX6) (N := 29) 0 2 (.ref (ad 1)) dX6_drift_74 iX6_drift_X6 rfl jX6_drift_7 (by decide) wlaO_0 rfl ?_
        refine g_sipush (v := (182 : Int32)) dX6_drift_77 (by decide) ?_
        refine g_iconst (v := (4 : Int32)) dX6_drift_80 (by decide) ?_
        refine g_iload 8 dX6_drift_81 rfl ?_
        refine g_imul dX6_drift_83 ?_
        refine g_iadd dX6_drift_84 ?_
        refine g_iconst (v := (1 : Int32)) dX6_drift_85 (by decide) ?_
        refine g_iadd dX6_drift_86 ?_
        obtain ⟨h22, hf⟩ := ochi_some hf
        refine g_iald 1 0 dX6_drift_87 wlaO_1 (tI hty) h22 ?_
        refine g_i2l dX6_drift_88 ?_
        obtain ⟨z23, e_z23, hf⟩ := olt_some hf
        refine g_cast rfl rfl (congrArg (fun q => Value.long q :: []) e_z23) rfl ?_
        refine g_lstore (lv2 := [(14, .long z23), (0, .ref (ad 0)), (1, .int a1), (2, .int a2), (3, .long x8), (5, .long x9), (7, .long x10), (9, .long x11), (11, .long x12), (13, .int x13)]) dX6_drift_89 (by decide) rfl ?_
        refine g_lload_n 4 dX6_drift_91 rfl rfl ?_
        refine g_lconst (v := (1 : Int64)) dX6_drift_92 (by decide) ?_
        refine g_ladd dX6_drift_93 ?_
        refine g_lstore_n (lv2 := [(3, .long (x8 + (1 : Int64))), (14, .long z23), (0, .ref (ad 0)), (1, .int a1), (2, .int a2), (5, .long x9), (7, .long x10), (9, .long x11), (11, .long x12), (13, .int x13)]) dX6_drift_94 rfl (by decide) rfl ?_
        refine g_lload 5 dX6_drift_95 rfl ?_
        refine g_lload 1 dX6_drift_97 rfl ?_
        refine g_ladd dX6_drift_99 ?_
        refine g_lstore (lv2 := [(5, .long (x9 + z23)), (3, .long (x8 + (1 : Int64))), (14, .long z23), (0, .ref (ad 0)), (1, .int a1), (2, .int a2), (7, .long x10), (9, .long x11), (11, .long x12), (13, .int x13)]) dX6_drift_100 (by decide) rfl ?_
        refine g_lload 6 dX6_drift_102 rfl ?_
        refine g_aload_n 3 dX6_drift_104 rfl rfl ?_
        refine g_iload 9 dX6_drift_105 rfl ?_
        obtain ⟨v24, hc25, hf⟩ := obd_some hf
        refine g_callVi (ci := 6) (As := [.int x13]) (rest := [.long x10]) (w2 := (wO cs ad s14)) 0 dX6_drift_107 vX6_drift_251 (c_X6_offOf ad hty hc25) rfl (mid0 _) rfl rfl 0 wlaO_0 rfl (Nat.le_of_ble_eq_true rfl) ⟨Nat.zero_le _, Nat.zero_le _⟩ (mid2 _ _) ?_
        refine g_i2l dX6_drift_110 ?_
        refine g_ladd dX6_drift_111 ?_
        refine g_lstore (lv2 := [(7, .long (x10 + (Int32.toInt64 v24))), (5, .long (x9 + z23)), (3, .long (x8 + (1 : Int64))), (14, .long z23), (0, .ref (ad 0)), (1, .int a1), (2, .int a2), (9, .long x11), (11, .long x12), (13, .int x13)]) dX6_drift_112 (by decide) rfl ?_
        refine g_lload 7 dX6_drift_114 rfl ?_
        refine g_lload 3 dX6_drift_116 rfl ?_
        refine g_lload 3 dX6_drift_118 rfl ?_
        refine g_lmul dX6_drift_120 ?_
        refine g_ladd dX6_drift_121 ?_
        refine g_lstore (lv2 := [(9, .long (x11 + (z23 * z23))), (7, .long (x10 + (Int32.toInt64 v24))), (5, .long (x9 + z23)), (3, .long (x8 + (1 : Int64))), (14, .long z23), (0, .ref (ad 0)), (1, .int a1), (2, .int a2), (11, .long x12), (13, .int x13)]) dX6_drift_122 (by decide) rfl ?_
        refine g_lload 8 dX6_drift_124 rfl ?_
        refine g_lload 4 dX6_drift_126 rfl ?_
        refine g_aload_n 5 dX6_drift_128 rfl rfl ?_
        refine g_iload 9 dX6_drift_129 rfl ?_
        obtain ⟨v26, hc27, hf⟩ := obd_some hf
        refine g_callVi (ci := 6) (As := [.int x13]) (rest := [.long z23, .long x12]) (w2 := (wO cs ad s14)) 0 dX6_drift_131 vX6_drift_251 (c_X6_offOf ad hty hc27) rfl (mid0 _) rfl rfl 0 wlaO_0 rfl (Nat.le_of_ble_eq_true rfl) ⟨Nat.zero_le _, Nat.zero_le _⟩ (mid2 _ _) ?_
        refine g_i2l dX6_drift_134 ?_
        refine g_lmul dX6_drift_135 ?_
        refine g_ladd dX6_drift_136 ?_
        refine g_lstore (lv2 := [(11, .long (x12 + (z23 * (Int32.toInt64 v26)))), (9, .long (x11 + (z23 * z23))), (7, .long (x10 + (Int32.toInt64 v24))), (5, .long (x9 + z23)), (3, .long (x8 + (1 : Int64))), (14, .long z23), (0, .ref (ad 0)), (1, .int a1), (2, .int a2), (13, .int x13)]) dX6_drift_137 (by decide) rfl ?_
        refine g_iinc (lv2 := [(13, .int (x13 + 1)), (11, .long (x12 + (z23 * (Int32.toInt64 v26)))), (9, .long (x11 + (z23 * z23))), (7, .long (x10 + (Int32.toInt64 v24))), (5, .long (x9 + z23)), (3, .long (x8 + (1 : Int64))), (14, .long z23), (0, .ref (ad 0)), (1, .int a1), (2, .int a2)]) 9 dX6_drift_139 rfl (ii1 _) (by decide) rfl ?_
        refine g_goto (tgt := 43) dX6_drift_142 (by decide) ?_
        exact g_sub [7, 8, 9, 5, 4, 3, 2, 1, 0] rfl (ih (x8 + (1 : Int64)) (x9 + z23) (x10 + (Int32.toInt64 v24)) (x11 + (z23 * z23)) (x12 + (z23 * (Int32.toInt64 v26))) (x13 + 1) hf)

set_option maxHeartbeats 4000000 in
set_option maxRecDepth 100000 in
theorem c_X6_drift {l : Launch} {D : va_G} {tys : List (ClassId × FieldType)} {X : XT} {cs : CS} (ad : Nat → Nat) {F : Nat} {s : SO} {a1 : Int32} {a2 : Int32} {r : (Int64 × SO)} (htyM : tys = tyA cs) (hf : f_X6_drift F s a1 a2 = some r) : Cl l D tys X yX6_drift wsX6_drift rmX6_drift [.ref (ad 0), .int a1, .int a2] (wO cs ad s) r.1 (wO cs ad r.2) := by
  refine Cl_ofG (by decide +kernel) rfl (Nat.le_of_ble_eq_true rfl) (fun E _ _ hty0 hX0 hr => ?_)
  have hty := hty0.trans htyM
  have hr : Rl E kX6_drift r.1 (wO cs ad r.2) := hr
  show G E kX6_drift 0 0 0 [(0, .ref (ad 0)), (1, .int a1), (2, .int a2)] [] (wO cs ad s)
  unfold f_X6_drift at hf
  refine g_aload_n 0 dX6_drift_0 rfl rfl ?_
  refine g_iconst (v := (0 : Int32)) dX6_drift_1 (by decide) ?_
  obtain ⟨s1, e_s1, hf⟩ := olt_some hf
  refine g_put (ci := 6) (T := TX6) (N := 29) (ty := .int) (w2 := (wO cs ad s1)) 0 0 (.int (0 : Int32)) tyX6 dX6_drift_2 iX6_drift_X6 tyX6_ok nmX6 rfl jX6_drift_54 (by decide) rfl rfl rfl rfl wlaO_0 (Nat.le_of_ble_eq_true rfl) (wlpO_0_0.trans (congrArg (wO cs ad) e_s1)) ?_
  refine g_aload_n 0 dX6_drift_5 rfl rfl ?_
  refine g_iload_n 1 dX6_drift_6 rfl rfl ?_
  obtain ⟨v2, hc3, hf⟩ := obd_some hf
  refine g_callVi (ci := 6) (As := [.int a1]) (rest := []) (w2 := (wO cs ad s1)) 0 dX6_drift_7 vX6_drift_158 (c_X6_isStall ad hty hc3) rfl (mid0 _) rfl rfl 0 wlaO_0 rfl (Nat.le_of_ble_eq_true rfl) ⟨Nat.zero_le _, Nat.zero_le _⟩ (mid2 _ _) ?_
  refine g_if_eq (tgt := 22) dX6_drift_10 (by decide) (fun h4 => ?_) (fun h4 => ?_)
  · have hf := ift h4 hf
    refine g_ldc2 (v := (-1000000000000000000 : Int64)) dX6_drift_22 qX6_drift_189 ?_
    obtain rfl := Option.some.inj hf
    exact hr _ _ dX6_drift_25
  · have hf := iff_ h4 hf
    refine g_iload_n 2 dX6_drift_13 rfl rfl ?_
    refine g_iconst (v := (0 : Int32)) dX6_drift_14 (by decide) ?_
    refine g_iconst (v := (1 : Int32)) dX6_drift_15 (by decide) ?_
    obtain ⟨v5, hc6, hf⟩ := obd_some hf
    refine g_callSi (As := [.int a2, .int (0 : Int32), .int (1 : Int32)]) (rest := []) (w2 := (wO cs ad s1)) 0 dX6_drift_16 vX6_drift_61 (c_X6_in hty hc6) rfl (midm _) rfl (Nat.le_of_ble_eq_true rfl) ⟨Nat.zero_le _, Nat.zero_le _⟩ (midn _) ?_
    refine g_if_ne (tgt := 26) dX6_drift_19 (by decide) (fun h7 => ?_) (fun h7 => ?_)
    · have hf := iff_ h7 hf
      refine g_lconst (v := (0 : Int64)) dX6_drift_26 (by decide) ?_
      refine g_lstore_n (lv2 := [(3, .long (0 : Int64)), (0, .ref (ad 0)), (1, .int a1), (2, .int a2)]) dX6_drift_27 rfl (by decide) rfl ?_
      refine g_lconst (v := (0 : Int64)) dX6_drift_28 (by decide) ?_
      refine g_lstore (lv2 := [(5, .long (0 : Int64)), (3, .long (0 : Int64)), (0, .ref (ad 0)), (1, .int a1), (2, .int a2)]) dX6_drift_29 (by decide) rfl ?_
      refine g_lconst (v := (0 : Int64)) dX6_drift_31 (by decide) ?_
      refine g_lstore (lv2 := [(7, .long (0 : Int64)), (5, .long (0 : Int64)), (3, .long (0 : Int64)), (0, .ref (ad 0)), (1, .int a1), (2, .int a2)]) dX6_drift_32 (by decide) rfl ?_
      refine g_lconst (v := (0 : Int64)) dX6_drift_34 (by decide) ?_
      refine g_lstore (lv2 := [(9, .long (0 : Int64)), (7, .long (0 : Int64)), (5, .long (0 : Int64)), (3, .long (0 : Int64)), (0, .ref (ad 0)), (1, .int a1), (2, .int a2)]) dX6_drift_35 (by decide) rfl ?_
      refine g_lconst (v := (0 : Int64)) dX6_drift_37 (by decide) ?_
      refine g_lstore (lv2 := [(11, .long (0 : Int64)), (9, .long (0 : Int64)), (7, .long (0 : Int64)), (5, .long (0 : Int64)), (3, .long (0 : Int64)), (0, .ref (ad 0)), (1, .int a1), (2, .int a2)]) dX6_drift_38 (by decide) rfl ?_
      refine g_iconst (v := (0 : Int32)) dX6_drift_40 (by decide) ?_
      refine g_istore (lv2 := [(13, .int (0 : Int32)), (11, .long (0 : Int64)), (9, .long (0 : Int64)), (7, .long (0 : Int64)), (5, .long (0 : Int64)), (3, .long (0 : Int64)), (0, .ref (ad 0)), (1, .int a1), (2, .int a2)]) dX6_drift_41 (by decide) rfl ?_
      exact g_sub [6, 7, 8, 5, 4, 3, 2, 1, 0] rfl (w_X6_drift_L43 hty hr F (0 : Int64) (0 : Int64) (0 : Int64) (0 : Int64) (0 : Int64) (0 : Int32) hf)
    · have hf := ift h7 hf
      refine g_ldc2 (v := (-1000000000000000000 : Int64)) dX6_drift_22 qX6_drift_189 ?_
      obtain rfl := Option.some.inj hf
      exact hr _ _ dX6_drift_25

-- ThumbScaleModel lot (I)I
def rmX6_lot : Room := { frames := 0, cells := 0, slots := 0, locals := 0 }
def kX6_lot : MK := (cX6_lot, 3, RX6, wsX6_lot, (some .int), rmX6_lot)

set_option maxRecDepth 20000 in
theorem jX6_lot_54 : Cond.fieldLink RX6 54 (TX6 0).1 (TX6 0).2.1 (TX6 0).2.2.1 ∈ wsX6_lot := by decide +kernel
set_option maxRecDepth 20000 in
theorem iX6_lot_X6 : ∀ x ∈ u_ws RX6 TX6 29, x ∈ wsX6_lot := by decide +kernel
set_option maxRecDepth 20000 in
theorem jX6_lot_7 : Cond.fieldLink RX6 7 (TX6 2).1 (TX6 2).2.1 (TX6 2).2.2.1 ∈ wsX6_lot := by decide +kernel
def f_X6_lot (F : Nat) (s : SO) (a1 : Int32) : Option (Int32 × SO) :=
    olt (uO_thrown s (0 : Int32)) (fun s1 =>
    ochi (263 : Int32) 264 (
    olt ((O_s s1) (Int32.toNatClampNeg (263 : Int32))) (fun z3 =>
    ochi (263 : Int32) 264 (olt (uO_s s1 (upd (O_s s1) (Int32.toNatClampNeg (263 : Int32)) a1)) (fun s5 =>
    some (z3, s5))))))

set_option maxHeartbeats 4000000 in
set_option maxRecDepth 100000 in
theorem c_X6_lot {l : Launch} {D : va_G} {tys : List (ClassId × FieldType)} {X : XT} {cs : CS} (ad : Nat → Nat) {F : Nat} {s : SO} {a1 : Int32} {r : (Int32 × SO)} (htyM : tys = tyA cs) (hf : f_X6_lot F s a1 = some r) : Ci l D tys X yX6_lot wsX6_lot rmX6_lot [.ref (ad 0), .int a1] (wO cs ad s) r.1 (wO cs ad r.2) := by
  refine Ci_ofG (by decide +kernel) rfl (Nat.le_of_ble_eq_true rfl) .int rfl (vp_nar_int _) (fun E _ _ hty0 hX0 hr => ?_)
  have hty := hty0.trans htyM
  have hr : Ri E kX6_lot r.1 (wO cs ad r.2) := hr
  show G E kX6_lot 0 0 0 [(0, .ref (ad 0)), (1, .int a1)] [] (wO cs ad s)
  unfold f_X6_lot at hf
  refine g_aload_n 0 dX6_lot_0 rfl rfl ?_
  refine g_iconst (v := (0 : Int32)) dX6_lot_1 (by decide) ?_
  obtain ⟨s1, e_s1, hf⟩ := olt_some hf
  refine g_put (ci := 6) (T := TX6) (N := 29) (ty := .int) (w2 := (wO cs ad s1)) 0 0 (.int (0 : Int32)) tyX6 dX6_lot_2 iX6_lot_X6 tyX6_ok nmX6 rfl jX6_lot_54 (by decide) rfl rfl rfl rfl wlaO_0 (Nat.le_of_ble_eq_true rfl) (wlpO_0_0.trans (congrArg (wO cs ad) e_s1)) ?_
  refine g_aload_n 0 dX6_lot_5 rfl rfl ?_
  refine g_get (ci := 6) (T := TX6) (N := 29) 0 2 (.ref (ad 1)) dX6_lot_6 iX6_lot_X6 rfl jX6_lot_7 (by decide) wlaO_0 rfl ?_
  refine g_sipush (v := (263 : Int32)) dX6_lot_9 (by decide) ?_
  obtain ⟨h2, hf⟩ := ochi_some hf
  refine g_iald 1 0 dX6_lot_12 wlaO_1 (tI hty) h2 ?_
  obtain ⟨z3, e_z3, hf⟩ := olt_some hf
  refine g_cast rfl rfl (congrArg (fun q => Value.int q :: []) e_z3) rfl ?_
  refine g_istore_n (lv2 := [(2, .int z3), (0, .ref (ad 0)), (1, .int a1)]) dX6_lot_13 rfl (by decide) rfl ?_
  refine g_aload_n 1 dX6_lot_14 rfl rfl ?_
  refine g_get (ci := 6) (T := TX6) (N := 29) 0 2 (.ref (ad 1)) dX6_lot_15 iX6_lot_X6 rfl jX6_lot_7 (by decide) wlaO_0 rfl ?_
  refine g_sipush (v := (263 : Int32)) dX6_lot_18 (by decide) ?_
  refine g_iload_n 2 dX6_lot_21 rfl rfl ?_
  obtain ⟨h4, hf⟩ := ochi_some hf
  obtain ⟨s5, e_s5, hf⟩ := olt_some hf
  refine g_iast (w2 := (wO cs ad s5)) 1 0 dX6_lot_22 wlaO_1 (tI hty) h4 (wlsO_1.trans (congrArg (wO cs ad) e_s5)) ?_
  refine g_iload_n 0 dX6_lot_23 rfl rfl ?_
  obtain rfl := Option.some.inj hf
  exact hr _ _ dX6_lot_24

-- ThumbScaleModel sales (IIII)I
def rmX6_sales : Room := { frames := 3, cells := 0, slots := 0, locals := 71 }
def kX6_sales : MK := (cX6_sales, 9, RX6, wsX6_sales, (some .int), rmX6_sales)

set_option maxRecDepth 20000 in
theorem jX6_sales_54 : Cond.fieldLink RX6 54 (TX6 0).1 (TX6 0).2.1 (TX6 0).2.2.1 ∈ wsX6_sales := by decide +kernel
set_option maxRecDepth 20000 in
theorem iX6_sales_X6 : ∀ x ∈ u_ws RX6 TX6 29, x ∈ wsX6_sales := by decide +kernel
set_option maxRecDepth 20000 in
theorem vX6_sales_167 : KV kX6_sales 167 RX6 yX6_isWay wsX6_isWay rmX6_isWay 1 := ⟨_, _, _, _, gX6_sales_X6_isWay, rfl, rfl, rfl, by decide +kernel, ⟨by decide, by decide⟩⟩
set_option maxRecDepth 20000 in
theorem vX6_sales_158 : KV kX6_sales 158 RX6 yX6_isStall wsX6_isStall rmX6_isStall 1 := ⟨_, _, _, _, gX6_sales_X6_isStall, rfl, rfl, rfl, by decide +kernel, ⟨by decide, by decide⟩⟩
set_option maxRecDepth 20000 in
theorem vX6_sales_173 : KS kX6_sales 173 yX6_isSort wsX6_isSort rmX6_isSort 1 := ⟨_, _, _, _, gX6_sales_X6_isSort, rfl, rfl, rfl, by decide +kernel, ⟨by decide, by decide⟩⟩
set_option maxRecDepth 20000 in
theorem vX6_sales_61 : KS kX6_sales 61 yX6_in wsX6_in rmX6_in 3 := ⟨_, _, _, _, gX6_sales_X6_in, rfl, rfl, rfl, by decide +kernel, ⟨by decide, by decide⟩⟩
set_option maxRecDepth 20000 in
theorem jX6_sales_254 : Cond.fieldLink RX6 254 (TX6 28).1 (TX6 28).2.1 (TX6 28).2.2.1 ∈ wsX6_sales := by decide +kernel
set_option maxRecDepth 20000 in
theorem jX6_sales_7 : Cond.fieldLink RX6 7 (TX6 2).1 (TX6 2).2.1 (TX6 2).2.2.1 ∈ wsX6_sales := by decide +kernel
set_option maxRecDepth 20000 in
theorem qX6_sales_257 : Cond.constant RX6 257 (1103515245 : Int32) ∈ wsX6_sales := by decide +kernel
set_option maxRecDepth 20000 in
theorem qX6_sales_258 : Cond.constant RX6 258 (65535 : Int32) ∈ wsX6_sales := by decide +kernel
set_option maxRecDepth 20000 in
theorem vX6_sales_176 : KV kX6_sales 176 RX6 yX6_oftenOf wsX6_oftenOf rmX6_oftenOf 4 := ⟨_, _, _, _, gX6_sales_X6_oftenOf, rfl, rfl, rfl, by decide +kernel, ⟨by decide, by decide⟩⟩
def f_X6_sales_L108 (F : Nat) (a1 : Int32) (a2 : Int32) (a3 : Int32) (a4 : Int32) (k53_ : Int32 → Int32 → SO → Option (Int32 × SO)) : Nat → Int32 → Int32 → Int32 → Int32 → SO → Option (Int32 × SO)
  | 0, _, _, _, _, _ => none
  | n + 1, x26, x27, x28, x29, s30 =>
    obd (f_X6_oftenOf F s30 a1 a2 a3 x29) (fun v31 =>
    (if x28 < v31 then
    obd ((if x29 ≤ 0 then
    some (0 : Int32)
    else
    some (1 : Int32))) (fun v35 =>
    olt ((O_soldSteps s30) + x29) (fun z37 =>
    olt (uO_soldSteps s30 z37) (fun s38 =>
    k53_ (x26 + v35) (x27 + 1) s38)))
    else
    obd (f_X6_oftenOf F s30 a1 a2 a3 x29) (fun v39 =>
    f_X6_sales_L108 F a1 a2 a3 a4 k53_ n x26 x27 (x28 - v39) (x29 + 1) s30)))

def f_X6_sales_L53 (F : Nat) (a1 : Int32) (a2 : Int32) (a3 : Int32) (a4 : Int32) : Nat → Int32 → Int32 → SO → Option (Int32 × SO)
  | 0, _, _, _ => none
  | n + 1, x15, x16, s17 =>
    (if a4 ≤ x16 then
    some (x15, s17)
    else
    ochi (263 : Int32) 264 (
    olt ((((O_s s17) (Int32.toNatClampNeg (263 : Int32))) * (1103515245 : Int32)) + (12345 : Int32)) (fun z20 =>
    ochi (263 : Int32) 264 (olt (uO_s s17 (upd (O_s s17) (Int32.toNatClampNeg (263 : Int32)) z20)) (fun s22 =>
    ochi (263 : Int32) 264 (
    ochk (¬ (600 : Int32) = 0) (
    olt (((((O_s s22) (Int32.toNatClampNeg (263 : Int32))) >>> ((16 : Int32) &&& 31)) &&& (65535 : Int32)) - ((((O_s s22) (Int32.toNatClampNeg (263 : Int32))) >>> ((16 : Int32) &&& 31)) &&& (65535 : Int32)) / (600 : Int32) * (600 : Int32)) (fun z25 =>
    f_X6_sales_L108 F a1 a2 a3 a4 (f_X6_sales_L53 F a1 a2 a3 a4 n) F x15 x16 z25 (-1 : Int32) s22))))))))

def f_X6_sales (F : Nat) (s : SO) (a1 : Int32) (a2 : Int32) (a3 : Int32) (a4 : Int32) : Option (Int32 × SO) :=
    olt (uO_thrown s (0 : Int32)) (fun s1 =>
    obd (f_X6_isWay F s1 a1) (fun v2 =>
    (if v2 = 0 then
    some ((-1 : Int32), s1)
    else
    obd (f_X6_isStall F s1 a2) (fun v5 =>
    (if v5 = 0 then
    some ((-1 : Int32), s1)
    else
    obd (f_X6_isSort F a3) (fun v8 =>
    (if v8 = 0 then
    some ((-1 : Int32), s1)
    else
    obd (f_X6_in F a4 (1 : Int32) (200 : Int32)) (fun v11 =>
    (if v11 = 0 then
    some ((-1 : Int32), s1)
    else
    olt (uO_soldSteps s1 (0 : Int32)) (fun s14 =>
    f_X6_sales_L53 F a1 a2 a3 a4 F (0 : Int32) (0 : Int32) s14))))))))))

set_option maxHeartbeats 4000000 in
set_option maxRecDepth 100000 in
theorem w_X6_sales_L108 {E : GE} {cs : CS} {ad : Nat → Nat} {F : Nat} {a1 : Int32} {a2 : Int32} {a3 : Int32} {a4 : Int32} {k53_ : Int32 → Int32 → SO → Option (Int32 × SO)} {r : (Int32 × SO)} (hty : eT E = tyA cs) (hr : Ri E kX6_sales r.1 (wO cs ad r.2)) (K53_ : ∀ (x15 : Int32) (x16 : Int32) (s17 : SO), k53_ x15 x16 s17 = some r → G E kX6_sales 0 0 53 [(0, .ref (ad 0)), (1, .int a1), (2, .int a2), (3, .int a3), (4, .int a4), (5, .int x15), (6, .int x16)] [] (wO cs ad s17)) : ∀ (n : Nat) (x26 : Int32) (x27 : Int32) (x28 : Int32) (x29 : Int32) (s30 : SO), f_X6_sales_L108 F a1 a2 a3 a4 k53_ n x26 x27 x28 x29 s30 = some r → G E kX6_sales 0 0 108 [(0, .ref (ad 0)), (1, .int a1), (2, .int a2), (3, .int a3), (4, .int a4), (5, .int x26), (6, .int x27), (7, .int x28), (8, .int x29)] [] (wO cs ad s30) := by
  intro n
  induction n with
  | zero =>
    intro x26 x27 x28 x29 s30 hf
    cases (show (none : Option (Int32 × SO)) = some r from hf)
  | succ n ih =>
    intro x26 x27 x28 x29 s30 hf
    rw [f_X6_sales_L108] at hf
    refine g_iload 7 dX6_sales_108 rfl ?_
    refine g_aload_n 0 dX6_sales_110 rfl rfl ?_
    refine g_iload_n 1 dX6_sales_111 rfl rfl ?_
    refine g_iload_n 2 dX6_sales_112 rfl rfl ?_
    refine g_iload_n 3 dX6_sales_113 rfl rfl ?_
    refine g_iload 8 dX6_sales_114 rfl ?_
    obtain ⟨v31, hc32, hf⟩ := obd_some hf
    refine g_callVi (ci := 6) (As := [.int a1, .int a2, .int a3, .int x29]) (rest := [.int x28]) (w2 := (wO cs ad s30)) 0 dX6_sales_116 vX6_sales_176 (c_X6_oftenOf ad hty hc32) rfl (mid0 _) rfl rfl 0 wlaO_0 rfl (Nat.le_of_ble_eq_true rfl) ⟨Nat.zero_le _, Nat.zero_le _⟩ (mid2 _ _) ?_
    refine g_icmp_lt (tgt := 142) dX6_sales_119 (by decide) (fun h33 => ?_) (fun h33 => ?_)
    · have hf := ift h33 hf
      refine g_iload 5 dX6_sales_142 rfl ?_
      refine g_iload 8 dX6_sales_144 rfl ?_
      obtain ⟨v35, hE_v35, hf⟩ := obd_some hf
      have J_v35 : G E kX6_sales 0 0 154 [(0, .ref (ad 0)), (1, .int a1), (2, .int a2), (3, .int a3), (4, .int a4), (6, .int x27), (8, .int x29)] [.int v35, .int x26] (wO cs ad s30) := by
        refine g_iadd dX6_sales_154 ?_
        refine g_istore (lv2 := [(5, .int (x26 + v35)), (0, .ref (ad 0)), (1, .int a1), (2, .int a2), (3, .int a3), (4, .int a4), (6, .int x27), (8, .int x29)]) dX6_sales_155 (by decide) rfl ?_
        refine g_aload_n 1 dX6_sales_157 rfl rfl ?_
        refine g_dup dX6_sales_158 rfl ?_
        refine g_get (ci := 6) (T := TX6) (N := 29) 0 28 (.int (O_soldSteps s30)) dX6_sales_159 iX6_sales_X6 rfl jX6_sales_254 (by decide) wlaO_0 rfl ?_
        refine g_iload 7 dX6_sales_162 rfl ?_
        refine g_iadd dX6_sales_164 ?_
        obtain ⟨z37, e_z37, hf⟩ := olt_some hf
        refine g_cast rfl rfl (congrArg (fun q => Value.int q :: [.ref (ad 0)]) e_z37) rfl ?_
        obtain ⟨s38, e_s38, hf⟩ := olt_some hf
        refine g_put (ci := 6) (T := TX6) (N := 29) (ty := .int) (w2 := (wO cs ad s38)) 0 28 (.int z37) tyX6 dX6_sales_165 iX6_sales_X6 tyX6_ok nmX6 rfl jX6_sales_254 (by decide) rfl rfl rfl rfl wlaO_0 (Nat.le_of_ble_eq_true rfl) (wlpO_0_28.trans (congrArg (wO cs ad) e_s38)) ?_
        refine g_iinc (lv2 := [(6, .int (x27 + 1)), (5, .int (x26 + v35)), (0, .ref (ad 0)), (1, .int a1), (2, .int a2), (3, .int a3), (4, .int a4), (8, .int x29)]) 6 dX6_sales_168 rfl (ii1 _) (by decide) rfl ?_
        refine g_goto (tgt := 53) dX6_sales_171 (by decide) ?_
        exact g_sub [2, 3, 4, 5, 6, 1, 0] rfl (K53_ (x26 + v35) (x27 + 1) s38 hf)
      have hf := hE_v35
      refine g_if_le (tgt := 153) dX6_sales_146 (by decide) (fun h36 => ?_) (fun h36 => ?_)
      · have hf := ift h36 hf
        refine g_iconst (v := (0 : Int32)) dX6_sales_153 (by decide) ?_
        obtain rfl := Option.some.inj hf
        exact g_sub [0, 1, 2, 3, 4, 6, 8] rfl J_v35
      · have hf := iff_ h36 hf
        refine g_iconst (v := (1 : Int32)) dX6_sales_149 (by decide) ?_
        refine g_goto (tgt := 154) dX6_sales_150 (by decide) ?_
        obtain rfl := Option.some.inj hf
        exact g_sub [0, 1, 2, 3, 4, 6, 8] rfl J_v35
    · have hf := iff_ h33 hf
      refine g_iload 7 dX6_sales_122 rfl ?_
      refine g_aload_n 0 dX6_sales_124 rfl rfl ?_
      refine g_iload_n 1 dX6_sales_125 rfl rfl ?_
      refine g_iload_n 2 dX6_sales_126 rfl rfl ?_
      refine g_iload_n 3 dX6_sales_127 rfl rfl ?_
      refine g_iload 8 dX6_sales_128 rfl ?_
      obtain ⟨v39, hc40, hf⟩ := obd_some hf
      refine g_callVi (ci := 6) (As := [.int a1, .int a2, .int a3, .int x29]) (rest := [.int x28]) (w2 := (wO cs ad s30)) 0 dX6_sales_130 vX6_sales_176 (c_X6_oftenOf ad hty hc40) rfl (mid0 _) rfl rfl 0 wlaO_0 rfl (Nat.le_of_ble_eq_true rfl) ⟨Nat.zero_le _, Nat.zero_le _⟩ (mid2 _ _) ?_
      refine g_isub dX6_sales_133 ?_
      refine g_istore (lv2 := [(7, .int (x28 - v39)), (0, .ref (ad 0)), (1, .int a1), (2, .int a2), (3, .int a3), (4, .int a4), (5, .int x26), (6, .int x27), (8, .int x29)]) dX6_sales_134 (by decide) rfl ?_
      refine g_iinc (lv2 := [(8, .int (x29 + 1)), (7, .int (x28 - v39)), (0, .ref (ad 0)), (1, .int a1), (2, .int a2), (3, .int a3), (4, .int a4), (5, .int x26), (6, .int x27)]) 8 dX6_sales_136 rfl (ii1 _) (by decide) rfl ?_
      refine g_goto (tgt := 108) dX6_sales_139 (by decide) ?_
      exact g_sub [2, 3, 4, 5, 6, 7, 8, 1, 0] rfl (ih x26 x27 (x28 - v39) (x29 + 1) s30 hf)

set_option maxHeartbeats 4000000 in
set_option maxRecDepth 100000 in
theorem w_X6_sales_L53 {E : GE} {cs : CS} {ad : Nat → Nat} {F : Nat} {a1 : Int32} {a2 : Int32} {a3 : Int32} {a4 : Int32} {r : (Int32 × SO)} (hty : eT E = tyA cs) (hr : Ri E kX6_sales r.1 (wO cs ad r.2)) : ∀ (n : Nat) (x15 : Int32) (x16 : Int32) (s17 : SO), f_X6_sales_L53 F a1 a2 a3 a4 n x15 x16 s17 = some r → G E kX6_sales 0 0 53 [(0, .ref (ad 0)), (1, .int a1), (2, .int a2), (3, .int a3), (4, .int a4), (5, .int x15), (6, .int x16)] [] (wO cs ad s17) := by
  intro n
  induction n with
  | zero =>
    intro x15 x16 s17 hf
    cases (show (none : Option (Int32 × SO)) = some r from hf)
  | succ n ih =>
    intro x15 x16 s17 hf
    rw [f_X6_sales_L53] at hf
    refine g_iload 6 dX6_sales_53 rfl ?_
    refine g_iload 4 dX6_sales_55 rfl ?_
    refine g_icmp_ge (tgt := 174) dX6_sales_57 (by decide) (fun h18 => ?_) (fun h18 => ?_)
    · have hf := ift h18 hf
      refine g_iload 5 dX6_sales_174 rfl ?_
      obtain rfl := Option.some.inj hf
      exact hr _ _ dX6_sales_176
    · have hf := iff_ h18 hf
      refine g_aload_n 0 dX6_sales_60 rfl rfl ?_
      refine g_get (ci := 6) (T := TX6) (N := 29) 0 2 (.ref (ad 1)) dX6_sales_61 iX6_sales_X6 rfl jX6_sales_7 (by decide) wlaO_0 rfl ?_
      refine g_sipush (v := (263 : Int32)) dX6_sales_64 (by decide) ?_
      refine g_aload_n 0 dX6_sales_67 rfl rfl ?_
      refine g_get (ci := 6) (T := TX6) (N := 29) 0 2 (.ref (ad 1)) dX6_sales_68 iX6_sales_X6 rfl jX6_sales_7 (by decide) wlaO_0 rfl ?_
      refine g_sipush (v := (263 : Int32)) dX6_sales_71 (by decide) ?_
      obtain ⟨h19, hf⟩ := ochi_some hf
      refine g_iald 1 0 dX6_sales_74 wlaO_1 (tI hty) h19 ?_
      refine g_ldcw (v := (1103515245 : Int32)) dX6_sales_75 qX6_sales_257 ?_
      refine g_imul dX6_sales_78 ?_
      refine g_sipush (v := (12345 : Int32)) dX6_sales_79 (by decide) ?_
      refine g_iadd dX6_sales_82 ?_
      obtain ⟨z20, e_z20, hf⟩ := olt_some hf
      refine g_cast rfl rfl (congrArg (fun q => Value.int q :: [.int (263 : Int32), .ref (ad 1)]) e_z20) rfl ?_
      obtain ⟨h21, hf⟩ := ochi_some hf
      obtain ⟨s22, e_s22, hf⟩ := olt_some hf
      refine g_iast (w2 := (wO cs ad s22)) 1 0 dX6_sales_83 wlaO_1 (tI hty) h21 (wlsO_1.trans (congrArg (wO cs ad) e_s22)) ?_
      refine g_aload_n 0 dX6_sales_84 rfl rfl ?_
      refine g_get (ci := 6) (T := TX6) (N := 29) 0 2 (.ref (ad 1)) dX6_sales_85 iX6_sales_X6 rfl jX6_sales_7 (by decide) wlaO_0 rfl ?_
      refine g_sipush (v := (263 : Int32)) dX6_sales_88 (by decide) ?_
      obtain ⟨h23, hf⟩ := ochi_some hf
      refine g_iald 1 0 dX6_sales_91 wlaO_1 (tI hty) h23 ?_
      refine g_bipush (v := (16 : Int32)) dX6_sales_92 (by decide) ?_
      refine g_ishr dX6_sales_94 ?_
      refine g_ldcw (v := (65535 : Int32)) dX6_sales_95 qX6_sales_258 ?_
      refine g_iand dX6_sales_98 ?_
      refine g_sipush (v := (600 : Int32)) dX6_sales_99 (by decide) ?_
      obtain ⟨h24, hf⟩ := ochk_some hf
      refine g_irem dX6_sales_102 h24 ?_
      obtain ⟨z25, e_z25, hf⟩ := olt_some hf
      refine g_cast rfl rfl (congrArg (fun q => Value.int q :: []) e_z25) rfl ?_
      refine g_istore (lv2 := [(7, .int z25), (0, .ref (ad 0)), (1, .int a1), (2, .int a2), (3, .int a3), (4, .int a4), (5, .int x15), (6, .int x16)]) dX6_sales_103 (by decide) rfl ?_
      refine g_iconst (v := (-1 : Int32)) dX6_sales_105 (by decide) ?_
      refine g_istore (lv2 := [(8, .int (-1 : Int32)), (7, .int z25), (0, .ref (ad 0)), (1, .int a1), (2, .int a2), (3, .int a3), (4, .int a4), (5, .int x15), (6, .int x16)]) dX6_sales_106 (by decide) rfl ?_
      exact g_sub [2, 3, 4, 5, 6, 7, 8, 1, 0] rfl (w_X6_sales_L108 hty hr ih F x15 x16 z25 (-1 : Int32) s22 hf)

set_option maxHeartbeats 4000000 in
set_option maxRecDepth 100000 in
theorem c_X6_sales {l : Launch} {D : va_G} {tys : List (ClassId × FieldType)} {X : XT} {cs : CS} (ad : Nat → Nat) {F : Nat} {s : SO} {a1 : Int32} {a2 : Int32} {a3 : Int32} {a4 : Int32} {r : (Int32 × SO)} (htyM : tys = tyA cs) (hf : f_X6_sales F s a1 a2 a3 a4 = some r) : Ci l D tys X yX6_sales wsX6_sales rmX6_sales [.ref (ad 0), .int a1, .int a2, .int a3, .int a4] (wO cs ad s) r.1 (wO cs ad r.2) := by
  refine Ci_ofG (by decide +kernel) rfl (Nat.le_of_ble_eq_true rfl) .int rfl (vp_nar_int _) (fun E _ _ hty0 hX0 hr => ?_)
  have hty := hty0.trans htyM
  have hr : Ri E kX6_sales r.1 (wO cs ad r.2) := hr
  show G E kX6_sales 0 0 0 [(0, .ref (ad 0)), (1, .int a1), (2, .int a2), (3, .int a3), (4, .int a4)] [] (wO cs ad s)
  unfold f_X6_sales at hf
  refine g_aload_n 0 dX6_sales_0 rfl rfl ?_
  refine g_iconst (v := (0 : Int32)) dX6_sales_1 (by decide) ?_
  obtain ⟨s1, e_s1, hf⟩ := olt_some hf
  refine g_put (ci := 6) (T := TX6) (N := 29) (ty := .int) (w2 := (wO cs ad s1)) 0 0 (.int (0 : Int32)) tyX6 dX6_sales_2 iX6_sales_X6 tyX6_ok nmX6 rfl jX6_sales_54 (by decide) rfl rfl rfl rfl wlaO_0 (Nat.le_of_ble_eq_true rfl) (wlpO_0_0.trans (congrArg (wO cs ad) e_s1)) ?_
  refine g_aload_n 0 dX6_sales_5 rfl rfl ?_
  refine g_iload_n 1 dX6_sales_6 rfl rfl ?_
  obtain ⟨v2, hc3, hf⟩ := obd_some hf
  refine g_callVi (ci := 6) (As := [.int a1]) (rest := []) (w2 := (wO cs ad s1)) 0 dX6_sales_7 vX6_sales_167 (c_X6_isWay ad hty hc3) rfl (mid0 _) rfl rfl 0 wlaO_0 rfl (Nat.le_of_ble_eq_true rfl) ⟨Nat.zero_le _, Nat.zero_le _⟩ (mid2 _ _) ?_
  refine g_if_eq (tgt := 40) dX6_sales_10 (by decide) (fun h4 => ?_) (fun h4 => ?_)
  · have hf := ift h4 hf
    refine g_iconst (v := (-1 : Int32)) dX6_sales_40 (by decide) ?_
    obtain rfl := Option.some.inj hf
    exact hr _ _ dX6_sales_41
  · have hf := iff_ h4 hf
    refine g_aload_n 0 dX6_sales_13 rfl rfl ?_
    refine g_iload_n 2 dX6_sales_14 rfl rfl ?_
    obtain ⟨v5, hc6, hf⟩ := obd_some hf
    refine g_callVi (ci := 6) (As := [.int a2]) (rest := []) (w2 := (wO cs ad s1)) 0 dX6_sales_15 vX6_sales_158 (c_X6_isStall ad hty hc6) rfl (mid0 _) rfl rfl 0 wlaO_0 rfl (Nat.le_of_ble_eq_true rfl) ⟨Nat.zero_le _, Nat.zero_le _⟩ (mid2 _ _) ?_
    refine g_if_eq (tgt := 40) dX6_sales_18 (by decide) (fun h7 => ?_) (fun h7 => ?_)
    · have hf := ift h7 hf
      refine g_iconst (v := (-1 : Int32)) dX6_sales_40 (by decide) ?_
      obtain rfl := Option.some.inj hf
      exact hr _ _ dX6_sales_41
    · have hf := iff_ h7 hf
      refine g_iload_n 3 dX6_sales_21 rfl rfl ?_
      obtain ⟨v8, hc9, hf⟩ := obd_some hf
      refine g_callSi (As := [.int a3]) (rest := []) (w2 := (wO cs ad s1)) 0 dX6_sales_22 vX6_sales_173 (c_X6_isSort hty hc9) rfl (midm _) rfl (Nat.le_of_ble_eq_true rfl) ⟨Nat.zero_le _, Nat.zero_le _⟩ (midn _) ?_
      refine g_if_eq (tgt := 40) dX6_sales_25 (by decide) (fun h10 => ?_) (fun h10 => ?_)
      · have hf := ift h10 hf
        refine g_iconst (v := (-1 : Int32)) dX6_sales_40 (by decide) ?_
        obtain rfl := Option.some.inj hf
        exact hr _ _ dX6_sales_41
      · have hf := iff_ h10 hf
        refine g_iload 4 dX6_sales_28 rfl ?_
        refine g_iconst (v := (1 : Int32)) dX6_sales_30 (by decide) ?_
        refine g_sipush (v := (200 : Int32)) dX6_sales_31 (by decide) ?_
        obtain ⟨v11, hc12, hf⟩ := obd_some hf
        refine g_callSi (As := [.int a4, .int (1 : Int32), .int (200 : Int32)]) (rest := []) (w2 := (wO cs ad s1)) 0 dX6_sales_34 vX6_sales_61 (c_X6_in hty hc12) rfl (midm _) rfl (Nat.le_of_ble_eq_true rfl) ⟨Nat.zero_le _, Nat.zero_le _⟩ (midn _) ?_
        refine g_if_ne (tgt := 42) dX6_sales_37 (by decide) (fun h13 => ?_) (fun h13 => ?_)
        · have hf := iff_ h13 hf
          refine g_iconst (v := (0 : Int32)) dX6_sales_42 (by decide) ?_
          refine g_istore (lv2 := [(5, .int (0 : Int32)), (0, .ref (ad 0)), (1, .int a1), (2, .int a2), (3, .int a3), (4, .int a4)]) dX6_sales_43 (by decide) rfl ?_
          refine g_aload_n 1 dX6_sales_45 rfl rfl ?_
          refine g_iconst (v := (0 : Int32)) dX6_sales_46 (by decide) ?_
          obtain ⟨s14, e_s14, hf⟩ := olt_some hf
          refine g_put (ci := 6) (T := TX6) (N := 29) (ty := .int) (w2 := (wO cs ad s14)) 0 28 (.int (0 : Int32)) tyX6 dX6_sales_47 iX6_sales_X6 tyX6_ok nmX6 rfl jX6_sales_254 (by decide) rfl rfl rfl rfl wlaO_0 (Nat.le_of_ble_eq_true rfl) (wlpO_0_28.trans (congrArg (wO cs ad) e_s14)) ?_
          refine g_iconst (v := (0 : Int32)) dX6_sales_50 (by decide) ?_
          refine g_istore (lv2 := [(6, .int (0 : Int32)), (5, .int (0 : Int32)), (0, .ref (ad 0)), (1, .int a1), (2, .int a2), (3, .int a3), (4, .int a4)]) dX6_sales_51 (by decide) rfl ?_
          exact g_sub [2, 3, 4, 5, 6, 1, 0] rfl (w_X6_sales_L53 hty hr F (0 : Int32) (0 : Int32) s14 hf)
        · have hf := ift h13 hf
          refine g_iconst (v := (-1 : Int32)) dX6_sales_40 (by decide) ?_
          obtain rfl := Option.some.inj hf
          exact hr _ _ dX6_sales_41

-- ThumbScaleModel steps ()I
def rmX6_steps : Room := { frames := 0, cells := 0, slots := 0, locals := 0 }
def kX6_steps : MK := (cX6_steps, 1, RX6, wsX6_steps, (some .int), rmX6_steps)

set_option maxRecDepth 20000 in
theorem jX6_steps_54 : Cond.fieldLink RX6 54 (TX6 0).1 (TX6 0).2.1 (TX6 0).2.2.1 ∈ wsX6_steps := by decide +kernel
set_option maxRecDepth 20000 in
theorem iX6_steps_X6 : ∀ x ∈ u_ws RX6 TX6 29, x ∈ wsX6_steps := by decide +kernel
set_option maxRecDepth 20000 in
theorem jX6_steps_254 : Cond.fieldLink RX6 254 (TX6 28).1 (TX6 28).2.1 (TX6 28).2.2.1 ∈ wsX6_steps := by decide +kernel
def f_X6_steps (F : Nat) (s : SO) : Option (Int32 × SO) :=
    olt (uO_thrown s (0 : Int32)) (fun s1 =>
    some ((O_soldSteps s1), s1))

set_option maxHeartbeats 4000000 in
set_option maxRecDepth 100000 in
theorem c_X6_steps {l : Launch} {D : va_G} {tys : List (ClassId × FieldType)} {X : XT} {cs : CS} (ad : Nat → Nat) {F : Nat} {s : SO} {r : (Int32 × SO)} (htyM : tys = tyA cs) (hf : f_X6_steps F s = some r) : Ci l D tys X yX6_steps wsX6_steps rmX6_steps [.ref (ad 0)] (wO cs ad s) r.1 (wO cs ad r.2) := by
  refine Ci_ofG (by decide +kernel) rfl (Nat.le_of_ble_eq_true rfl) .int rfl (vp_nar_int _) (fun E _ _ hty0 hX0 hr => ?_)
  have hty := hty0.trans htyM
  have hr : Ri E kX6_steps r.1 (wO cs ad r.2) := hr
  show G E kX6_steps 0 0 0 [(0, .ref (ad 0))] [] (wO cs ad s)
  unfold f_X6_steps at hf
  refine g_aload_n 0 dX6_steps_0 rfl rfl ?_
  refine g_iconst (v := (0 : Int32)) dX6_steps_1 (by decide) ?_
  obtain ⟨s1, e_s1, hf⟩ := olt_some hf
  refine g_put (ci := 6) (T := TX6) (N := 29) (ty := .int) (w2 := (wO cs ad s1)) 0 0 (.int (0 : Int32)) tyX6 dX6_steps_2 iX6_steps_X6 tyX6_ok nmX6 rfl jX6_steps_54 (by decide) rfl rfl rfl rfl wlaO_0 (Nat.le_of_ble_eq_true rfl) (wlpO_0_0.trans (congrArg (wO cs ad) e_s1)) ?_
  refine g_aload_n 0 dX6_steps_5 rfl rfl ?_
  refine g_get (ci := 6) (T := TX6) (N := 29) 0 28 (.int (O_soldSteps s1)) dX6_steps_6 iX6_steps_X6 rfl jX6_steps_254 (by decide) wlaO_0 rfl ?_
  obtain rfl := Option.some.inj hf
  exact hr _ _ dX6_steps_9

-- ThumbScaleModel score (II)J
def rmX6_score : Room := { frames := 3, cells := 0, slots := 0, locals := 65 }
def kX6_score : MK := (cX6_score, 4, RX6, wsX6_score, (some .long), rmX6_score)

set_option maxRecDepth 20000 in
theorem jX6_score_54 : Cond.fieldLink RX6 54 (TX6 0).1 (TX6 0).2.1 (TX6 0).2.2.1 ∈ wsX6_score := by decide +kernel
set_option maxRecDepth 20000 in
theorem iX6_score_X6 : ∀ x ∈ u_ws RX6 TX6 29, x ∈ wsX6_score := by decide +kernel
set_option maxRecDepth 20000 in
theorem vX6_score_61 : KS kX6_score 61 yX6_in wsX6_in rmX6_in 3 := ⟨_, _, _, _, gX6_score_X6_in, rfl, rfl, rfl, by decide +kernel, ⟨by decide, by decide⟩⟩
set_option maxRecDepth 20000 in
theorem qX6_score_189 : Cond.constantLong RX6 189 (-1000000000000000000 : Int64) ∈ wsX6_score := by decide +kernel
set_option maxRecDepth 20000 in
theorem vX6_score_186 : KV kX6_score 186 RX6 yX6_isBag wsX6_isBag rmX6_isBag 1 := ⟨_, _, _, _, gX6_score_X6_isBag, rfl, rfl, rfl, by decide +kernel, ⟨by decide, by decide⟩⟩
set_option maxRecDepth 20000 in
theorem vX6_score_180 : KV kX6_score 180 RX6 yX6_shortOf wsX6_shortOf rmX6_shortOf 1 := ⟨_, _, _, _, gX6_score_X6_shortOf, rfl, rfl, rfl, by decide +kernel, ⟨by decide, by decide⟩⟩
set_option maxRecDepth 20000 in
theorem jX6_score_259 : Cond.fieldLink RX6 259 (TX6 1).1 (TX6 1).2.1 (TX6 1).2.2.1 ∈ wsX6_score := by decide +kernel
set_option maxRecDepth 20000 in
theorem qX6_score_270 : Cond.constantLong RX6 270 (1100001 : Int64) ∈ wsX6_score := by decide +kernel
set_option maxRecDepth 20000 in
theorem qX6_score_268 : Cond.constantLong RX6 268 (100001 : Int64) ∈ wsX6_score := by decide +kernel
set_option maxRecDepth 20000 in
theorem qX6_score_266 : Cond.constantLong RX6 266 (11001 : Int64) ∈ wsX6_score := by decide +kernel
set_option maxRecDepth 20000 in
theorem qX6_score_264 : Cond.constantLong RX6 264 (1001 : Int64) ∈ wsX6_score := by decide +kernel
set_option maxRecDepth 20000 in
theorem qX6_score_91 : Cond.constantLong RX6 91 (101 : Int64) ∈ wsX6_score := by decide +kernel
set_option maxRecDepth 20000 in
theorem qX6_score_262 : Cond.constantLong RX6 262 (11 : Int64) ∈ wsX6_score := by decide +kernel
set_option maxRecDepth 20000 in
theorem vX6_score_191 : KV kX6_score 191 RX6 yX6_stepsOf wsX6_stepsOf rmX6_stepsOf 1 := ⟨_, _, _, _, gX6_score_X6_stepsOf, rfl, rfl, rfl, by decide +kernel, ⟨by decide, by decide⟩⟩
set_option maxRecDepth 20000 in
theorem vX6_score_155 : KV kX6_score 155 RX6 yX6_bag wsX6_bag rmX6_bag 2 := ⟨_, _, _, _, gX6_score_X6_bag, rfl, rfl, rfl, by decide +kernel, ⟨by decide, by decide⟩⟩
set_option maxRecDepth 20000 in
theorem jX6_score_30 : Cond.fieldLink RX6 30 (TX6 14).1 (TX6 14).2.1 (TX6 14).2.2.1 ∈ wsX6_score := by decide +kernel
def f_X6_score (F : Nat) (s : SO) (a1 : Int32) (a2 : Int32) : Option (Int64 × SO) :=
    olt (uO_thrown s (0 : Int32)) (fun s1 =>
    obd (f_X6_in F a1 (0 : Int32) (6 : Int32)) (fun v2 =>
    (if v2 = 0 then
    some ((-1000000000000000000 : Int64), s1)
    else
    obd (f_X6_isBag F s1 a2) (fun v5 =>
    (if v5 = 0 then
    some ((-1000000000000000000 : Int64), s1)
    else
    obd (f_X6_shortOf F s1 a2) (fun v8 =>
    obd ((if a1 = 0 then
    some (1 : Int64)
    else
    (if a1 = (1 : Int32) then
    some (11 : Int64)
    else
    (if a1 = (2 : Int32) then
    some (101 : Int64)
    else
    (if a1 = (3 : Int32) then
    some (1001 : Int64)
    else
    (if a1 = (4 : Int32) then
    some (11001 : Int64)
    else
    (if a1 = (5 : Int32) then
    some (100001 : Int64)
    else
    some (1100001 : Int64)))))))) (fun v16 =>
    olt ((O_trace s1) + v16) (fun z23 =>
    olt (uO_trace s1 z23) (fun s24 =>
    (if a1 = 0 then
    some ((Int32.toInt64 v8), s24)
    else
    (if a1 = (1 : Int32) then
    ochk (¬ (2 : Int32) = 0) (
    some ((Int32.toInt64 (v8 / (2 : Int32))), s24))
    else
    (if a1 = (2 : Int32) then
    obd (f_X6_bag F s24 a2 (0 : Int32)) (fun v39 =>
    ochi ((3 : Int32) * v39) 36 (
    some ((Int32.toInt64 (v8 - ((O_stall s24) (Int32.toNatClampNeg ((3 : Int32) * v39))))), s24)))
    else
    (if a1 = (3 : Int32) then
    some ((Int32.toInt64 ((2 : Int32) * v8)), s24)
    else
    (if a1 = (4 : Int32) then
    obd (f_X6_bag F s24 a2 (2 : Int32)) (fun v37 =>
    some ((Int32.toInt64 (((2 : Int32) * v8) + v37)), s24))
    else
    (if a1 = (5 : Int32) then
    obd (f_X6_stepsOf F s24 a2) (fun v35 =>
    some ((Int32.toInt64 (v8 + v35)), s24))
    else
    obd (f_X6_stepsOf F s24 a2) (fun v31 =>
    obd (f_X6_bag F s24 a2 (1 : Int32)) (fun v33 =>
    some ((Int32.toInt64 ((v8 + v31) - v33)), s24))))))))))))))))))

set_option maxHeartbeats 4000000 in
set_option maxRecDepth 100000 in
theorem c_X6_score {l : Launch} {D : va_G} {tys : List (ClassId × FieldType)} {X : XT} {cs : CS} (ad : Nat → Nat) {F : Nat} {s : SO} {a1 : Int32} {a2 : Int32} {r : (Int64 × SO)} (htyM : tys = tyA cs) (hf : f_X6_score F s a1 a2 = some r) : Cl l D tys X yX6_score wsX6_score rmX6_score [.ref (ad 0), .int a1, .int a2] (wO cs ad s) r.1 (wO cs ad r.2) := by
  refine Cl_ofG (by decide +kernel) rfl (Nat.le_of_ble_eq_true rfl) (fun E _ _ hty0 hX0 hr => ?_)
  have hty := hty0.trans htyM
  have hr : Rl E kX6_score r.1 (wO cs ad r.2) := hr
  show G E kX6_score 0 0 0 [(0, .ref (ad 0)), (1, .int a1), (2, .int a2)] [] (wO cs ad s)
  unfold f_X6_score at hf
  refine g_aload_n 0 dX6_score_0 rfl rfl ?_
  refine g_iconst (v := (0 : Int32)) dX6_score_1 (by decide) ?_
  obtain ⟨s1, e_s1, hf⟩ := olt_some hf
  refine g_put (ci := 6) (T := TX6) (N := 29) (ty := .int) (w2 := (wO cs ad s1)) 0 0 (.int (0 : Int32)) tyX6 dX6_score_2 iX6_score_X6 tyX6_ok nmX6 rfl jX6_score_54 (by decide) rfl rfl rfl rfl wlaO_0 (Nat.le_of_ble_eq_true rfl) (wlpO_0_0.trans (congrArg (wO cs ad) e_s1)) ?_
  refine g_iload_n 1 dX6_score_5 rfl rfl ?_
  refine g_iconst (v := (0 : Int32)) dX6_score_6 (by decide) ?_
  refine g_bipush (v := (6 : Int32)) dX6_score_7 (by decide) ?_
  obtain ⟨v2, hc3, hf⟩ := obd_some hf
  refine g_callSi (As := [.int a1, .int (0 : Int32), .int (6 : Int32)]) (rest := []) (w2 := (wO cs ad s1)) 0 dX6_score_9 vX6_score_61 (c_X6_in hty hc3) rfl (midm _) rfl (Nat.le_of_ble_eq_true rfl) ⟨Nat.zero_le _, Nat.zero_le _⟩ (midn _) ?_
  refine g_if_eq (tgt := 23) dX6_score_12 (by decide) (fun h4 => ?_) (fun h4 => ?_)
  · have hf := ift h4 hf
    refine g_ldc2 (v := (-1000000000000000000 : Int64)) dX6_score_23 qX6_score_189 ?_
    obtain rfl := Option.some.inj hf
    exact hr _ _ dX6_score_26
  · have hf := iff_ h4 hf
    refine g_aload_n 0 dX6_score_15 rfl rfl ?_
    refine g_iload_n 2 dX6_score_16 rfl rfl ?_
    obtain ⟨v5, hc6, hf⟩ := obd_some hf
    refine g_callVi (ci := 6) (As := [.int a2]) (rest := []) (w2 := (wO cs ad s1)) 0 dX6_score_17 vX6_score_186 (c_X6_isBag ad hty hc6) rfl (mid0 _) rfl rfl 0 wlaO_0 rfl (Nat.le_of_ble_eq_true rfl) ⟨Nat.zero_le _, Nat.zero_le _⟩ (mid2 _ _) ?_
    refine g_if_ne (tgt := 27) dX6_score_20 (by decide) (fun h7 => ?_) (fun h7 => ?_)
    · have hf := iff_ h7 hf
      refine g_aload_n 0 dX6_score_27 rfl rfl ?_
      refine g_iload_n 2 dX6_score_28 rfl rfl ?_
      obtain ⟨v8, hc9, hf⟩ := obd_some hf
      refine g_callVi (ci := 6) (As := [.int a2]) (rest := []) (w2 := (wO cs ad s1)) 0 dX6_score_29 vX6_score_180 (c_X6_shortOf ad hty hc9) rfl (mid0 _) rfl rfl 0 wlaO_0 rfl (Nat.le_of_ble_eq_true rfl) ⟨Nat.zero_le _, Nat.zero_le _⟩ (mid2 _ _) ?_
      refine g_istore_n (lv2 := [(3, .int v8), (0, .ref (ad 0)), (1, .int a1), (2, .int a2)]) dX6_score_32 rfl (by decide) rfl ?_
      refine g_aload_n 1 dX6_score_33 rfl rfl ?_
      refine g_dup dX6_score_34 rfl ?_
      refine g_get (ci := 6) (T := TX6) (N := 29) 0 1 (.long (O_trace s1)) dX6_score_35 iX6_score_X6 rfl jX6_score_259 (by decide) wlaO_0 rfl ?_
      refine g_iload_n 2 dX6_score_38 rfl rfl ?_
      obtain ⟨v16, hE_v16, hf⟩ := obd_some hf
      have J_v16 : G E kX6_score 0 0 104 [(0, .ref (ad 0)), (1, .int a1), (2, .int a2), (3, .int v8)] [.long v16, .long (O_trace s1), .ref (ad 0)] (wO cs ad s1) := by
        refine g_ladd dX6_score_104 ?_
        obtain ⟨z23, e_z23, hf⟩ := olt_some hf
        refine g_cast rfl rfl (congrArg (fun q => Value.long q :: [.ref (ad 0)]) e_z23) rfl ?_
        obtain ⟨s24, e_s24, hf⟩ := olt_some hf
        refine g_put (ci := 6) (T := TX6) (N := 29) (ty := .long) (w2 := (wO cs ad s24)) 0 1 (.long z23) tyX6 dX6_score_105 iX6_score_X6 tyX6_ok nmX6 rfl jX6_score_259 (by decide) rfl rfl rfl rfl wlaO_0 (Nat.le_of_ble_eq_true rfl) (wlpO_0_1.trans (congrArg (wO cs ad) e_s24)) ?_
        refine g_iload_n 1 dX6_score_108 rfl rfl ?_
        refine g_if_ne (tgt := 117) dX6_score_109 (by decide) (fun h25 => ?_) (fun h25 => ?_)
        · have hf := iff_ h25 hf
          refine g_iload_n 1 dX6_score_117 rfl rfl ?_
          refine g_iconst (v := (1 : Int32)) dX6_score_118 (by decide) ?_
          refine g_icmp_ne (tgt := 129) dX6_score_119 (by decide) (fun h26 => ?_) (fun h26 => ?_)
          · have hf := iff_ h26 hf
            refine g_iload_n 1 dX6_score_129 rfl rfl ?_
            refine g_iconst (v := (2 : Int32)) dX6_score_130 (by decide) ?_
            refine g_icmp_ne (tgt := 153) dX6_score_131 (by decide) (fun h27 => ?_) (fun h27 => ?_)
            · have hf := iff_ h27 hf
              refine g_iload_n 1 dX6_score_153 rfl rfl ?_
              refine g_iconst (v := (3 : Int32)) dX6_score_154 (by decide) ?_
              refine g_icmp_ne (tgt := 165) dX6_score_155 (by decide) (fun h28 => ?_) (fun h28 => ?_)
              · have hf := iff_ h28 hf
                refine g_iload_n 1 dX6_score_165 rfl rfl ?_
                refine g_iconst (v := (4 : Int32)) dX6_score_166 (by decide) ?_
                refine g_icmp_ne (tgt := 184) dX6_score_167 (by decide) (fun h29 => ?_) (fun h29 => ?_)
                · have hf := iff_ h29 hf
                  refine g_iload_n 1 dX6_score_184 rfl rfl ?_
                  refine g_iconst (v := (5 : Int32)) dX6_score_185 (by decide) ?_
                  refine g_icmp_ne (tgt := 200) dX6_score_186 (by decide) (fun h30 => ?_) (fun h30 => ?_)
                  · have hf := iff_ h30 hf
                    refine g_iload_n 3 dX6_score_200 rfl rfl ?_
                    refine g_aload_n 0 dX6_score_201 rfl rfl ?_
                    refine g_iload_n 2 dX6_score_202 rfl rfl ?_
                    obtain ⟨v31, hc32, hf⟩ := obd_some hf
                    refine g_callVi (ci := 6) (As := [.int a2]) (rest := [.int v8]) (w2 := (wO cs ad s24)) 0 dX6_score_203 vX6_score_191 (c_X6_stepsOf ad hty hc32) rfl (mid0 _) rfl rfl 0 wlaO_0 rfl (Nat.le_of_ble_eq_true rfl) ⟨Nat.zero_le _, Nat.zero_le _⟩ (mid2 _ _) ?_
                    refine g_iadd dX6_score_206 ?_
                    refine g_aload_n 0 dX6_score_207 rfl rfl ?_
                    refine g_iload_n 2 dX6_score_208 rfl rfl ?_
                    refine g_iconst (v := (1 : Int32)) dX6_score_209 (by decide) ?_
                    obtain ⟨v33, hc34, hf⟩ := obd_some hf
                    refine g_callVi (ci := 6) (As := [.int a2, .int (1 : Int32)]) (rest := [.int (v8 + v31)]) (w2 := (wO cs ad s24)) 0 dX6_score_210 vX6_score_155 (c_X6_bag ad hty hc34) rfl (mid0 _) rfl rfl 0 wlaO_0 rfl (Nat.le_of_ble_eq_true rfl) ⟨Nat.zero_le _, Nat.zero_le _⟩ (mid2 _ _) ?_
                    refine g_isub dX6_score_213 ?_
                    refine g_i2l dX6_score_214 ?_
                    obtain rfl := Option.some.inj hf
                    exact hr _ _ dX6_score_215
                  · have hf := ift h30 hf
                    refine g_iload_n 3 dX6_score_189 rfl rfl ?_
                    refine g_aload_n 0 dX6_score_190 rfl rfl ?_
                    refine g_iload_n 2 dX6_score_191 rfl rfl ?_
                    obtain ⟨v35, hc36, hf⟩ := obd_some hf
                    refine g_callVi (ci := 6) (As := [.int a2]) (rest := [.int v8]) (w2 := (wO cs ad s24)) 0 dX6_score_192 vX6_score_191 (c_X6_stepsOf ad hty hc36) rfl (mid0 _) rfl rfl 0 wlaO_0 rfl (Nat.le_of_ble_eq_true rfl) ⟨Nat.zero_le _, Nat.zero_le _⟩ (mid2 _ _) ?_
                    refine g_iadd dX6_score_195 ?_
                    refine g_i2l dX6_score_196 ?_
                    refine g_goto (tgt := 215) dX6_score_197 (by decide) ?_
                    obtain rfl := Option.some.inj hf
                    exact hr _ _ dX6_score_215
                · have hf := ift h29 hf
                  refine g_iconst (v := (2 : Int32)) dX6_score_170 (by decide) ?_
                  refine g_iload_n 3 dX6_score_171 rfl rfl ?_
                  refine g_imul dX6_score_172 ?_
                  refine g_aload_n 0 dX6_score_173 rfl rfl ?_
                  refine g_iload_n 2 dX6_score_174 rfl rfl ?_
                  refine g_iconst (v := (2 : Int32)) dX6_score_175 (by decide) ?_
                  obtain ⟨v37, hc38, hf⟩ := obd_some hf
                  refine g_callVi (ci := 6) (As := [.int a2, .int (2 : Int32)]) (rest := [.int ((2 : Int32) * v8)]) (w2 := (wO cs ad s24)) 0 dX6_score_176 vX6_score_155 (c_X6_bag ad hty hc38) rfl (mid0 _) rfl rfl 0 wlaO_0 rfl (Nat.le_of_ble_eq_true rfl) ⟨Nat.zero_le _, Nat.zero_le _⟩ (mid2 _ _) ?_
                  refine g_iadd dX6_score_179 ?_
                  refine g_i2l dX6_score_180 ?_
                  refine g_goto (tgt := 215) dX6_score_181 (by decide) ?_
                  obtain rfl := Option.some.inj hf
                  exact hr _ _ dX6_score_215
              · have hf := ift h28 hf
                refine g_iconst (v := (2 : Int32)) dX6_score_158 (by decide) ?_
                refine g_iload_n 3 dX6_score_159 rfl rfl ?_
                refine g_imul dX6_score_160 ?_
                refine g_i2l dX6_score_161 ?_
                refine g_goto (tgt := 215) dX6_score_162 (by decide) ?_
                obtain rfl := Option.some.inj hf
                exact hr _ _ dX6_score_215
            · have hf := ift h27 hf
              refine g_iload_n 3 dX6_score_134 rfl rfl ?_
              refine g_aload_n 0 dX6_score_135 rfl rfl ?_
              refine g_get (ci := 6) (T := TX6) (N := 29) 0 14 (.ref (ad 7)) dX6_score_136 iX6_score_X6 rfl jX6_score_30 (by decide) wlaO_0 rfl ?_
              refine g_iconst (v := (3 : Int32)) dX6_score_139 (by decide) ?_
              refine g_aload_n 0 dX6_score_140 rfl rfl ?_
              refine g_iload_n 2 dX6_score_141 rfl rfl ?_
              refine g_iconst (v := (0 : Int32)) dX6_score_142 (by decide) ?_
              obtain ⟨v39, hc40, hf⟩ := obd_some hf
              refine g_callVi (ci := 6) (As := [.int a2, .int (0 : Int32)]) (rest := [.int (3 : Int32), .ref (ad 7), .int v8]) (w2 := (wO cs ad s24)) 0 dX6_score_143 vX6_score_155 (c_X6_bag ad hty hc40) rfl (mid0 _) rfl rfl 0 wlaO_0 rfl (Nat.le_of_ble_eq_true rfl) ⟨Nat.zero_le _, Nat.zero_le _⟩ (mid2 _ _) ?_
              refine g_imul dX6_score_146 ?_
              obtain ⟨h41, hf⟩ := ochi_some hf
              refine g_iald 7 0 dX6_score_147 wlaO_7 (tI hty) h41 ?_
              refine g_isub dX6_score_148 ?_
              refine g_i2l dX6_score_149 ?_
              refine g_goto (tgt := 215) dX6_score_150 (by decide) ?_
              obtain rfl := Option.some.inj hf
              exact hr _ _ dX6_score_215
          · have hf := ift h26 hf
            refine g_iload_n 3 dX6_score_122 rfl rfl ?_
            refine g_iconst (v := (2 : Int32)) dX6_score_123 (by decide) ?_
            obtain ⟨h42, hf⟩ := ochk_some hf
            refine g_idiv dX6_score_124 h42 ?_
            refine g_i2l dX6_score_125 ?_
            refine g_goto (tgt := 215) dX6_score_126 (by decide) ?_
            obtain rfl := Option.some.inj hf
            exact hr _ _ dX6_score_215
        · have hf := ift h25 hf
          refine g_iload_n 3 dX6_score_112 rfl rfl ?_
          refine g_i2l dX6_score_113 ?_
          refine g_goto (tgt := 215) dX6_score_114 (by decide) ?_
          obtain rfl := Option.some.inj hf
          exact hr _ _ dX6_score_215
      have hf := hE_v16
      refine g_if_ne (tgt := 46) dX6_score_39 (by decide) (fun h17 => ?_) (fun h17 => ?_)
      · have hf := iff_ h17 hf
        refine g_iload_n 2 dX6_score_46 rfl rfl ?_
        refine g_iconst (v := (1 : Int32)) dX6_score_47 (by decide) ?_
        refine g_icmp_ne (tgt := 57) dX6_score_48 (by decide) (fun h18 => ?_) (fun h18 => ?_)
        · have hf := iff_ h18 hf
          refine g_iload_n 2 dX6_score_57 rfl rfl ?_
          refine g_iconst (v := (2 : Int32)) dX6_score_58 (by decide) ?_
          refine g_icmp_ne (tgt := 68) dX6_score_59 (by decide) (fun h19 => ?_) (fun h19 => ?_)
          · have hf := iff_ h19 hf
            refine g_iload_n 2 dX6_score_68 rfl rfl ?_
            refine g_iconst (v := (3 : Int32)) dX6_score_69 (by decide) ?_
            refine g_icmp_ne (tgt := 79) dX6_score_70 (by decide) (fun h20 => ?_) (fun h20 => ?_)
            · have hf := iff_ h20 hf
              refine g_iload_n 2 dX6_score_79 rfl rfl ?_
              refine g_iconst (v := (4 : Int32)) dX6_score_80 (by decide) ?_
              refine g_icmp_ne (tgt := 90) dX6_score_81 (by decide) (fun h21 => ?_) (fun h21 => ?_)
              · have hf := iff_ h21 hf
                refine g_iload_n 2 dX6_score_90 rfl rfl ?_
                refine g_iconst (v := (5 : Int32)) dX6_score_91 (by decide) ?_
                refine g_icmp_ne (tgt := 101) dX6_score_92 (by decide) (fun h22 => ?_) (fun h22 => ?_)
                · have hf := iff_ h22 hf
                  refine g_ldc2 (v := (1100001 : Int64)) dX6_score_101 qX6_score_270 ?_
                  obtain rfl := Option.some.inj hf
                  exact g_sub [1, 2, 3, 0] rfl J_v16
                · have hf := ift h22 hf
                  refine g_ldc2 (v := (100001 : Int64)) dX6_score_95 qX6_score_268 ?_
                  refine g_goto (tgt := 104) dX6_score_98 (by decide) ?_
                  obtain rfl := Option.some.inj hf
                  exact g_sub [1, 2, 3, 0] rfl J_v16
              · have hf := ift h21 hf
                refine g_ldc2 (v := (11001 : Int64)) dX6_score_84 qX6_score_266 ?_
                refine g_goto (tgt := 104) dX6_score_87 (by decide) ?_
                obtain rfl := Option.some.inj hf
                exact g_sub [1, 2, 3, 0] rfl J_v16
            · have hf := ift h20 hf
              refine g_ldc2 (v := (1001 : Int64)) dX6_score_73 qX6_score_264 ?_
              refine g_goto (tgt := 104) dX6_score_76 (by decide) ?_
              obtain rfl := Option.some.inj hf
              exact g_sub [1, 2, 3, 0] rfl J_v16
          · have hf := ift h19 hf
            refine g_ldc2 (v := (101 : Int64)) dX6_score_62 qX6_score_91 ?_
            refine g_goto (tgt := 104) dX6_score_65 (by decide) ?_
            obtain rfl := Option.some.inj hf
            exact g_sub [1, 2, 3, 0] rfl J_v16
        · have hf := ift h18 hf
          refine g_ldc2 (v := (11 : Int64)) dX6_score_51 qX6_score_262 ?_
          refine g_goto (tgt := 104) dX6_score_54 (by decide) ?_
          obtain rfl := Option.some.inj hf
          exact g_sub [1, 2, 3, 0] rfl J_v16
      · have hf := ift h17 hf
        refine g_lconst (v := (1 : Int64)) dX6_score_42 (by decide) ?_
        refine g_goto (tgt := 104) dX6_score_43 (by decide) ?_
        obtain rfl := Option.some.inj hf
        exact g_sub [1, 2, 3, 0] rfl J_v16
    · have hf := ift h7 hf
      refine g_ldc2 (v := (-1000000000000000000 : Int64)) dX6_score_23 qX6_score_189 ?_
      obtain rfl := Option.some.inj hf
      exact hr _ _ dX6_score_26

-- ThumbScaleModel keep (I)I
def rmX6_keep : Room := { frames := 1, cells := 0, slots := 0, locals := 22 }
def kX6_keep : MK := (cX6_keep, 3, RX6, wsX6_keep, (some .int), rmX6_keep)

set_option maxRecDepth 20000 in
theorem jX6_keep_54 : Cond.fieldLink RX6 54 (TX6 0).1 (TX6 0).2.1 (TX6 0).2.2.1 ∈ wsX6_keep := by decide +kernel
set_option maxRecDepth 20000 in
theorem iX6_keep_X6 : ∀ x ∈ u_ws RX6 TX6 29, x ∈ wsX6_keep := by decide +kernel
set_option maxRecDepth 20000 in
theorem vX6_keep_61 : KS kX6_keep 61 yX6_in wsX6_in rmX6_in 3 := ⟨_, _, _, _, gX6_keep_X6_in, rfl, rfl, rfl, by decide +kernel, ⟨by decide, by decide⟩⟩
set_option maxRecDepth 20000 in
theorem jX6_keep_20 : Cond.fieldLink RX6 20 (TX6 5).1 (TX6 5).2.1 (TX6 5).2.2.1 ∈ wsX6_keep := by decide +kernel
set_option maxRecDepth 20000 in
theorem jX6_keep_16 : Cond.fieldLink RX6 16 (TX6 4).1 (TX6 4).2.1 (TX6 4).2.2.1 ∈ wsX6_keep := by decide +kernel
set_option maxRecDepth 20000 in
theorem jX6_keep_7 : Cond.fieldLink RX6 7 (TX6 2).1 (TX6 2).2.1 (TX6 2).2.2.1 ∈ wsX6_keep := by decide +kernel
set_option maxRecDepth 20000 in
theorem jX6_keep_13 : Cond.fieldLink RX6 13 (TX6 3).1 (TX6 3).2.1 (TX6 3).2.2.1 ∈ wsX6_keep := by decide +kernel
def f_X6_keep_L18 (F : Nat) (a1 : Int32) : Nat → Int32 → SO → Option (Int32 × SO)
  | 0, _, _ => none
  | n + 1, x5, s6 =>
    (if (264 : Int32) ≤ x5 then
    ochi (0 : Int32) 6 (
    olt ((O_latest s6) (Int32.toNatClampNeg (0 : Int32))) (fun z9 =>
    ochi ((2 : Int32) + ((2 : Int32) * a1)) 6 (olt (uO_latest s6 (vp_updL (O_latest s6) (Int32.toNatClampNeg ((2 : Int32) + ((2 : Int32) * a1))) z9)) (fun s11 =>
    ochi (1 : Int32) 6 (
    olt ((O_latest s11) (Int32.toNatClampNeg (1 : Int32))) (fun z13 =>
    ochi ((3 : Int32) + ((2 : Int32) * a1)) 6 (olt (uO_latest s11 (vp_updL (O_latest s11) (Int32.toNatClampNeg ((3 : Int32) + ((2 : Int32) * a1))) z13)) (fun s15 =>
    ochi a1 2 (olt (uO_isKept s15 (upd (O_isKept s15) (Int32.toNatClampNeg a1) (vp_nar .boolean (1 : Int32)))) (fun s17 =>
    ochi (0 : Int32) 264 (
    some (((O_s s17) (Int32.toNatClampNeg (0 : Int32))), s17))))))))))))
    else
    ochi x5 264 (
    olt ((O_s s6) (Int32.toNatClampNeg x5)) (fun z20 =>
    ochi (((264 : Int32) * a1) + x5) 528 (olt (uO_kept s6 (upd (O_kept s6) (Int32.toNatClampNeg (((264 : Int32) * a1) + x5)) z20)) (fun s22 =>
    f_X6_keep_L18 F a1 n (x5 + 1) s22)))))

def f_X6_keep (F : Nat) (s : SO) (a1 : Int32) : Option (Int32 × SO) :=
    olt (uO_thrown s (0 : Int32)) (fun s1 =>
    obd (f_X6_in F a1 (0 : Int32) (1 : Int32)) (fun v2 =>
    (if v2 = 0 then
    some ((-1 : Int32), s1)
    else
    f_X6_keep_L18 F a1 F (0 : Int32) s1)))

set_option maxHeartbeats 4000000 in
set_option maxRecDepth 100000 in
theorem w_X6_keep_L18 {E : GE} {cs : CS} {ad : Nat → Nat} {F : Nat} {a1 : Int32} {r : (Int32 × SO)} (hty : eT E = tyA cs) (hr : Ri E kX6_keep r.1 (wO cs ad r.2)) : ∀ (n : Nat) (x5 : Int32) (s6 : SO), f_X6_keep_L18 F a1 n x5 s6 = some r → G E kX6_keep 0 0 18 [(0, .ref (ad 0)), (1, .int a1), (2, .int x5)] [] (wO cs ad s6) := by
  intro n
  induction n with
  | zero =>
    intro x5 s6 hf
    cases (show (none : Option (Int32 × SO)) = some r from hf)
  | succ n ih =>
    intro x5 s6 hf
    rw [f_X6_keep_L18] at hf
    refine g_iload_n 2 dX6_keep_18 rfl rfl ?_
    refine g_sipush (v := (264 : Int32)) dX6_keep_19 (by decide) ?_
    refine g_icmp_ge (tgt := 49) dX6_keep_22 (by decide) (fun h7 => ?_) (fun h7 => ?_)
    · have hf := ift h7 hf
      refine g_aload_n 0 dX6_keep_49 rfl rfl ?_
      refine g_get (ci := 6) (T := TX6) (N := 29) 0 5 (.ref (ad 4)) dX6_keep_50 iX6_keep_X6 rfl jX6_keep_20 (by decide) wlaO_0 rfl ?_
      refine g_iconst (v := (2 : Int32)) dX6_keep_53 (by decide) ?_
      refine g_iconst (v := (2 : Int32)) dX6_keep_54 (by decide) ?_
      refine g_iload_n 1 dX6_keep_55 rfl rfl ?_
      refine g_imul dX6_keep_56 ?_
      refine g_iadd dX6_keep_57 ?_
      refine g_aload_n 0 dX6_keep_58 rfl rfl ?_
      refine g_get (ci := 6) (T := TX6) (N := 29) 0 5 (.ref (ad 4)) dX6_keep_59 iX6_keep_X6 rfl jX6_keep_20 (by decide) wlaO_0 rfl ?_
      refine g_iconst (v := (0 : Int32)) dX6_keep_62 (by decide) ?_
      obtain ⟨h8, hf⟩ := ochi_some hf
      refine g_lald 4 1 dX6_keep_63 wlaO_4 (tJ hty) h8 ?_
      obtain ⟨z9, e_z9, hf⟩ := olt_some hf
      refine g_cast rfl rfl (congrArg (fun q => Value.long q :: [.int ((2 : Int32) + ((2 : Int32) * a1)), .ref (ad 4)]) e_z9) rfl ?_
      obtain ⟨h10, hf⟩ := ochi_some hf
      obtain ⟨s11, e_s11, hf⟩ := olt_some hf
      refine g_last (w2 := (wO cs ad s11)) 4 1 dX6_keep_64 wlaO_4 (tJ hty) h10 (wlsO_4.trans (congrArg (wO cs ad) e_s11)) ?_
      refine g_aload_n 0 dX6_keep_65 rfl rfl ?_
      refine g_get (ci := 6) (T := TX6) (N := 29) 0 5 (.ref (ad 4)) dX6_keep_66 iX6_keep_X6 rfl jX6_keep_20 (by decide) wlaO_0 rfl ?_
      refine g_iconst (v := (3 : Int32)) dX6_keep_69 (by decide) ?_
      refine g_iconst (v := (2 : Int32)) dX6_keep_70 (by decide) ?_
      refine g_iload_n 1 dX6_keep_71 rfl rfl ?_
      refine g_imul dX6_keep_72 ?_
      refine g_iadd dX6_keep_73 ?_
      refine g_aload_n 0 dX6_keep_74 rfl rfl ?_
      refine g_get (ci := 6) (T := TX6) (N := 29) 0 5 (.ref (ad 4)) dX6_keep_75 iX6_keep_X6 rfl jX6_keep_20 (by decide) wlaO_0 rfl ?_
      refine g_iconst (v := (1 : Int32)) dX6_keep_78 (by decide) ?_
      obtain ⟨h12, hf⟩ := ochi_some hf
      refine g_lald 4 1 dX6_keep_79 wlaO_4 (tJ hty) h12 ?_
      obtain ⟨z13, e_z13, hf⟩ := olt_some hf
      refine g_cast rfl rfl (congrArg (fun q => Value.long q :: [.int ((3 : Int32) + ((2 : Int32) * a1)), .ref (ad 4)]) e_z13) rfl ?_
      obtain ⟨h14, hf⟩ := ochi_some hf
      obtain ⟨s15, e_s15, hf⟩ := olt_some hf
      refine g_last (w2 := (wO cs ad s15)) 4 1 dX6_keep_80 wlaO_4 (tJ hty) h14 (wlsO_4.trans (congrArg (wO cs ad) e_s15)) ?_
      refine g_aload_n 0 dX6_keep_81 rfl rfl ?_
      refine g_get (ci := 6) (T := TX6) (N := 29) 0 4 (.ref (ad 3)) dX6_keep_82 iX6_keep_X6 rfl jX6_keep_16 (by decide) wlaO_0 rfl ?_
      refine g_iload_n 1 dX6_keep_85 rfl rfl ?_
      refine g_iconst (v := (1 : Int32)) dX6_keep_86 (by decide) ?_
      obtain ⟨h16, hf⟩ := ochi_some hf
      obtain ⟨s17, e_s17, hf⟩ := olt_some hf
      refine g_zast (w2 := (wO cs ad s17)) 3 2 dX6_keep_87 wlaO_3 (tZ hty) h16 (wlsO_3.trans (congrArg (wO cs ad) e_s17)) ?_
      refine g_aload_n 0 dX6_keep_88 rfl rfl ?_
      refine g_get (ci := 6) (T := TX6) (N := 29) 0 2 (.ref (ad 1)) dX6_keep_89 iX6_keep_X6 rfl jX6_keep_7 (by decide) wlaO_0 rfl ?_
      refine g_iconst (v := (0 : Int32)) dX6_keep_92 (by decide) ?_
      obtain ⟨h18, hf⟩ := ochi_some hf
      refine g_iald 1 0 dX6_keep_93 wlaO_1 (tI hty) h18 ?_
      obtain rfl := Option.some.inj hf
      exact hr _ _ dX6_keep_94
    · have hf := iff_ h7 hf
      refine g_aload_n 0 dX6_keep_25 rfl rfl ?_
      refine g_get (ci := 6) (T := TX6) (N := 29) 0 3 (.ref (ad 2)) dX6_keep_26 iX6_keep_X6 rfl jX6_keep_13 (by decide) wlaO_0 rfl ?_
      refine g_sipush (v := (264 : Int32)) dX6_keep_29 (by decide) ?_
      refine g_iload_n 1 dX6_keep_32 rfl rfl ?_
      refine g_imul dX6_keep_33 ?_
      refine g_iload_n 2 dX6_keep_34 rfl rfl ?_
      refine g_iadd dX6_keep_35 ?_
      refine g_aload_n 0 dX6_keep_36 rfl rfl ?_
      refine g_get (ci := 6) (T := TX6) (N := 29) 0 2 (.ref (ad 1)) dX6_keep_37 iX6_keep_X6 rfl jX6_keep_7 (by decide) wlaO_0 rfl ?_
      refine g_iload_n 2 dX6_keep_40 rfl rfl ?_
      obtain ⟨h19, hf⟩ := ochi_some hf
      refine g_iald 1 0 dX6_keep_41 wlaO_1 (tI hty) h19 ?_
      obtain ⟨z20, e_z20, hf⟩ := olt_some hf
      refine g_cast rfl rfl (congrArg (fun q => Value.int q :: [.int (((264 : Int32) * a1) + x5), .ref (ad 2)]) e_z20) rfl ?_
      obtain ⟨h21, hf⟩ := ochi_some hf
      obtain ⟨s22, e_s22, hf⟩ := olt_some hf
      refine g_iast (w2 := (wO cs ad s22)) 2 0 dX6_keep_42 wlaO_2 (tI hty) h21 (wlsO_2.trans (congrArg (wO cs ad) e_s22)) ?_
      refine g_iinc (lv2 := [(2, .int (x5 + 1)), (0, .ref (ad 0)), (1, .int a1)]) 2 dX6_keep_43 rfl (ii1 _) (by decide) rfl ?_
      refine g_goto (tgt := 18) dX6_keep_46 (by decide) ?_
      exact g_sub [1, 2, 0] rfl (ih (x5 + 1) s22 hf)

set_option maxHeartbeats 4000000 in
set_option maxRecDepth 100000 in
theorem c_X6_keep {l : Launch} {D : va_G} {tys : List (ClassId × FieldType)} {X : XT} {cs : CS} (ad : Nat → Nat) {F : Nat} {s : SO} {a1 : Int32} {r : (Int32 × SO)} (htyM : tys = tyA cs) (hf : f_X6_keep F s a1 = some r) : Ci l D tys X yX6_keep wsX6_keep rmX6_keep [.ref (ad 0), .int a1] (wO cs ad s) r.1 (wO cs ad r.2) := by
  refine Ci_ofG (by decide +kernel) rfl (Nat.le_of_ble_eq_true rfl) .int rfl (vp_nar_int _) (fun E _ _ hty0 hX0 hr => ?_)
  have hty := hty0.trans htyM
  have hr : Ri E kX6_keep r.1 (wO cs ad r.2) := hr
  show G E kX6_keep 0 0 0 [(0, .ref (ad 0)), (1, .int a1)] [] (wO cs ad s)
  unfold f_X6_keep at hf
  refine g_aload_n 0 dX6_keep_0 rfl rfl ?_
  refine g_iconst (v := (0 : Int32)) dX6_keep_1 (by decide) ?_
  obtain ⟨s1, e_s1, hf⟩ := olt_some hf
  refine g_put (ci := 6) (T := TX6) (N := 29) (ty := .int) (w2 := (wO cs ad s1)) 0 0 (.int (0 : Int32)) tyX6 dX6_keep_2 iX6_keep_X6 tyX6_ok nmX6 rfl jX6_keep_54 (by decide) rfl rfl rfl rfl wlaO_0 (Nat.le_of_ble_eq_true rfl) (wlpO_0_0.trans (congrArg (wO cs ad) e_s1)) ?_
  refine g_iload_n 1 dX6_keep_5 rfl rfl ?_
  refine g_iconst (v := (0 : Int32)) dX6_keep_6 (by decide) ?_
  refine g_iconst (v := (1 : Int32)) dX6_keep_7 (by decide) ?_
  obtain ⟨v2, hc3, hf⟩ := obd_some hf
  refine g_callSi (As := [.int a1, .int (0 : Int32), .int (1 : Int32)]) (rest := []) (w2 := (wO cs ad s1)) 0 dX6_keep_8 vX6_keep_61 (c_X6_in hty hc3) rfl (midm _) rfl (Nat.le_of_ble_eq_true rfl) ⟨Nat.zero_le _, Nat.zero_le _⟩ (midn _) ?_
  refine g_if_ne (tgt := 16) dX6_keep_11 (by decide) (fun h4 => ?_) (fun h4 => ?_)
  · have hf := iff_ h4 hf
    refine g_iconst (v := (0 : Int32)) dX6_keep_16 (by decide) ?_
    refine g_istore_n (lv2 := [(2, .int (0 : Int32)), (0, .ref (ad 0)), (1, .int a1)]) dX6_keep_17 rfl (by decide) rfl ?_
    exact g_sub [1, 2, 0] rfl (w_X6_keep_L18 hty hr F (0 : Int32) s1 hf)
  · have hf := ift h4 hf
    refine g_iconst (v := (-1 : Int32)) dX6_keep_14 (by decide) ?_
    obtain rfl := Option.some.inj hf
    exact hr _ _ dX6_keep_15

-- ThumbScaleModel back (I)I
def rmX6_back : Room := { frames := 1, cells := 0, slots := 0, locals := 22 }
def kX6_back : MK := (cX6_back, 3, RX6, wsX6_back, (some .int), rmX6_back)

set_option maxRecDepth 20000 in
theorem jX6_back_54 : Cond.fieldLink RX6 54 (TX6 0).1 (TX6 0).2.1 (TX6 0).2.2.1 ∈ wsX6_back := by decide +kernel
set_option maxRecDepth 20000 in
theorem iX6_back_X6 : ∀ x ∈ u_ws RX6 TX6 29, x ∈ wsX6_back := by decide +kernel
set_option maxRecDepth 20000 in
theorem vX6_back_61 : KS kX6_back 61 yX6_in wsX6_in rmX6_in 3 := ⟨_, _, _, _, gX6_back_X6_in, rfl, rfl, rfl, by decide +kernel, ⟨by decide, by decide⟩⟩
set_option maxRecDepth 20000 in
theorem jX6_back_16 : Cond.fieldLink RX6 16 (TX6 4).1 (TX6 4).2.1 (TX6 4).2.2.1 ∈ wsX6_back := by decide +kernel
set_option maxRecDepth 20000 in
theorem jX6_back_20 : Cond.fieldLink RX6 20 (TX6 5).1 (TX6 5).2.1 (TX6 5).2.2.1 ∈ wsX6_back := by decide +kernel
set_option maxRecDepth 20000 in
theorem jX6_back_7 : Cond.fieldLink RX6 7 (TX6 2).1 (TX6 2).2.1 (TX6 2).2.2.1 ∈ wsX6_back := by decide +kernel
set_option maxRecDepth 20000 in
theorem jX6_back_13 : Cond.fieldLink RX6 13 (TX6 3).1 (TX6 3).2.1 (TX6 3).2.2.1 ∈ wsX6_back := by decide +kernel
def f_X6_back_L30 (F : Nat) (a1 : Int32) : Nat → Int32 → SO → Option (Int32 × SO)
  | 0, _, _ => none
  | n + 1, x7, s8 =>
    (if (264 : Int32) ≤ x7 then
    ochi ((2 : Int32) + ((2 : Int32) * a1)) 6 (
    olt ((O_latest s8) (Int32.toNatClampNeg ((2 : Int32) + ((2 : Int32) * a1)))) (fun z11 =>
    ochi (0 : Int32) 6 (olt (uO_latest s8 (vp_updL (O_latest s8) (Int32.toNatClampNeg (0 : Int32)) z11)) (fun s13 =>
    ochi ((3 : Int32) + ((2 : Int32) * a1)) 6 (
    olt ((O_latest s13) (Int32.toNatClampNeg ((3 : Int32) + ((2 : Int32) * a1)))) (fun z15 =>
    ochi (1 : Int32) 6 (olt (uO_latest s13 (vp_updL (O_latest s13) (Int32.toNatClampNeg (1 : Int32)) z15)) (fun s17 =>
    ochi (0 : Int32) 264 (
    some (((O_s s17) (Int32.toNatClampNeg (0 : Int32))), s17))))))))))
    else
    ochi (((264 : Int32) * a1) + x7) 528 (
    olt ((O_kept s8) (Int32.toNatClampNeg (((264 : Int32) * a1) + x7))) (fun z20 =>
    ochi x7 264 (olt (uO_s s8 (upd (O_s s8) (Int32.toNatClampNeg x7) z20)) (fun s22 =>
    f_X6_back_L30 F a1 n (x7 + 1) s22)))))

def f_X6_back (F : Nat) (s : SO) (a1 : Int32) : Option (Int32 × SO) :=
    olt (uO_thrown s (0 : Int32)) (fun s1 =>
    obd (f_X6_in F a1 (0 : Int32) (1 : Int32)) (fun v2 =>
    (if v2 = 0 then
    some ((-1 : Int32), s1)
    else
    ochi a1 2 (
    (if ((O_isKept s1) (Int32.toNatClampNeg a1)) = 0 then
    some ((-2 : Int32), s1)
    else
    f_X6_back_L30 F a1 F (0 : Int32) s1)))))

set_option maxHeartbeats 4000000 in
set_option maxRecDepth 100000 in
theorem w_X6_back_L30 {E : GE} {cs : CS} {ad : Nat → Nat} {F : Nat} {a1 : Int32} {r : (Int32 × SO)} (hty : eT E = tyA cs) (hr : Ri E kX6_back r.1 (wO cs ad r.2)) : ∀ (n : Nat) (x7 : Int32) (s8 : SO), f_X6_back_L30 F a1 n x7 s8 = some r → G E kX6_back 0 0 30 [(0, .ref (ad 0)), (1, .int a1), (2, .int x7)] [] (wO cs ad s8) := by
  intro n
  induction n with
  | zero =>
    intro x7 s8 hf
    cases (show (none : Option (Int32 × SO)) = some r from hf)
  | succ n ih =>
    intro x7 s8 hf
    rw [f_X6_back_L30] at hf
    refine g_iload_n 2 dX6_back_30 rfl rfl ?_
    refine g_sipush (v := (264 : Int32)) dX6_back_31 (by decide) ?_
    refine g_icmp_ge (tgt := 61) dX6_back_34 (by decide) (fun h9 => ?_) (fun h9 => ?_)
    · have hf := ift h9 hf
      refine g_aload_n 0 dX6_back_61 rfl rfl ?_
      refine g_get (ci := 6) (T := TX6) (N := 29) 0 5 (.ref (ad 4)) dX6_back_62 iX6_back_X6 rfl jX6_back_20 (by decide) wlaO_0 rfl ?_
      refine g_iconst (v := (0 : Int32)) dX6_back_65 (by decide) ?_
      refine g_aload_n 0 dX6_back_66 rfl rfl ?_
      refine g_get (ci := 6) (T := TX6) (N := 29) 0 5 (.ref (ad 4)) dX6_back_67 iX6_back_X6 rfl jX6_back_20 (by decide) wlaO_0 rfl ?_
      refine g_iconst (v := (2 : Int32)) dX6_back_70 (by decide) ?_
      refine g_iconst (v := (2 : Int32)) dX6_back_71 (by decide) ?_
      refine g_iload_n 1 dX6_back_72 rfl rfl ?_
      refine g_imul dX6_back_73 ?_
      refine g_iadd dX6_back_74 ?_
      obtain ⟨h10, hf⟩ := ochi_some hf
      refine g_lald 4 1 dX6_back_75 wlaO_4 (tJ hty) h10 ?_
      obtain ⟨z11, e_z11, hf⟩ := olt_some hf
      refine g_cast rfl rfl (congrArg (fun q => Value.long q :: [.int (0 : Int32), .ref (ad 4)]) e_z11) rfl ?_
      obtain ⟨h12, hf⟩ := ochi_some hf
      obtain ⟨s13, e_s13, hf⟩ := olt_some hf
      refine g_last (w2 := (wO cs ad s13)) 4 1 dX6_back_76 wlaO_4 (tJ hty) h12 (wlsO_4.trans (congrArg (wO cs ad) e_s13)) ?_
      refine g_aload_n 0 dX6_back_77 rfl rfl ?_
      refine g_get (ci := 6) (T := TX6) (N := 29) 0 5 (.ref (ad 4)) dX6_back_78 iX6_back_X6 rfl jX6_back_20 (by decide) wlaO_0 rfl ?_
      refine g_iconst (v := (1 : Int32)) dX6_back_81 (by decide) ?_
      refine g_aload_n 0 dX6_back_82 rfl rfl ?_
      refine g_get (ci := 6) (T := TX6) (N := 29) 0 5 (.ref (ad 4)) dX6_back_83 iX6_back_X6 rfl jX6_back_20 (by decide) wlaO_0 rfl ?_
      refine g_iconst (v := (3 : Int32)) dX6_back_86 (by decide) ?_
      refine g_iconst (v := (2 : Int32)) dX6_back_87 (by decide) ?_
      refine g_iload_n 1 dX6_back_88 rfl rfl ?_
      refine g_imul dX6_back_89 ?_
      refine g_iadd dX6_back_90 ?_
      obtain ⟨h14, hf⟩ := ochi_some hf
      refine g_lald 4 1 dX6_back_91 wlaO_4 (tJ hty) h14 ?_
      obtain ⟨z15, e_z15, hf⟩ := olt_some hf
      refine g_cast rfl rfl (congrArg (fun q => Value.long q :: [.int (1 : Int32), .ref (ad 4)]) e_z15) rfl ?_
      obtain ⟨h16, hf⟩ := ochi_some hf
      obtain ⟨s17, e_s17, hf⟩ := olt_some hf
      refine g_last (w2 := (wO cs ad s17)) 4 1 dX6_back_92 wlaO_4 (tJ hty) h16 (wlsO_4.trans (congrArg (wO cs ad) e_s17)) ?_
      refine g_aload_n 0 dX6_back_93 rfl rfl ?_
      refine g_get (ci := 6) (T := TX6) (N := 29) 0 2 (.ref (ad 1)) dX6_back_94 iX6_back_X6 rfl jX6_back_7 (by decide) wlaO_0 rfl ?_
      refine g_iconst (v := (0 : Int32)) dX6_back_97 (by decide) ?_
      obtain ⟨h18, hf⟩ := ochi_some hf
      refine g_iald 1 0 dX6_back_98 wlaO_1 (tI hty) h18 ?_
      obtain rfl := Option.some.inj hf
      exact hr _ _ dX6_back_99
    · have hf := iff_ h9 hf
      refine g_aload_n 0 dX6_back_37 rfl rfl ?_
      refine g_get (ci := 6) (T := TX6) (N := 29) 0 2 (.ref (ad 1)) dX6_back_38 iX6_back_X6 rfl jX6_back_7 (by decide) wlaO_0 rfl ?_
      refine g_iload_n 2 dX6_back_41 rfl rfl ?_
      refine g_aload_n 0 dX6_back_42 rfl rfl ?_
      refine g_get (ci := 6) (T := TX6) (N := 29) 0 3 (.ref (ad 2)) dX6_back_43 iX6_back_X6 rfl jX6_back_13 (by decide) wlaO_0 rfl ?_
      refine g_sipush (v := (264 : Int32)) dX6_back_46 (by decide) ?_
      refine g_iload_n 1 dX6_back_49 rfl rfl ?_
      refine g_imul dX6_back_50 ?_
      refine g_iload_n 2 dX6_back_51 rfl rfl ?_
      refine g_iadd dX6_back_52 ?_
      obtain ⟨h19, hf⟩ := ochi_some hf
      refine g_iald 2 0 dX6_back_53 wlaO_2 (tI hty) h19 ?_
      obtain ⟨z20, e_z20, hf⟩ := olt_some hf
      refine g_cast rfl rfl (congrArg (fun q => Value.int q :: [.int x7, .ref (ad 1)]) e_z20) rfl ?_
      obtain ⟨h21, hf⟩ := ochi_some hf
      obtain ⟨s22, e_s22, hf⟩ := olt_some hf
      refine g_iast (w2 := (wO cs ad s22)) 1 0 dX6_back_54 wlaO_1 (tI hty) h21 (wlsO_1.trans (congrArg (wO cs ad) e_s22)) ?_
      refine g_iinc (lv2 := [(2, .int (x7 + 1)), (0, .ref (ad 0)), (1, .int a1)]) 2 dX6_back_55 rfl (ii1 _) (by decide) rfl ?_
      refine g_goto (tgt := 30) dX6_back_58 (by decide) ?_
      exact g_sub [1, 2, 0] rfl (ih (x7 + 1) s22 hf)

set_option maxHeartbeats 4000000 in
set_option maxRecDepth 100000 in
theorem c_X6_back {l : Launch} {D : va_G} {tys : List (ClassId × FieldType)} {X : XT} {cs : CS} (ad : Nat → Nat) {F : Nat} {s : SO} {a1 : Int32} {r : (Int32 × SO)} (htyM : tys = tyA cs) (hf : f_X6_back F s a1 = some r) : Ci l D tys X yX6_back wsX6_back rmX6_back [.ref (ad 0), .int a1] (wO cs ad s) r.1 (wO cs ad r.2) := by
  refine Ci_ofG (by decide +kernel) rfl (Nat.le_of_ble_eq_true rfl) .int rfl (vp_nar_int _) (fun E _ _ hty0 hX0 hr => ?_)
  have hty := hty0.trans htyM
  have hr : Ri E kX6_back r.1 (wO cs ad r.2) := hr
  show G E kX6_back 0 0 0 [(0, .ref (ad 0)), (1, .int a1)] [] (wO cs ad s)
  unfold f_X6_back at hf
  refine g_aload_n 0 dX6_back_0 rfl rfl ?_
  refine g_iconst (v := (0 : Int32)) dX6_back_1 (by decide) ?_
  obtain ⟨s1, e_s1, hf⟩ := olt_some hf
  refine g_put (ci := 6) (T := TX6) (N := 29) (ty := .int) (w2 := (wO cs ad s1)) 0 0 (.int (0 : Int32)) tyX6 dX6_back_2 iX6_back_X6 tyX6_ok nmX6 rfl jX6_back_54 (by decide) rfl rfl rfl rfl wlaO_0 (Nat.le_of_ble_eq_true rfl) (wlpO_0_0.trans (congrArg (wO cs ad) e_s1)) ?_
  refine g_iload_n 1 dX6_back_5 rfl rfl ?_
  refine g_iconst (v := (0 : Int32)) dX6_back_6 (by decide) ?_
  refine g_iconst (v := (1 : Int32)) dX6_back_7 (by decide) ?_
  obtain ⟨v2, hc3, hf⟩ := obd_some hf
  refine g_callSi (As := [.int a1, .int (0 : Int32), .int (1 : Int32)]) (rest := []) (w2 := (wO cs ad s1)) 0 dX6_back_8 vX6_back_61 (c_X6_in hty hc3) rfl (midm _) rfl (Nat.le_of_ble_eq_true rfl) ⟨Nat.zero_le _, Nat.zero_le _⟩ (midn _) ?_
  refine g_if_ne (tgt := 16) dX6_back_11 (by decide) (fun h4 => ?_) (fun h4 => ?_)
  · have hf := iff_ h4 hf
    refine g_aload_n 0 dX6_back_16 rfl rfl ?_
    refine g_get (ci := 6) (T := TX6) (N := 29) 0 4 (.ref (ad 3)) dX6_back_17 iX6_back_X6 rfl jX6_back_16 (by decide) wlaO_0 rfl ?_
    refine g_iload_n 1 dX6_back_20 rfl rfl ?_
    obtain ⟨h5, hf⟩ := ochi_some hf
    refine g_zald 3 2 dX6_back_21 wlaO_3 (tZ hty) h5 ?_
    refine g_if_ne (tgt := 28) dX6_back_22 (by decide) (fun h6 => ?_) (fun h6 => ?_)
    · have hf := iff_ h6 hf
      refine g_iconst (v := (0 : Int32)) dX6_back_28 (by decide) ?_
      refine g_istore_n (lv2 := [(2, .int (0 : Int32)), (0, .ref (ad 0)), (1, .int a1)]) dX6_back_29 rfl (by decide) rfl ?_
      exact g_sub [1, 2, 0] rfl (w_X6_back_L30 hty hr F (0 : Int32) s1 hf)
    · have hf := ift h6 hf
      refine g_bipush (v := (-2 : Int32)) dX6_back_25 (by decide) ?_
      obtain rfl := Option.some.inj hf
      exact hr _ _ dX6_back_27
  · have hf := ift h4 hf
    refine g_iconst (v := (-1 : Int32)) dX6_back_14 (by decide) ?_
    obtain rfl := Option.some.inj hf
    exact hr _ _ dX6_back_15

-- ThumbScaleModel count (I)I
def rmX6_count : Room := { frames := 1, cells := 0, slots := 0, locals := 22 }
def kX6_count : MK := (cX6_count, 2, RX6, wsX6_count, (some .int), rmX6_count)

set_option maxRecDepth 20000 in
theorem jX6_count_54 : Cond.fieldLink RX6 54 (TX6 0).1 (TX6 0).2.1 (TX6 0).2.2.1 ∈ wsX6_count := by decide +kernel
set_option maxRecDepth 20000 in
theorem iX6_count_X6 : ∀ x ∈ u_ws RX6 TX6 29, x ∈ wsX6_count := by decide +kernel
set_option maxRecDepth 20000 in
theorem vX6_count_61 : KS kX6_count 61 yX6_in wsX6_in rmX6_in 3 := ⟨_, _, _, _, gX6_count_X6_in, rfl, rfl, rfl, by decide +kernel, ⟨by decide, by decide⟩⟩
set_option maxRecDepth 20000 in
theorem jX6_count_27 : Cond.fieldLink RX6 27 (TX6 13).1 (TX6 13).2.1 (TX6 13).2.2.1 ∈ wsX6_count := by decide +kernel
set_option maxRecDepth 20000 in
theorem jX6_count_76 : Cond.fieldLink RX6 76 (TX6 7).1 (TX6 7).2.1 (TX6 7).2.2.1 ∈ wsX6_count := by decide +kernel
set_option maxRecDepth 20000 in
theorem jX6_count_7 : Cond.fieldLink RX6 7 (TX6 2).1 (TX6 2).2.1 (TX6 2).2.2.1 ∈ wsX6_count := by decide +kernel
set_option maxRecDepth 20000 in
theorem jX6_count_65 : Cond.fieldLink RX6 65 (TX6 17).1 (TX6 17).2.1 (TX6 17).2.2.1 ∈ wsX6_count := by decide +kernel
set_option maxRecDepth 20000 in
theorem jX6_count_58 : Cond.fieldLink RX6 58 (TX6 16).1 (TX6 16).2.1 (TX6 16).2.2.1 ∈ wsX6_count := by decide +kernel
def f_X6_count (F : Nat) (s : SO) (a1 : Int32) : Option (Int32 × SO) :=
    olt (uO_thrown s (0 : Int32)) (fun s1 =>
    (if a1 = 0 then
    some ((O_stalls s1), s1)
    else
    (if a1 = (1 : Int32) then
    some ((O_ways s1), s1)
    else
    (if a1 = (2 : Int32) then
    ochi (0 : Int32) 264 (
    some (((O_s s1) (Int32.toNatClampNeg (0 : Int32))), s1))
    else
    (if a1 = (3 : Int32) then
    ochi (181 : Int32) 264 (
    some (((O_s s1) (Int32.toNatClampNeg (181 : Int32))), s1))
    else
    (if a1 = (4 : Int32) then
    some ((O_typed s1), s1)
    else
    obd (f_X6_in F a1 (5 : Int32) (7 : Int32)) (fun v7 =>
    (if v7 = 0 then
    some ((-1 : Int32), s1)
    else
    ochi (a1 - (5 : Int32)) 6 (
    some (((O_luck s1) (Int32.toNatClampNeg (a1 - (5 : Int32)))), s1))))))))))

set_option maxHeartbeats 4000000 in
set_option maxRecDepth 100000 in
theorem c_X6_count {l : Launch} {D : va_G} {tys : List (ClassId × FieldType)} {X : XT} {cs : CS} (ad : Nat → Nat) {F : Nat} {s : SO} {a1 : Int32} {r : (Int32 × SO)} (htyM : tys = tyA cs) (hf : f_X6_count F s a1 = some r) : Ci l D tys X yX6_count wsX6_count rmX6_count [.ref (ad 0), .int a1] (wO cs ad s) r.1 (wO cs ad r.2) := by
  refine Ci_ofG (by decide +kernel) rfl (Nat.le_of_ble_eq_true rfl) .int rfl (vp_nar_int _) (fun E _ _ hty0 hX0 hr => ?_)
  have hty := hty0.trans htyM
  have hr : Ri E kX6_count r.1 (wO cs ad r.2) := hr
  show G E kX6_count 0 0 0 [(0, .ref (ad 0)), (1, .int a1)] [] (wO cs ad s)
  unfold f_X6_count at hf
  refine g_aload_n 0 dX6_count_0 rfl rfl ?_
  refine g_iconst (v := (0 : Int32)) dX6_count_1 (by decide) ?_
  obtain ⟨s1, e_s1, hf⟩ := olt_some hf
  refine g_put (ci := 6) (T := TX6) (N := 29) (ty := .int) (w2 := (wO cs ad s1)) 0 0 (.int (0 : Int32)) tyX6 dX6_count_2 iX6_count_X6 tyX6_ok nmX6 rfl jX6_count_54 (by decide) rfl rfl rfl rfl wlaO_0 (Nat.le_of_ble_eq_true rfl) (wlpO_0_0.trans (congrArg (wO cs ad) e_s1)) ?_
  refine g_iload_n 1 dX6_count_5 rfl rfl ?_
  refine g_if_ne (tgt := 16) dX6_count_6 (by decide) (fun h2 => ?_) (fun h2 => ?_)
  · have hf := iff_ h2 hf
    refine g_iload_n 1 dX6_count_16 rfl rfl ?_
    refine g_iconst (v := (1 : Int32)) dX6_count_17 (by decide) ?_
    refine g_icmp_ne (tgt := 28) dX6_count_18 (by decide) (fun h3 => ?_) (fun h3 => ?_)
    · have hf := iff_ h3 hf
      refine g_iload_n 1 dX6_count_28 rfl rfl ?_
      refine g_iconst (v := (2 : Int32)) dX6_count_29 (by decide) ?_
      refine g_icmp_ne (tgt := 42) dX6_count_30 (by decide) (fun h4 => ?_) (fun h4 => ?_)
      · have hf := iff_ h4 hf
        refine g_iload_n 1 dX6_count_42 rfl rfl ?_
        refine g_iconst (v := (3 : Int32)) dX6_count_43 (by decide) ?_
        refine g_icmp_ne (tgt := 58) dX6_count_44 (by decide) (fun h5 => ?_) (fun h5 => ?_)
        · have hf := iff_ h5 hf
          refine g_iload_n 1 dX6_count_58 rfl rfl ?_
          refine g_iconst (v := (4 : Int32)) dX6_count_59 (by decide) ?_
          refine g_icmp_ne (tgt := 70) dX6_count_60 (by decide) (fun h6 => ?_) (fun h6 => ?_)
          · have hf := iff_ h6 hf
            refine g_iload_n 1 dX6_count_70 rfl rfl ?_
            refine g_iconst (v := (5 : Int32)) dX6_count_71 (by decide) ?_
            refine g_bipush (v := (7 : Int32)) dX6_count_72 (by decide) ?_
            obtain ⟨v7, hc8, hf⟩ := obd_some hf
            refine g_callSi (As := [.int a1, .int (5 : Int32), .int (7 : Int32)]) (rest := []) (w2 := (wO cs ad s1)) 0 dX6_count_74 vX6_count_61 (c_X6_in hty hc8) rfl (midm _) rfl (Nat.le_of_ble_eq_true rfl) ⟨Nat.zero_le _, Nat.zero_le _⟩ (midn _) ?_
            refine g_if_eq (tgt := 91) dX6_count_77 (by decide) (fun h9 => ?_) (fun h9 => ?_)
            · have hf := ift h9 hf
              refine g_iconst (v := (-1 : Int32)) dX6_count_91 (by decide) ?_
              obtain rfl := Option.some.inj hf
              exact hr _ _ dX6_count_92
            · have hf := iff_ h9 hf
              refine g_aload_n 0 dX6_count_80 rfl rfl ?_
              refine g_get (ci := 6) (T := TX6) (N := 29) 0 13 (.ref (ad 6)) dX6_count_81 iX6_count_X6 rfl jX6_count_27 (by decide) wlaO_0 rfl ?_
              refine g_iload_n 1 dX6_count_84 rfl rfl ?_
              refine g_iconst (v := (5 : Int32)) dX6_count_85 (by decide) ?_
              refine g_isub dX6_count_86 ?_
              obtain ⟨h10, hf⟩ := ochi_some hf
              refine g_iald 6 0 dX6_count_87 wlaO_6 (tI hty) h10 ?_
              refine g_goto (tgt := 92) dX6_count_88 (by decide) ?_
              obtain rfl := Option.some.inj hf
              exact hr _ _ dX6_count_92
          · have hf := ift h6 hf
            refine g_aload_n 0 dX6_count_63 rfl rfl ?_
            refine g_get (ci := 6) (T := TX6) (N := 29) 0 7 (.int (O_typed s1)) dX6_count_64 iX6_count_X6 rfl jX6_count_76 (by decide) wlaO_0 rfl ?_
            refine g_goto (tgt := 92) dX6_count_67 (by decide) ?_
            obtain rfl := Option.some.inj hf
            exact hr _ _ dX6_count_92
        · have hf := ift h5 hf
          refine g_aload_n 0 dX6_count_47 rfl rfl ?_
          refine g_get (ci := 6) (T := TX6) (N := 29) 0 2 (.ref (ad 1)) dX6_count_48 iX6_count_X6 rfl jX6_count_7 (by decide) wlaO_0 rfl ?_
          refine g_sipush (v := (181 : Int32)) dX6_count_51 (by decide) ?_
          obtain ⟨h11, hf⟩ := ochi_some hf
          refine g_iald 1 0 dX6_count_54 wlaO_1 (tI hty) h11 ?_
          refine g_goto (tgt := 92) dX6_count_55 (by decide) ?_
          obtain rfl := Option.some.inj hf
          exact hr _ _ dX6_count_92
      · have hf := ift h4 hf
        refine g_aload_n 0 dX6_count_33 rfl rfl ?_
        refine g_get (ci := 6) (T := TX6) (N := 29) 0 2 (.ref (ad 1)) dX6_count_34 iX6_count_X6 rfl jX6_count_7 (by decide) wlaO_0 rfl ?_
        refine g_iconst (v := (0 : Int32)) dX6_count_37 (by decide) ?_
        obtain ⟨h12, hf⟩ := ochi_some hf
        refine g_iald 1 0 dX6_count_38 wlaO_1 (tI hty) h12 ?_
        refine g_goto (tgt := 92) dX6_count_39 (by decide) ?_
        obtain rfl := Option.some.inj hf
        exact hr _ _ dX6_count_92
    · have hf := ift h3 hf
      refine g_aload_n 0 dX6_count_21 rfl rfl ?_
      refine g_get (ci := 6) (T := TX6) (N := 29) 0 17 (.int (O_ways s1)) dX6_count_22 iX6_count_X6 rfl jX6_count_65 (by decide) wlaO_0 rfl ?_
      refine g_goto (tgt := 92) dX6_count_25 (by decide) ?_
      obtain rfl := Option.some.inj hf
      exact hr _ _ dX6_count_92
  · have hf := ift h2 hf
    refine g_aload_n 0 dX6_count_9 rfl rfl ?_
    refine g_get (ci := 6) (T := TX6) (N := 29) 0 16 (.int (O_stalls s1)) dX6_count_10 iX6_count_X6 rfl jX6_count_58 (by decide) wlaO_0 rfl ?_
    refine g_goto (tgt := 92) dX6_count_13 (by decide) ?_
    obtain rfl := Option.some.inj hf
    exact hr _ _ dX6_count_92

-- ThumbScaleModel trace ()J
def rmX6_trace : Room := { frames := 0, cells := 0, slots := 0, locals := 0 }
def kX6_trace : MK := (cX6_trace, 1, RX6, wsX6_trace, (some .long), rmX6_trace)

set_option maxRecDepth 20000 in
theorem jX6_trace_54 : Cond.fieldLink RX6 54 (TX6 0).1 (TX6 0).2.1 (TX6 0).2.2.1 ∈ wsX6_trace := by decide +kernel
set_option maxRecDepth 20000 in
theorem iX6_trace_X6 : ∀ x ∈ u_ws RX6 TX6 29, x ∈ wsX6_trace := by decide +kernel
set_option maxRecDepth 20000 in
theorem jX6_trace_259 : Cond.fieldLink RX6 259 (TX6 1).1 (TX6 1).2.1 (TX6 1).2.2.1 ∈ wsX6_trace := by decide +kernel
def f_X6_trace (F : Nat) (s : SO) : Option (Int64 × SO) :=
    olt (uO_thrown s (0 : Int32)) (fun s1 =>
    some ((O_trace s1), s1))

set_option maxHeartbeats 4000000 in
set_option maxRecDepth 100000 in
theorem c_X6_trace {l : Launch} {D : va_G} {tys : List (ClassId × FieldType)} {X : XT} {cs : CS} (ad : Nat → Nat) {F : Nat} {s : SO} {r : (Int64 × SO)} (htyM : tys = tyA cs) (hf : f_X6_trace F s = some r) : Cl l D tys X yX6_trace wsX6_trace rmX6_trace [.ref (ad 0)] (wO cs ad s) r.1 (wO cs ad r.2) := by
  refine Cl_ofG (by decide +kernel) rfl (Nat.le_of_ble_eq_true rfl) (fun E _ _ hty0 hX0 hr => ?_)
  have hty := hty0.trans htyM
  have hr : Rl E kX6_trace r.1 (wO cs ad r.2) := hr
  show G E kX6_trace 0 0 0 [(0, .ref (ad 0))] [] (wO cs ad s)
  unfold f_X6_trace at hf
  refine g_aload_n 0 dX6_trace_0 rfl rfl ?_
  refine g_iconst (v := (0 : Int32)) dX6_trace_1 (by decide) ?_
  obtain ⟨s1, e_s1, hf⟩ := olt_some hf
  refine g_put (ci := 6) (T := TX6) (N := 29) (ty := .int) (w2 := (wO cs ad s1)) 0 0 (.int (0 : Int32)) tyX6 dX6_trace_2 iX6_trace_X6 tyX6_ok nmX6 rfl jX6_trace_54 (by decide) rfl rfl rfl rfl wlaO_0 (Nat.le_of_ble_eq_true rfl) (wlpO_0_0.trans (congrArg (wO cs ad) e_s1)) ?_
  refine g_aload_n 0 dX6_trace_5 rfl rfl ?_
  refine g_get (ci := 6) (T := TX6) (N := 29) 0 1 (.long (O_trace s1)) dX6_trace_6 iX6_trace_X6 rfl jX6_trace_259 (by decide) wlaO_0 rfl ?_
  obtain rfl := Option.some.inj hf
  exact hr _ _ dX6_trace_9
