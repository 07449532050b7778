-- ThumbScale type (JI)I
def rmX5_type : Room := { frames := 1, cells := 0, slots := 0, locals := 22 }
def kX5_type : MK := (cX5_type, 5, RX5, wsX5_type, (some .int), rmX5_type)

set_option maxRecDepth 20000 in
theorem vX5_type_77 : KS kX5_type 77 yX5_within wsX5_within rmX5_within 3 := ⟨_, _, _, _, gX5_type_X5_within, rfl, rfl, rfl, by decide +kernel, ⟨by decide, by decide⟩⟩
set_option maxRecDepth 20000 in
theorem jX5_type_81 : Cond.fieldLink RX5 81 (TX5 1).1 (TX5 1).2.1 (TX5 1).2.2.1 ∈ wsX5_type := by decide +kernel
set_option maxRecDepth 20000 in
theorem iX5_type_X5 : ∀ x ∈ u_ws RX5 TX5 16, x ∈ wsX5_type := by decide +kernel
set_option maxRecDepth 20000 in
theorem jX5_type_9 : Cond.fieldLink RX5 9 (TX5 0).1 (TX5 0).2.1 (TX5 0).2.2.1 ∈ wsX5_type := by decide +kernel
def f_X5_type_L32 (F : Nat) (a1 : Int64) (a3 : Int32) : Nat → Int32 → ST → Option (Int32 × ST)
  | 0, _, _ => none
  | n + 1, x5, s6 =>
    (if x5 < 0 then
    some ((T_textLength s6), s6)
    else
    olt ((Int64.toInt32 ((Int64.toUInt64 a1 >>> (Int64.toUInt64 (Int32.toInt64 ((8 : Int32) * x5)) &&& Int64.toUInt64 63)).toInt64)) &&& (255 : Int32)) (fun z8 =>
    ochi (T_textLength s6) 400 (olt (uT_reader s6 (uR_text (T_reader s6) (upd (R_text (T_reader s6)) (Int32.toNatClampNeg (T_textLength s6)) z8))) (fun s10 =>
    olt ((T_textLength s10) + (1 : Int32)) (fun z11 =>
    olt (uT_textLength s10 z11) (fun s12 =>
    f_X5_type_L32 F a1 a3 n (x5 + (-1)) s12))))))

def f_X5_type (F : Nat) (s : ST) (a1 : Int64) (a3 : Int32) : Option (Int32 × ST) :=
    obd (f_X5_within F a3 (1 : Int32) (8 : Int32)) (fun v1 =>
    (if v1 = 0 then
    some ((-1 : Int32), s)
    else
    (if ((T_textLength s) + a3) ≤ (400 : Int32) then
    f_X5_type_L32 F a1 a3 F (a3 - (1 : Int32)) s
    else
    some ((-3 : Int32), s))))

set_option maxHeartbeats 4000000 in
set_option maxRecDepth 100000 in
theorem w_X5_type_L32 {E : GE} {cs : CS} {ad : Nat → Nat} {F : Nat} {a1 : Int64} {a3 : Int32} {r : (Int32 × ST)} (hty : eT E = tyA cs) (hr : Ri E kX5_type r.1 (wT cs ad r.2)) : ∀ (n : Nat) (x5 : Int32) (s6 : ST), f_X5_type_L32 F a1 a3 n x5 s6 = some r → G E kX5_type 0 0 32 [(0, .ref (ad 0)), (1, .long a1), (4, .int x5)] [] (wT cs ad s6) := by
  intro n
  induction n with
  | zero =>
    intro x5 s6 hf
    cases (show (none : Option (Int32 × ST)) = some r from hf)
  | succ n ih =>
    intro x5 s6 hf
    rw [f_X5_type_L32] at hf
    refine g_iload 2 dX5_type_32 rfl ?_
    refine g_if_lt (tgt := 74) dX5_type_34 (by decide) (fun h7 => ?_) (fun h7 => ?_)
    · have hf := ift h7 hf
      refine g_aload_n 0 dX5_type_74 rfl rfl ?_
      refine g_get (ci := 5) (T := TX5) (N := 16) 0 1 (.int (T_textLength s6)) dX5_type_75 iX5_type_X5 rfl jX5_type_81 (by decide) wlaT_0 rfl ?_
      obtain rfl := Option.some.inj hf
      exact hr _ _ dX5_type_78
    · have hf := iff_ h7 hf
      refine g_aload_n 0 dX5_type_37 rfl rfl ?_
      refine g_get (ci := 5) (T := TX5) (N := 16) 0 0 (.ref (ad 2)) dX5_type_38 iX5_type_X5 rfl jX5_type_9 (by decide) wlaT_0 rfl ?_
      refine g_aload_n 0 dX5_type_41 rfl rfl ?_
      refine g_get (ci := 5) (T := TX5) (N := 16) 0 1 (.int (T_textLength s6)) dX5_type_42 iX5_type_X5 rfl jX5_type_81 (by decide) wlaT_0 rfl ?_
      refine g_lload_n 1 dX5_type_45 rfl rfl ?_
      refine g_bipush (v := (8 : Int32)) dX5_type_46 (by decide) ?_
      refine g_iload 2 dX5_type_48 rfl ?_
      refine g_imul dX5_type_50 ?_
      refine g_lushr dX5_type_51 ?_
      refine g_l2i dX5_type_52 ?_
      refine g_sipush (v := (255 : Int32)) dX5_type_53 (by decide) ?_
      refine g_iand dX5_type_56 ?_
      obtain ⟨z8, e_z8, hf⟩ := olt_some hf
      refine g_cast rfl rfl (congrArg (fun q => Value.int q :: [.int (T_textLength s6), .ref (ad 2)]) e_z8) rfl ?_
      obtain ⟨h9, hf⟩ := ochi_some hf
      obtain ⟨s10, e_s10, hf⟩ := olt_some hf
      refine g_iast (w2 := (wT cs ad s10)) 2 0 dX5_type_57 wlaT_2 (tI hty) h9 (wlsT_2.trans (congrArg (wT cs ad) e_s10)) ?_
      refine g_aload_n 0 dX5_type_58 rfl rfl ?_
      refine g_dup dX5_type_59 rfl ?_
      refine g_get (ci := 5) (T := TX5) (N := 16) 0 1 (.int (T_textLength s10)) dX5_type_60 iX5_type_X5 rfl jX5_type_81 (by decide) wlaT_0 rfl ?_
      refine g_iconst (v := (1 : Int32)) dX5_type_63 (by decide) ?_
      refine g_iadd dX5_type_64 ?_
      obtain ⟨z11, e_z11, hf⟩ := olt_some hf
      refine g_cast rfl rfl (congrArg (fun q => Value.int q :: [.ref (ad 0)]) e_z11) rfl ?_
      obtain ⟨s12, e_s12, hf⟩ := olt_some hf
      refine g_put (ci := 5) (T := TX5) (N := 16) (ty := .int) (w2 := (wT cs ad s12)) 0 1 (.int z11) tyX5 dX5_type_65 iX5_type_X5 tyX5_ok nmX5 rfl jX5_type_81 (by decide) rfl rfl rfl rfl wlaT_0 (Nat.le_of_ble_eq_true rfl) (wlpT_0_1.trans (congrArg (wT cs ad) e_s12)) ?_
      refine g_iinc (lv2 := [(4, .int (x5 + (-1))), (0, .ref (ad 0)), (1, .long a1)]) 2 dX5_type_68 rfl (iim1 _) (by decide) rfl ?_
      refine g_goto (tgt := 32) dX5_type_71 (by decide) ?_
      exact g_sub [1, 2, 0] rfl (ih (x5 + (-1)) s12 hf)

set_option maxHeartbeats 4000000 in
set_option maxRecDepth 100000 in
theorem c_X5_type {l : Launch} {D : va_G} {tys : List (ClassId × FieldType)} {X : XT} {cs : CS} (ad : Nat → Nat) {F : Nat} {s : ST} {a1 : Int64} {a3 : Int32} {r : (Int32 × ST)} (htyM : tys = tyA cs) (hf : f_X5_type F s a1 a3 = some r) : Ci l D tys X yX5_type wsX5_type rmX5_type [.ref (ad 0), .long a1, .int a3] (wT cs ad s) r.1 (wT cs ad r.2) := by
  refine Ci_ofG (by decide +kernel) rfl (Nat.le_of_ble_eq_true rfl) .int rfl (vp_nar_int _) (fun E _ _ hty0 hX0 hr => ?_)
  have hty := hty0.trans htyM
  have hr : Ri E kX5_type r.1 (wT cs ad r.2) := hr
  show G E kX5_type 0 0 0 [(0, .ref (ad 0)), (1, .long a1), (3, .int a3)] [] (wT cs ad s)
  unfold f_X5_type at hf
  refine g_iload_n 2 dX5_type_0 rfl rfl ?_
  refine g_iconst (v := (1 : Int32)) dX5_type_1 (by decide) ?_
  refine g_bipush (v := (8 : Int32)) dX5_type_2 (by decide) ?_
  obtain ⟨v1, hc2, hf⟩ := obd_some hf
  refine g_callSi (As := [.int a3, .int (1 : Int32), .int (8 : Int32)]) (rest := []) (w2 := (wT cs ad s)) 0 dX5_type_4 vX5_type_77 (c_X5_within hty hc2) rfl (midm _) rfl (Nat.le_of_ble_eq_true rfl) ⟨Nat.zero_le _, Nat.zero_le _⟩ (midn _) ?_
  refine g_if_ne (tgt := 12) dX5_type_7 (by decide) (fun h3 => ?_) (fun h3 => ?_)
  · have hf := iff_ h3 hf
    refine g_aload_n 0 dX5_type_12 rfl rfl ?_
    refine g_get (ci := 5) (T := TX5) (N := 16) 0 1 (.int (T_textLength s)) dX5_type_13 iX5_type_X5 rfl jX5_type_81 (by decide) wlaT_0 rfl ?_
    refine g_iload_n 2 dX5_type_16 rfl rfl ?_
    refine g_iadd dX5_type_17 ?_
    refine g_sipush (v := (400 : Int32)) dX5_type_18 (by decide) ?_
    refine g_icmp_le (tgt := 27) dX5_type_21 (by decide) (fun h4 => ?_) (fun h4 => ?_)
    · have hf := ift h4 hf
      refine g_iload_n 2 dX5_type_27 rfl rfl ?_
      refine g_iconst (v := (1 : Int32)) dX5_type_28 (by decide) ?_
      refine g_isub dX5_type_29 ?_
      refine g_istore (lv2 := [(4, .int (a3 - (1 : Int32))), (0, .ref (ad 0)), (1, .long a1), (3, .int a3)]) dX5_type_30 (by decide) rfl ?_
      exact g_sub [1, 2, 0] rfl (w_X5_type_L32 hty hr F (a3 - (1 : Int32)) s hf)
    · have hf := iff_ h4 hf
      refine g_bipush (v := (-3 : Int32)) dX5_type_24 (by decide) ?_
      obtain rfl := Option.some.inj hf
      exact hr _ _ dX5_type_26
  · have hf := ift h3 hf
    refine g_iconst (v := (-1 : Int32)) dX5_type_10 (by decide) ?_
    obtain rfl := Option.some.inj hf
    exact hr _ _ dX5_type_11

-- ThumbScale clear ()I
def rmX5_clear : Room := { frames := 0, cells := 0, slots := 0, locals := 0 }
def kX5_clear : MK := (cX5_clear, 2, RX5, wsX5_clear, (some .int), rmX5_clear)

set_option maxRecDepth 20000 in
theorem jX5_clear_81 : Cond.fieldLink RX5 81 (TX5 1).1 (TX5 1).2.1 (TX5 1).2.2.1 ∈ wsX5_clear := by decide +kernel
set_option maxRecDepth 20000 in
theorem iX5_clear_X5 : ∀ x ∈ u_ws RX5 TX5 16, x ∈ wsX5_clear := by decide +kernel
def f_X5_clear (F : Nat) (s : ST) : Option (Int32 × ST) :=
    olt (uT_textLength s (0 : Int32)) (fun s1 =>
    some ((T_textLength s), s1))

set_option maxHeartbeats 4000000 in
set_option maxRecDepth 100000 in
theorem c_X5_clear {l : Launch} {D : va_G} {tys : List (ClassId × FieldType)} {X : XT} {cs : CS} (ad : Nat → Nat) {F : Nat} {s : ST} {r : (Int32 × ST)} (htyM : tys = tyA cs) (hf : f_X5_clear F s = some r) : Ci l D tys X yX5_clear wsX5_clear rmX5_clear [.ref (ad 0)] (wT cs ad s) r.1 (wT cs ad r.2) := by
  refine Ci_ofG (by decide +kernel) rfl (Nat.le_of_ble_eq_true rfl) .int rfl (vp_nar_int _) (fun E _ _ hty0 hX0 hr => ?_)
  have hty := hty0.trans htyM
  have hr : Ri E kX5_clear r.1 (wT cs ad r.2) := hr
  show G E kX5_clear 0 0 0 [(0, .ref (ad 0))] [] (wT cs ad s)
  unfold f_X5_clear at hf
  refine g_aload_n 0 dX5_clear_0 rfl rfl ?_
  refine g_get (ci := 5) (T := TX5) (N := 16) 0 1 (.int (T_textLength s)) dX5_clear_1 iX5_clear_X5 rfl jX5_clear_81 (by decide) wlaT_0 rfl ?_
  refine g_istore_n (lv2 := [(1, .int (T_textLength s)), (0, .ref (ad 0))]) dX5_clear_4 rfl (by decide) rfl ?_
  refine g_aload_n 1 dX5_clear_5 rfl rfl ?_
  refine g_iconst (v := (0 : Int32)) dX5_clear_6 (by decide) ?_
  obtain ⟨s1, e_s1, hf⟩ := olt_some hf
  refine g_put (ci := 5) (T := TX5) (N := 16) (ty := .int) (w2 := (wT cs ad s1)) 0 1 (.int (0 : Int32)) tyX5 dX5_clear_7 iX5_clear_X5 tyX5_ok nmX5 rfl jX5_clear_81 (by decide) rfl rfl rfl rfl wlaT_0 (Nat.le_of_ble_eq_true rfl) (wlpT_0_1.trans (congrArg (wT cs ad) e_s1)) ?_
  refine g_iload_n 0 dX5_clear_10 rfl rfl ?_
  obtain rfl := Option.some.inj hf
  exact hr _ _ dX5_clear_11

-- ThumbScale market ()I
def rmX5_market : Room := { frames := 10, cells := 0, slots := 0, locals := 216 }
def kX5_market : MK := (cX5_market, 3, RX5, wsX5_market, (some .int), rmX5_market)

set_option maxRecDepth 20000 in
theorem jX5_market_28 : Cond.fieldLink RX5 28 (TX5 2).1 (TX5 2).2.1 (TX5 2).2.2.1 ∈ wsX5_market := by decide +kernel
set_option maxRecDepth 20000 in
theorem iX5_market_X5 : ∀ x ∈ u_ws RX5 TX5 16, x ∈ wsX5_market := by decide +kernel
set_option maxRecDepth 20000 in
theorem jX5_market_81 : Cond.fieldLink RX5 81 (TX5 1).1 (TX5 1).2.1 (TX5 1).2.2.1 ∈ wsX5_market := by decide +kernel
set_option maxRecDepth 20000 in
theorem vX5_market_84 : KV kX5_market 84 RX3 yX3_read wsX3_read rmX3_read 1 := ⟨_, _, _, _, gX5_market_X3_read, rfl, rfl, rfl, by decide +kernel, ⟨by decide, by decide⟩⟩
set_option maxRecDepth 20000 in
theorem jX5_market_16 : Cond.fieldLink RX5 16 (TX5 3).1 (TX5 3).2.1 (TX5 3).2.2.1 ∈ wsX5_market := by decide +kernel
set_option maxRecDepth 20000 in
theorem jX5_market_20 : Cond.fieldLink RX5 20 (TX5 4).1 (TX5 4).2.1 (TX5 4).2.2.1 ∈ wsX5_market := by decide +kernel
set_option maxRecDepth 20000 in
theorem vX5_market_88 : KV kX5_market 88 RX2 yX2_become wsX2_become rmX2_become 1 := ⟨_, _, _, _, gX5_market_X2_become, rfl, rfl, rfl, by decide +kernel, ⟨by decide, by decide⟩⟩
set_option maxRecDepth 20000 in
theorem jX5_market_38 : Cond.fieldLink RX5 38 (TX5 6).1 (TX5 6).2.1 (TX5 6).2.2.1 ∈ wsX5_market := by decide +kernel
set_option maxRecDepth 20000 in
theorem vX5_market_92 : KV kX5_market 92 RX0 yX0_forgetMarket wsX0_forgetMarket rmX0_forgetMarket 0 := ⟨_, _, _, _, gX5_market_X0_forgetMarket, rfl, rfl, rfl, by decide +kernel, ⟨by decide, by decide⟩⟩
set_option maxRecDepth 20000 in
theorem jX5_market_50 : Cond.fieldLink RX5 50 (TX5 8).1 (TX5 8).2.1 (TX5 8).2.2.1 ∈ wsX5_market := by decide +kernel
set_option maxRecDepth 20000 in
theorem jX5_market_32 : Cond.fieldLink RX5 32 (TX5 5).1 (TX5 5).2.1 (TX5 5).2.2.1 ∈ wsX5_market := by decide +kernel
def f_X5_market_L64 (F : Nat) (x17 : Int32) : Nat → Int32 → ST → Option (Int32 × ST)
  | 0, _, _ => none
  | n + 1, x15, s16 =>
    (if (2 : Int32) ≤ x15 then
    some (x17, s16)
    else
    ochi x15 2 (olt (uT_kept s16 (upd (T_kept s16) (Int32.toNatClampNeg x15) (vp_nar .boolean (0 : Int32)))) (fun s20 =>
    f_X5_market_L64 F x17 n (x15 + 1) s20)))

def f_X5_market_L43 (F : Nat) (x13 : Int32) : Nat → Int32 → ST → Option (Int32 × ST)
  | 0, _, _ => none
  | n + 1, x11, s12 =>
    (if (6 : Int32) ≤ x11 then
    f_X5_market_L64 F x13 F (0 : Int32) s12
    else
    ochi x11 6 (olt (uT_beliefs s12 (upd (T_beliefs s12) (Int32.toNatClampNeg x11) (1 : Int32))) (fun s22 =>
    f_X5_market_L43 F x13 n (x11 + 1) s22)))

def f_X5_market (F : Nat) (s : ST) : Option (Int32 × ST) :=
    obd (f_X3_read F (T_reader s) (T_textLength s)) (fun v1 =>
    olt (uT_reader s v1.2) (fun s3 =>
    (if 0 ≤ v1.1 then
    obd (f_X2_become_11_3 F s3) (fun v5 =>
    olt (uT_textLength v5 (0 : Int32)) (fun s7 =>
    obd (f_X0_forgetMarket F (T_book s7)) (fun v8 =>
    olt (uT_book s7 v8) (fun s10 =>
    f_X5_market_L43 F v1.1 F (0 : Int32) s10))))
    else
    some (v1.1, s3))))

set_option maxHeartbeats 4000000 in
set_option maxRecDepth 100000 in
theorem w_X5_market_L64 {E : GE} {cs : CS} {ad : Nat → Nat} {F : Nat} {x17 : Int32} {r : (Int32 × ST)} (hty : eT E = tyA cs) {P : XP} (hN : eX E = XS P) (hr : Ri E kX5_market r.1 (wT cs ad r.2)) : ∀ (n : Nat) (x15 : Int32) (s16 : ST), f_X5_market_L64 F x17 n x15 s16 = some r → G E kX5_market 0 0 64 [(0, .ref (ad 0)), (1, .int x17), (2, .int x15)] [] (wT cs ad s16) := by
  intro n
  induction n with
  | zero =>
    intro x15 s16 hf
    cases (show (none : Option (Int32 × ST)) = some r from hf)
  | succ n ih =>
    intro x15 s16 hf
    rw [f_X5_market_L64] at hf
    refine g_iload_n 2 dX5_market_64 rfl rfl ?_
    refine g_iconst (v := (2 : Int32)) dX5_market_65 (by decide) ?_
    refine g_icmp_ge (tgt := 82) dX5_market_66 (by decide) (fun h18 => ?_) (fun h18 => ?_)
    · have hf := ift h18 hf
      refine g_iload_n 1 dX5_market_82 rfl rfl ?_
      obtain rfl := Option.some.inj hf
      exact hr _ _ dX5_market_83
    · have hf := iff_ h18 hf
      refine g_aload_n 0 dX5_market_69 rfl rfl ?_
      refine g_get (ci := 5) (T := TX5) (N := 16) 0 8 (.ref (ad 31)) dX5_market_70 iX5_market_X5 rfl jX5_market_50 (by decide) wlaT_0 rfl ?_
      refine g_iload_n 2 dX5_market_73 rfl rfl ?_
      refine g_iconst (v := (0 : Int32)) dX5_market_74 (by decide) ?_
      obtain ⟨h19, hf⟩ := ochi_some hf
      obtain ⟨s20, e_s20, hf⟩ := olt_some hf
      refine g_zast (w2 := (wT cs ad s20)) 31 2 dX5_market_75 wlaT_31 (tZ hty) h19 (wlsT_31.trans (congrArg (wT cs ad) e_s20)) ?_
      refine g_iinc (lv2 := [(2, .int (x15 + 1)), (0, .ref (ad 0)), (1, .int x17)]) 2 dX5_market_76 rfl (ii1 _) (by decide) rfl ?_
      refine g_goto (tgt := 64) dX5_market_79 (by decide) ?_
      exact g_sub [1, 2, 0] rfl (ih (x15 + 1) s20 hf)

set_option maxHeartbeats 4000000 in
set_option maxRecDepth 100000 in
theorem w_X5_market_L43 {E : GE} {cs : CS} {ad : Nat → Nat} {F : Nat} {x13 : Int32} {r : (Int32 × ST)} (hty : eT E = tyA cs) {P : XP} (hN : eX E = XS P) (hr : Ri E kX5_market r.1 (wT cs ad r.2)) : ∀ (n : Nat) (x11 : Int32) (s12 : ST), f_X5_market_L43 F x13 n x11 s12 = some r → G E kX5_market 0 0 43 [(0, .ref (ad 0)), (1, .int x13), (2, .int x11)] [] (wT cs ad s12) := by
  intro n
  induction n with
  | zero =>
    intro x11 s12 hf
    cases (show (none : Option (Int32 × ST)) = some r from hf)
  | succ n ih =>
    intro x11 s12 hf
    rw [f_X5_market_L43] at hf
    refine g_iload_n 2 dX5_market_43 rfl rfl ?_
    refine g_bipush (v := (6 : Int32)) dX5_market_44 (by decide) ?_
    refine g_icmp_ge (tgt := 62) dX5_market_46 (by decide) (fun h14 => ?_) (fun h14 => ?_)
    · have hf := ift h14 hf
      refine g_iconst (v := (0 : Int32)) dX5_market_62 (by decide) ?_
      refine g_istore_n (lv2 := [(2, .int (0 : Int32)), (0, .ref (ad 0)), (1, .int x13)]) dX5_market_63 rfl (by decide) rfl ?_
      exact g_sub [1, 2, 0] rfl (w_X5_market_L64 hty hN hr F (0 : Int32) s12 hf)
    · have hf := iff_ h14 hf
      refine g_aload_n 0 dX5_market_49 rfl rfl ?_
      refine g_get (ci := 5) (T := TX5) (N := 16) 0 5 (.ref (ad 19)) dX5_market_50 iX5_market_X5 rfl jX5_market_32 (by decide) wlaT_0 rfl ?_
      refine g_iload_n 2 dX5_market_53 rfl rfl ?_
      refine g_iconst (v := (1 : Int32)) dX5_market_54 (by decide) ?_
      obtain ⟨h21, hf⟩ := ochi_some hf
      obtain ⟨s22, e_s22, hf⟩ := olt_some hf
      refine g_iast (w2 := (wT cs ad s22)) 19 0 dX5_market_55 wlaT_19 (tI hty) h21 (wlsT_19.trans (congrArg (wT cs ad) e_s22)) ?_
      refine g_iinc (lv2 := [(2, .int (x11 + 1)), (0, .ref (ad 0)), (1, .int x13)]) 2 dX5_market_56 rfl (ii1 _) (by decide) rfl ?_
      refine g_goto (tgt := 43) dX5_market_59 (by decide) ?_
      exact g_sub [1, 2, 0] rfl (ih (x11 + 1) s22 hf)

set_option maxHeartbeats 4000000 in
set_option maxRecDepth 100000 in
theorem c_X5_market {l : Launch} {D : va_G} {tys : List (ClassId × FieldType)} {X : XT} {cs : CS} (ad : Nat → Nat) {F : Nat} {s : ST} {r : (Int32 × ST)} (htyM : tys = tyA cs) {P : XP} (hNX : X = XS P) (hf : f_X5_market F s = some r) : Ci l D tys X yX5_market wsX5_market rmX5_market [.ref (ad 0)] (wT cs ad s) r.1 (wT cs ad r.2) := by
  refine Ci_ofG (by decide +kernel) rfl (Nat.le_of_ble_eq_true rfl) .int rfl (vp_nar_int _) (fun E _ _ hty0 hX0 hr => ?_)
  have hty := hty0.trans htyM
  have hN := hX0.trans hNX
  have hr : Ri E kX5_market r.1 (wT cs ad r.2) := hr
  show G E kX5_market 0 0 0 [(0, .ref (ad 0))] [] (wT cs ad s)
  unfold f_X5_market at hf
  refine g_aload_n 0 dX5_market_0 rfl rfl ?_
  refine g_get (ci := 5) (T := TX5) (N := 16) 0 2 (.ref (ad 1)) dX5_market_1 iX5_market_X5 rfl jX5_market_28 (by decide) wlaT_0 rfl ?_
  refine g_aload_n 0 dX5_market_4 rfl rfl ?_
  refine g_get (ci := 5) (T := TX5) (N := 16) 0 1 (.int (T_textLength s)) dX5_market_5 iX5_market_X5 rfl jX5_market_81 (by decide) wlaT_0 rfl ?_
  obtain ⟨v1, hc2, hf⟩ := obd_some hf
  obtain ⟨s3, e_s3, hf⟩ := olt_some hf
  refine g_callVi (ci := 3) (As := [.int (T_textLength s)]) (rest := []) (w2 := (wT cs ad s3)) 1 dX5_market_8 vX5_market_84 (c_X3_read (fun k => ad (1 + k)) hty hN hc2) rfl wlhT_1 rfl rfl 0 wlaR_0 rfl (Nat.le_of_ble_eq_true rfl) ⟨Nat.zero_le _, Nat.zero_le _⟩ (wlcT_1.trans (congrArg (wT cs ad) e_s3)) ?_
  refine g_istore_n (lv2 := [(1, .int v1.1), (0, .ref (ad 0))]) dX5_market_11 rfl (by decide) rfl ?_
  refine g_iload_n 0 dX5_market_12 rfl rfl ?_
  refine g_if_ge (tgt := 18) dX5_market_13 (by decide) (fun h4 => ?_) (fun h4 => ?_)
  · have hf := ift h4 hf
    refine g_aload_n 1 dX5_market_18 rfl rfl ?_
    refine g_get (ci := 5) (T := TX5) (N := 16) 0 3 (.ref (ad 11)) dX5_market_19 iX5_market_X5 rfl jX5_market_16 (by decide) wlaT_0 rfl ?_
    refine g_aload_n 1 dX5_market_22 rfl rfl ?_
    refine g_get (ci := 5) (T := TX5) (N := 16) 0 4 (.ref (ad 3)) dX5_market_23 iX5_market_X5 rfl jX5_market_20 (by decide) wlaT_0 rfl ?_
    obtain ⟨v5, hc6, hf⟩ := obd_some hf
    refine g_callVv (ci := 2) (As := [.ref (ad 3)]) (rest := []) (w2 := (wT cs ad v5)) 0 dX5_market_26 vX5_market_88 (c_X2_become_11_3 ad hty hc6) rfl (mid0 _) rfl rfl 11 wlaT_11 rfl (Nat.le_of_ble_eq_true rfl) ⟨Nat.zero_le _, Nat.zero_le _⟩ (mid2 _ _) ?_
    refine g_aload_n 1 dX5_market_29 rfl rfl ?_
    refine g_iconst (v := (0 : Int32)) dX5_market_30 (by decide) ?_
    obtain ⟨s7, e_s7, hf⟩ := olt_some hf
    refine g_put (ci := 5) (T := TX5) (N := 16) (ty := .int) (w2 := (wT cs ad s7)) 0 1 (.int (0 : Int32)) tyX5 dX5_market_31 iX5_market_X5 tyX5_ok nmX5 rfl jX5_market_81 (by decide) rfl rfl rfl rfl wlaT_0 (Nat.le_of_ble_eq_true rfl) (wlpT_0_1.trans (congrArg (wT cs ad) e_s7)) ?_
    refine g_aload_n 1 dX5_market_34 rfl rfl ?_
    refine g_get (ci := 5) (T := TX5) (N := 16) 0 6 (.ref (ad 20)) dX5_market_35 iX5_market_X5 rfl jX5_market_38 (by decide) wlaT_0 rfl ?_
    obtain ⟨v8, hc9, hf⟩ := obd_some hf
    obtain ⟨s10, e_s10, hf⟩ := olt_some hf
    refine g_callVv (ci := 0) (As := []) (rest := []) (w2 := (wT cs ad s10)) 20 dX5_market_38 vX5_market_92 (c_X0_forgetMarket (fun k => ad (20 + k)) hty hc9) rfl wlhT_20 rfl rfl 0 wlaB_0 rfl (Nat.le_of_ble_eq_true rfl) ⟨Nat.zero_le _, Nat.zero_le _⟩ (wlcT_20.trans (congrArg (wT cs ad) e_s10)) ?_
    refine g_iconst (v := (0 : Int32)) dX5_market_41 (by decide) ?_
    refine g_istore_n (lv2 := [(2, .int (0 : Int32)), (1, .int v1.1), (0, .ref (ad 0))]) dX5_market_42 rfl (by decide) rfl ?_
    exact g_sub [2, 1, 0] rfl (w_X5_market_L43 hty hN hr F (0 : Int32) s10 hf)
  · have hf := iff_ h4 hf
    refine g_iload_n 0 dX5_market_16 rfl rfl ?_
    obtain rfl := Option.some.inj hf
    exact hr _ _ dX5_market_17

-- ThumbScale stall (II)I
def rmX5_stall : Room := { frames := 2, cells := 0, slots := 0, locals := 47 }
def kX5_stall : MK := (cX5_stall, 3, RX5, wsX5_stall, (some .int), rmX5_stall)

set_option maxRecDepth 20000 in
theorem vX5_stall_95 : KV kX5_stall 95 RX5 yX5_isStall wsX5_isStall rmX5_isStall 1 := ⟨_, _, _, _, gX5_stall_X5_isStall, rfl, rfl, rfl, by decide +kernel, ⟨by decide, by decide⟩⟩
set_option maxRecDepth 20000 in
theorem jX5_stall_16 : Cond.fieldLink RX5 16 (TX5 3).1 (TX5 3).2.1 (TX5 3).2.2.1 ∈ wsX5_stall := by decide +kernel
set_option maxRecDepth 20000 in
theorem iX5_stall_X5 : ∀ x ∈ u_ws RX5 TX5 16, x ∈ wsX5_stall := by decide +kernel
set_option maxRecDepth 20000 in
theorem jX5_stall_99 : Cond.fieldLink RX5 99 (TX2 4).1 (TX2 4).2.1 (TX2 4).2.2.1 ∈ wsX5_stall := by decide +kernel
set_option maxRecDepth 20000 in
theorem iX5_stall_X2 : ∀ x ∈ u_ws RX2 TX2 12, x ∈ wsX5_stall := by decide +kernel
set_option maxRecDepth 20000 in
theorem jX5_stall_102 : Cond.fieldLink RX5 102 (TX2 5).1 (TX2 5).2.1 (TX2 5).2.2.1 ∈ wsX5_stall := by decide +kernel
set_option maxRecDepth 20000 in
theorem jX5_stall_105 : Cond.fieldLink RX5 105 (TX2 6).1 (TX2 6).2.1 (TX2 6).2.2.1 ∈ wsX5_stall := by decide +kernel
set_option maxRecDepth 20000 in
theorem jX5_stall_38 : Cond.fieldLink RX5 38 (TX5 6).1 (TX5 6).2.1 (TX5 6).2.2.1 ∈ wsX5_stall := by decide +kernel
set_option maxRecDepth 20000 in
theorem vX5_stall_108 : KV kX5_stall 108 RX0 yX0_bagsOf wsX0_bagsOf rmX0_bagsOf 2 := ⟨_, _, _, _, gX5_stall_X0_bagsOf, rfl, rfl, rfl, by decide +kernel, ⟨by decide, by decide⟩⟩
set_option maxRecDepth 20000 in
theorem vX5_stall_112 : KV kX5_stall 112 RX0 yX0_trialsOf wsX0_trialsOf rmX0_trialsOf 1 := ⟨_, _, _, _, gX5_stall_X0_trialsOf, rfl, rfl, rfl, by decide +kernel, ⟨by decide, by decide⟩⟩
def f_X5_stall (F : Nat) (s : ST) (a1 : Int32) (a2 : Int32) : Option Int32 :=
    obd (f_X5_isStall F s a1) (fun v1 =>
    (if v1 = 0 then
    some (-1 : Int32)
    else
    (if a2 = (0 : Int32) then
    ochi a1 6 (
    some ((M_step (T_market s)) (Int32.toNatClampNeg a1)))
    else
    (if a2 = (1 : Int32) then
    ochi a1 6 (
    some ((M_dry (T_market s)) (Int32.toNatClampNeg a1)))
    else
    (if a2 = (2 : Int32) then
    ochi a1 6 (
    some ((M_price (T_market s)) (Int32.toNatClampNeg a1)))
    else
    (if a2 = (3 : Int32) then
    obd (f_X0_bagsOf F (T_book s) a1 (15 : Int32)) (fun v12 =>
    some v12)
    else
    (if a2 = (4 : Int32) then
    obd (f_X0_trialsOf F (T_book s) a1) (fun v15 =>
    some v15)
    else
    some (-1 : Int32))))))))

set_option maxHeartbeats 4000000 in
set_option maxRecDepth 100000 in
theorem c_X5_stall {l : Launch} {D : va_G} {tys : List (ClassId × FieldType)} {X : XT} {cs : CS} (ad : Nat → Nat) {F : Nat} {s : ST} {a1 : Int32} {a2 : Int32} {r : Int32} (htyM : tys = tyA cs) (hf : f_X5_stall F s a1 a2 = some r) : Ci l D tys X yX5_stall wsX5_stall rmX5_stall [.ref (ad 0), .int a1, .int a2] (wT cs ad s) r (wT cs ad s) := by
  refine Ci_ofG (by decide +kernel) rfl (Nat.le_of_ble_eq_true rfl) .int rfl (vp_nar_int _) (fun E _ _ hty0 hX0 hr => ?_)
  have hty := hty0.trans htyM
  have hr : Ri E kX5_stall r (wT cs ad s) := hr
  show G E kX5_stall 0 0 0 [(0, .ref (ad 0)), (1, .int a1), (2, .int a2)] [] (wT cs ad s)
  unfold f_X5_stall at hf
  refine g_aload_n 0 dX5_stall_0 rfl rfl ?_
  refine g_iload_n 1 dX5_stall_1 rfl rfl ?_
  obtain ⟨v1, hc2, hf⟩ := obd_some hf
  refine g_callVi (ci := 5) (As := [.int a1]) (rest := []) (w2 := (wT cs ad s)) 0 dX5_stall_2 vX5_stall_95 (c_X5_isStall ad hty hc2) rfl (mid0 _) rfl rfl 0 wlaT_0 rfl (Nat.le_of_ble_eq_true rfl) ⟨Nat.zero_le _, Nat.zero_le _⟩ (mid2 _ _) ?_
  refine g_if_ne (tgt := 10) dX5_stall_5 (by decide) (fun h3 => ?_) (fun h3 => ?_)
  · have hf := iff_ h3 hf
    refine g_iload_n 2 dX5_stall_10 rfl rfl ?_
    by_cases h5 : a2 = (0 : Int32)
    · have hf := ift h5 hf
      refine g_tableIn (off := 33) (tgt := 44) dX5_stall_11 (by rw [h5] <;> decide) (by rw [h5] <;> decide) (by rw [h5] <;> decide) (by decide) ?_
      refine g_aload_n 0 dX5_stall_44 rfl rfl ?_
      refine g_get (ci := 5) (T := TX5) (N := 16) 0 3 (.ref (ad 11)) dX5_stall_45 iX5_stall_X5 rfl jX5_stall_16 (by decide) wlaT_0 rfl ?_
      refine g_get (ci := 2) (T := TX2) (N := 12) 11 4 (.ref (ad 12)) dX5_stall_48 iX5_stall_X2 rfl jX5_stall_99 (by decide) wlaT_11 rfl ?_
      refine g_iload_n 1 dX5_stall_51 rfl rfl ?_
      obtain ⟨h6, hf⟩ := ochi_some hf
      refine g_iald 12 0 dX5_stall_52 wlaT_12 (tI hty) h6 ?_
      obtain rfl := Option.some.inj hf
      exact hr _ _ dX5_stall_53
    · have hf := iff_ h5 hf
      by_cases h7 : a2 = (1 : Int32)
      · have hf := ift h7 hf
        refine g_tableIn (off := 43) (tgt := 54) dX5_stall_11 (by rw [h7] <;> decide) (by rw [h7] <;> decide) (by rw [h7] <;> decide) (by decide) ?_
        refine g_aload_n 0 dX5_stall_54 rfl rfl ?_
        refine g_get (ci := 5) (T := TX5) (N := 16) 0 3 (.ref (ad 11)) dX5_stall_55 iX5_stall_X5 rfl jX5_stall_16 (by decide) wlaT_0 rfl ?_
        refine g_get (ci := 2) (T := TX2) (N := 12) 11 5 (.ref (ad 13)) dX5_stall_58 iX5_stall_X2 rfl jX5_stall_102 (by decide) wlaT_11 rfl ?_
        refine g_iload_n 1 dX5_stall_61 rfl rfl ?_
        obtain ⟨h8, hf⟩ := ochi_some hf
        refine g_iald 13 0 dX5_stall_62 wlaT_13 (tI hty) h8 ?_
        obtain rfl := Option.some.inj hf
        exact hr _ _ dX5_stall_63
      · have hf := iff_ h7 hf
        by_cases h9 : a2 = (2 : Int32)
        · have hf := ift h9 hf
          refine g_tableIn (off := 53) (tgt := 64) dX5_stall_11 (by rw [h9] <;> decide) (by rw [h9] <;> decide) (by rw [h9] <;> decide) (by decide) ?_
          refine g_aload_n 0 dX5_stall_64 rfl rfl ?_
          refine g_get (ci := 5) (T := TX5) (N := 16) 0 3 (.ref (ad 11)) dX5_stall_65 iX5_stall_X5 rfl jX5_stall_16 (by decide) wlaT_0 rfl ?_
          refine g_get (ci := 2) (T := TX2) (N := 12) 11 6 (.ref (ad 14)) dX5_stall_68 iX5_stall_X2 rfl jX5_stall_105 (by decide) wlaT_11 rfl ?_
          refine g_iload_n 1 dX5_stall_71 rfl rfl ?_
          obtain ⟨h10, hf⟩ := ochi_some hf
          refine g_iald 14 0 dX5_stall_72 wlaT_14 (tI hty) h10 ?_
          obtain rfl := Option.some.inj hf
          exact hr _ _ dX5_stall_73
        · have hf := iff_ h9 hf
          by_cases h11 : a2 = (3 : Int32)
          · have hf := ift h11 hf
            refine g_tableIn (off := 63) (tgt := 74) dX5_stall_11 (by rw [h11] <;> decide) (by rw [h11] <;> decide) (by rw [h11] <;> decide) (by decide) ?_
            refine g_aload_n 0 dX5_stall_74 rfl rfl ?_
            refine g_get (ci := 5) (T := TX5) (N := 16) 0 6 (.ref (ad 20)) dX5_stall_75 iX5_stall_X5 rfl jX5_stall_38 (by decide) wlaT_0 rfl ?_
            refine g_iload_n 1 dX5_stall_78 rfl rfl ?_
            refine g_bipush (v := (15 : Int32)) dX5_stall_79 (by decide) ?_
            obtain ⟨v12, hc13, hf⟩ := obd_some hf
            refine g_callVi (ci := 0) (As := [.int a1, .int (15 : Int32)]) (rest := []) (w2 := (wT cs ad s)) 20 dX5_stall_81 vX5_stall_108 (c_X0_bagsOf (fun k => ad (20 + k)) hty hc13) rfl wlhT_20 rfl rfl 0 wlaB_0 rfl (Nat.le_of_ble_eq_true rfl) ⟨Nat.zero_le _, Nat.zero_le _⟩ wlrT_20 ?_
            obtain rfl := Option.some.inj hf
            exact hr _ _ dX5_stall_84
          · have hf := iff_ h11 hf
            by_cases h14 : a2 = (4 : Int32)
            · have hf := ift h14 hf
              refine g_tableIn (off := 74) (tgt := 85) dX5_stall_11 (by rw [h14] <;> decide) (by rw [h14] <;> decide) (by rw [h14] <;> decide) (by decide) ?_
              refine g_aload_n 0 dX5_stall_85 rfl rfl ?_
              refine g_get (ci := 5) (T := TX5) (N := 16) 0 6 (.ref (ad 20)) dX5_stall_86 iX5_stall_X5 rfl jX5_stall_38 (by decide) wlaT_0 rfl ?_
              refine g_iload_n 1 dX5_stall_89 rfl rfl ?_
              obtain ⟨v15, hc16, hf⟩ := obd_some hf
              refine g_callVi (ci := 0) (As := [.int a1]) (rest := []) (w2 := (wT cs ad s)) 20 dX5_stall_90 vX5_stall_112 (c_X0_trialsOf (fun k => ad (20 + k)) hty hc16) rfl wlhT_20 rfl rfl 0 wlaB_0 rfl (Nat.le_of_ble_eq_true rfl) ⟨Nat.zero_le _, Nat.zero_le _⟩ wlrT_20 ?_
              obtain rfl := Option.some.inj hf
              exact hr _ _ dX5_stall_93
            · have hf := iff_ h14 hf
              have n_h5 := lv_neT (a := 0) h5 (by decide)
              have n_h7 := lv_neT (a := 1) h7 (by decide)
              have n_h9 := lv_neT (a := 2) h9 (by decide)
              have n_h11 := lv_neT (a := 3) h11 (by decide)
              have n_h14 := lv_neT (a := 4) h14 (by decide)
              refine g_tableOut (tgt := 94) dX5_stall_11 (by omega) (by decide) ?_
              refine g_iconst (v := (-1 : Int32)) dX5_stall_94 (by decide) ?_
              obtain rfl := Option.some.inj hf
              exact hr _ _ dX5_stall_95
  · have hf := ift h3 hf
    refine g_iconst (v := (-1 : Int32)) dX5_stall_8 (by decide) ?_
    obtain rfl := Option.some.inj hf
    exact hr _ _ dX5_stall_9

-- ThumbScale way (II)I
def rmX5_way : Room := { frames := 1, cells := 0, slots := 0, locals := 21 }
def kX5_way : MK := (cX5_way, 3, RX5, wsX5_way, (some .int), rmX5_way)

set_option maxRecDepth 20000 in
theorem vX5_way_115 : KV kX5_way 115 RX5 yX5_isWay wsX5_isWay rmX5_isWay 1 := ⟨_, _, _, _, gX5_way_X5_isWay, rfl, rfl, rfl, by decide +kernel, ⟨by decide, by decide⟩⟩
set_option maxRecDepth 20000 in
theorem jX5_way_16 : Cond.fieldLink RX5 16 (TX5 3).1 (TX5 3).2.1 (TX5 3).2.2.1 ∈ wsX5_way := by decide +kernel
set_option maxRecDepth 20000 in
theorem iX5_way_X5 : ∀ x ∈ u_ws RX5 TX5 16, x ∈ wsX5_way := by decide +kernel
set_option maxRecDepth 20000 in
theorem jX5_way_118 : Cond.fieldLink RX5 118 (TX2 8).1 (TX2 8).2.1 (TX2 8).2.2.1 ∈ wsX5_way := by decide +kernel
set_option maxRecDepth 20000 in
theorem iX5_way_X2 : ∀ x ∈ u_ws RX2 TX2 12, x ∈ wsX5_way := by decide +kernel
set_option maxRecDepth 20000 in
theorem jX5_way_121 : Cond.fieldLink RX5 121 (TX2 9).1 (TX2 9).2.1 (TX2 9).2.2.1 ∈ wsX5_way := by decide +kernel
set_option maxRecDepth 20000 in
theorem jX5_way_124 : Cond.fieldLink RX5 124 (TX2 10).1 (TX2 10).2.1 (TX2 10).2.2.1 ∈ wsX5_way := by decide +kernel
set_option maxRecDepth 20000 in
theorem jX5_way_127 : Cond.fieldLink RX5 127 (TX2 11).1 (TX2 11).2.1 (TX2 11).2.2.1 ∈ wsX5_way := by decide +kernel
def f_X5_way (F : Nat) (s : ST) (a1 : Int32) (a2 : Int32) : Option Int32 :=
    obd (f_X5_isWay F s a1) (fun v1 =>
    (if v1 = 0 then
    some (-1 : Int32)
    else
    (if a2 = (0 : Int32) then
    ochi a1 6 (
    some ((M_shape (T_market s)) (Int32.toNatClampNeg a1)))
    else
    (if a2 = (1 : Int32) then
    ochi a1 6 (
    some ((M_grains (T_market s)) (Int32.toNatClampNeg a1)))
    else
    (if a2 = (2 : Int32) then
    ochi a1 6 (
    some ((M_oneIn (T_market s)) (Int32.toNatClampNeg a1)))
    else
    (if a2 = (3 : Int32) then
    ochi a1 6 (
    some ((M_sorts (T_market s)) (Int32.toNatClampNeg a1)))
    else
    some (-1 : Int32)))))))

set_option maxHeartbeats 4000000 in
set_option maxRecDepth 100000 in
theorem c_X5_way {l : Launch} {D : va_G} {tys : List (ClassId × FieldType)} {X : XT} {cs : CS} (ad : Nat → Nat) {F : Nat} {s : ST} {a1 : Int32} {a2 : Int32} {r : Int32} (htyM : tys = tyA cs) (hf : f_X5_way F s a1 a2 = some r) : Ci l D tys X yX5_way wsX5_way rmX5_way [.ref (ad 0), .int a1, .int a2] (wT cs ad s) r (wT cs ad s) := by
  refine Ci_ofG (by decide +kernel) rfl (Nat.le_of_ble_eq_true rfl) .int rfl (vp_nar_int _) (fun E _ _ hty0 hX0 hr => ?_)
  have hty := hty0.trans htyM
  have hr : Ri E kX5_way r (wT cs ad s) := hr
  show G E kX5_way 0 0 0 [(0, .ref (ad 0)), (1, .int a1), (2, .int a2)] [] (wT cs ad s)
  unfold f_X5_way at hf
  refine g_aload_n 0 dX5_way_0 rfl rfl ?_
  refine g_iload_n 1 dX5_way_1 rfl rfl ?_
  obtain ⟨v1, hc2, hf⟩ := obd_some hf
  refine g_callVi (ci := 5) (As := [.int a1]) (rest := []) (w2 := (wT cs ad s)) 0 dX5_way_2 vX5_way_115 (c_X5_isWay ad hty hc2) rfl (mid0 _) rfl rfl 0 wlaT_0 rfl (Nat.le_of_ble_eq_true rfl) ⟨Nat.zero_le _, Nat.zero_le _⟩ (mid2 _ _) ?_
  refine g_if_ne (tgt := 10) dX5_way_5 (by decide) (fun h3 => ?_) (fun h3 => ?_)
  · have hf := iff_ h3 hf
    refine g_iload_n 2 dX5_way_10 rfl rfl ?_
    by_cases h5 : a2 = (0 : Int32)
    · have hf := ift h5 hf
      refine g_tableIn (off := 29) (tgt := 40) dX5_way_11 (by rw [h5] <;> decide) (by rw [h5] <;> decide) (by rw [h5] <;> decide) (by decide) ?_
      refine g_aload_n 0 dX5_way_40 rfl rfl ?_
      refine g_get (ci := 5) (T := TX5) (N := 16) 0 3 (.ref (ad 11)) dX5_way_41 iX5_way_X5 rfl jX5_way_16 (by decide) wlaT_0 rfl ?_
      refine g_get (ci := 2) (T := TX2) (N := 12) 11 8 (.ref (ad 15)) dX5_way_44 iX5_way_X2 rfl jX5_way_118 (by decide) wlaT_11 rfl ?_
      refine g_iload_n 1 dX5_way_47 rfl rfl ?_
      obtain ⟨h6, hf⟩ := ochi_some hf
      refine g_iald 15 0 dX5_way_48 wlaT_15 (tI hty) h6 ?_
      obtain rfl := Option.some.inj hf
      exact hr _ _ dX5_way_49
    · have hf := iff_ h5 hf
      by_cases h7 : a2 = (1 : Int32)
      · have hf := ift h7 hf
        refine g_tableIn (off := 39) (tgt := 50) dX5_way_11 (by rw [h7] <;> decide) (by rw [h7] <;> decide) (by rw [h7] <;> decide) (by decide) ?_
        refine g_aload_n 0 dX5_way_50 rfl rfl ?_
        refine g_get (ci := 5) (T := TX5) (N := 16) 0 3 (.ref (ad 11)) dX5_way_51 iX5_way_X5 rfl jX5_way_16 (by decide) wlaT_0 rfl ?_
        refine g_get (ci := 2) (T := TX2) (N := 12) 11 9 (.ref (ad 16)) dX5_way_54 iX5_way_X2 rfl jX5_way_121 (by decide) wlaT_11 rfl ?_
        refine g_iload_n 1 dX5_way_57 rfl rfl ?_
        obtain ⟨h8, hf⟩ := ochi_some hf
        refine g_iald 16 0 dX5_way_58 wlaT_16 (tI hty) h8 ?_
        obtain rfl := Option.some.inj hf
        exact hr _ _ dX5_way_59
      · have hf := iff_ h7 hf
        by_cases h9 : a2 = (2 : Int32)
        · have hf := ift h9 hf
          refine g_tableIn (off := 49) (tgt := 60) dX5_way_11 (by rw [h9] <;> decide) (by rw [h9] <;> decide) (by rw [h9] <;> decide) (by decide) ?_
          refine g_aload_n 0 dX5_way_60 rfl rfl ?_
          refine g_get (ci := 5) (T := TX5) (N := 16) 0 3 (.ref (ad 11)) dX5_way_61 iX5_way_X5 rfl jX5_way_16 (by decide) wlaT_0 rfl ?_
          refine g_get (ci := 2) (T := TX2) (N := 12) 11 10 (.ref (ad 17)) dX5_way_64 iX5_way_X2 rfl jX5_way_124 (by decide) wlaT_11 rfl ?_
          refine g_iload_n 1 dX5_way_67 rfl rfl ?_
          obtain ⟨h10, hf⟩ := ochi_some hf
          refine g_iald 17 0 dX5_way_68 wlaT_17 (tI hty) h10 ?_
          obtain rfl := Option.some.inj hf
          exact hr _ _ dX5_way_69
        · have hf := iff_ h9 hf
          by_cases h11 : a2 = (3 : Int32)
          · have hf := ift h11 hf
            refine g_tableIn (off := 59) (tgt := 70) dX5_way_11 (by rw [h11] <;> decide) (by rw [h11] <;> decide) (by rw [h11] <;> decide) (by decide) ?_
            refine g_aload_n 0 dX5_way_70 rfl rfl ?_
            refine g_get (ci := 5) (T := TX5) (N := 16) 0 3 (.ref (ad 11)) dX5_way_71 iX5_way_X5 rfl jX5_way_16 (by decide) wlaT_0 rfl ?_
            refine g_get (ci := 2) (T := TX2) (N := 12) 11 11 (.ref (ad 18)) dX5_way_74 iX5_way_X2 rfl jX5_way_127 (by decide) wlaT_11 rfl ?_
            refine g_iload_n 1 dX5_way_77 rfl rfl ?_
            obtain ⟨h12, hf⟩ := ochi_some hf
            refine g_iald 18 0 dX5_way_78 wlaT_18 (tI hty) h12 ?_
            obtain rfl := Option.some.inj hf
            exact hr _ _ dX5_way_79
          · have hf := iff_ h11 hf
            have n_h5 := lv_neT (a := 0) h5 (by decide)
            have n_h7 := lv_neT (a := 1) h7 (by decide)
            have n_h9 := lv_neT (a := 2) h9 (by decide)
            have n_h11 := lv_neT (a := 3) h11 (by decide)
            refine g_tableOut (tgt := 80) dX5_way_11 (by omega) (by decide) ?_
            refine g_iconst (v := (-1 : Int32)) dX5_way_80 (by decide) ?_
            obtain rfl := Option.some.inj hf
            exact hr _ _ dX5_way_81
  · have hf := ift h3 hf
    refine g_iconst (v := (-1 : Int32)) dX5_way_8 (by decide) ?_
    obtain rfl := Option.some.inj hf
    exact hr _ _ dX5_way_9

-- ThumbScale often (IIII)I
def rmX5_often : Room := { frames := 3, cells := 0, slots := 0, locals := 72 }
def kX5_often : MK := (cX5_often, 5, RX5, wsX5_often, (some .int), rmX5_often)

set_option maxRecDepth 20000 in
theorem vX5_often_115 : KV kX5_often 115 RX5 yX5_isWay wsX5_isWay rmX5_isWay 1 := ⟨_, _, _, _, gX5_often_X5_isWay, rfl, rfl, rfl, by decide +kernel, ⟨by decide, by decide⟩⟩
set_option maxRecDepth 20000 in
theorem vX5_often_95 : KV kX5_often 95 RX5 yX5_isStall wsX5_isStall rmX5_isStall 1 := ⟨_, _, _, _, gX5_often_X5_isStall, rfl, rfl, rfl, by decide +kernel, ⟨by decide, by decide⟩⟩
set_option maxRecDepth 20000 in
theorem vX5_often_130 : KS kX5_often 130 yX5_isSort wsX5_isSort rmX5_isSort 1 := ⟨_, _, _, _, gX5_often_X5_isSort, rfl, rfl, rfl, by decide +kernel, ⟨by decide, by decide⟩⟩
set_option maxRecDepth 20000 in
theorem jX5_often_16 : Cond.fieldLink RX5 16 (TX5 3).1 (TX5 3).2.1 (TX5 3).2.2.1 ∈ wsX5_often := by decide +kernel
set_option maxRecDepth 20000 in
theorem iX5_often_X5 : ∀ x ∈ u_ws RX5 TX5 16, x ∈ wsX5_often := by decide +kernel
set_option maxRecDepth 20000 in
theorem vX5_often_133 : KV kX5_often 133 RX2 yX2_howOften wsX2_howOften rmX2_howOften 4 := ⟨_, _, _, _, gX5_often_X2_howOften, rfl, rfl, rfl, by decide +kernel, ⟨by decide, by decide⟩⟩
def f_X5_often (F : Nat) (s : ST) (a1 : Int32) (a2 : Int32) (a3 : Int32) (a4 : Int32) : Option Int32 :=
    obd (f_X5_isWay F s a1) (fun v1 =>
    (if v1 = 0 then
    some (-1 : Int32)
    else
    obd (f_X5_isStall F s a2) (fun v4 =>
    (if v4 = 0 then
    some (-1 : Int32)
    else
    obd (f_X5_isSort F a3) (fun v7 =>
    (if v7 = 0 then
    some (-1 : Int32)
    else
    obd (f_X2_howOften F (T_market s) a1 a2 a3 a4) (fun v10 =>
    some v10)))))))

set_option maxHeartbeats 4000000 in
set_option maxRecDepth 100000 in
theorem c_X5_often {l : Launch} {D : va_G} {tys : List (ClassId × FieldType)} {X : XT} {cs : CS} (ad : Nat → Nat) {F : Nat} {s : ST} {a1 : Int32} {a2 : Int32} {a3 : Int32} {a4 : Int32} {r : Int32} (htyM : tys = tyA cs) (hf : f_X5_often F s a1 a2 a3 a4 = some r) : Ci l D tys X yX5_often wsX5_often rmX5_often [.ref (ad 0), .int a1, .int a2, .int a3, .int a4] (wT cs ad s) r (wT cs ad s) := by
  refine Ci_ofG (by decide +kernel) rfl (Nat.le_of_ble_eq_true rfl) .int rfl (vp_nar_int _) (fun E _ _ hty0 hX0 hr => ?_)
  have hty := hty0.trans htyM
  have hr : Ri E kX5_often r (wT cs ad s) := hr
  show G E kX5_often 0 0 0 [(0, .ref (ad 0)), (1, .int a1), (2, .int a2), (3, .int a3), (4, .int a4)] [] (wT cs ad s)
  unfold f_X5_often at hf
  refine g_aload_n 0 dX5_often_0 rfl rfl ?_
  refine g_iload_n 1 dX5_often_1 rfl rfl ?_
  obtain ⟨v1, hc2, hf⟩ := obd_some hf
  refine g_callVi (ci := 5) (As := [.int a1]) (rest := []) (w2 := (wT cs ad s)) 0 dX5_often_2 vX5_often_115 (c_X5_isWay ad hty hc2) rfl (mid0 _) rfl rfl 0 wlaT_0 rfl (Nat.le_of_ble_eq_true rfl) ⟨Nat.zero_le _, Nat.zero_le _⟩ (mid2 _ _) ?_
  refine g_if_eq (tgt := 23) dX5_often_5 (by decide) (fun h3 => ?_) (fun h3 => ?_)
  · have hf := ift h3 hf
    refine g_iconst (v := (-1 : Int32)) dX5_often_23 (by decide) ?_
    obtain rfl := Option.some.inj hf
    exact hr _ _ dX5_often_24
  · have hf := iff_ h3 hf
    refine g_aload_n 0 dX5_often_8 rfl rfl ?_
    refine g_iload_n 2 dX5_often_9 rfl rfl ?_
    obtain ⟨v4, hc5, hf⟩ := obd_some hf
    refine g_callVi (ci := 5) (As := [.int a2]) (rest := []) (w2 := (wT cs ad s)) 0 dX5_often_10 vX5_often_95 (c_X5_isStall ad hty hc5) rfl (mid0 _) rfl rfl 0 wlaT_0 rfl (Nat.le_of_ble_eq_true rfl) ⟨Nat.zero_le _, Nat.zero_le _⟩ (mid2 _ _) ?_
    refine g_if_eq (tgt := 23) dX5_often_13 (by decide) (fun h6 => ?_) (fun h6 => ?_)
    · have hf := ift h6 hf
      refine g_iconst (v := (-1 : Int32)) dX5_often_23 (by decide) ?_
      obtain rfl := Option.some.inj hf
      exact hr _ _ dX5_often_24
    · have hf := iff_ h6 hf
      refine g_iload_n 3 dX5_often_16 rfl rfl ?_
      obtain ⟨v7, hc8, hf⟩ := obd_some hf
      refine g_callSi (As := [.int a3]) (rest := []) (w2 := (wT cs ad s)) 0 dX5_often_17 vX5_often_130 (c_X5_isSort hty hc8) rfl (midm _) rfl (Nat.le_of_ble_eq_true rfl) ⟨Nat.zero_le _, Nat.zero_le _⟩ (midn _) ?_
      refine g_if_ne (tgt := 25) dX5_often_20 (by decide) (fun h9 => ?_) (fun h9 => ?_)
      · have hf := iff_ h9 hf
        refine g_aload_n 0 dX5_often_25 rfl rfl ?_
        refine g_get (ci := 5) (T := TX5) (N := 16) 0 3 (.ref (ad 11)) dX5_often_26 iX5_often_X5 rfl jX5_often_16 (by decide) wlaT_0 rfl ?_
        refine g_iload_n 1 dX5_often_29 rfl rfl ?_
        refine g_iload_n 2 dX5_often_30 rfl rfl ?_
        refine g_iload_n 3 dX5_often_31 rfl rfl ?_
        refine g_iload 4 dX5_often_32 rfl ?_
        obtain ⟨v10, hc11, hf⟩ := obd_some hf
        refine g_callVi (ci := 2) (As := [.int a1, .int a2, .int a3, .int a4]) (rest := []) (w2 := (wT cs ad s)) 11 dX5_often_34 vX5_often_133 (c_X2_howOften (fun k => ad (11 + k)) hty hc11) rfl wlhT_11 rfl rfl 0 wlaM_0 rfl (Nat.le_of_ble_eq_true rfl) ⟨Nat.zero_le _, Nat.zero_le _⟩ wlrT_11 ?_
        obtain rfl := Option.some.inj hf
        exact hr _ _ dX5_often_37
      · have hf := ift h9 hf
        refine g_iconst (v := (-1 : Int32)) dX5_often_23 (by decide) ?_
        obtain rfl := Option.some.inj hf
        exact hr _ _ dX5_often_24

-- ThumbScale bag (IIIIII)I
def rmX5_bag : Room := { frames := 2, cells := 0, slots := 0, locals := 45 }
def kX5_bag : MK := (cX5_bag, 9, RX5, wsX5_bag, (some .int), rmX5_bag)

set_option maxRecDepth 20000 in
theorem vX5_bag_95 : KV kX5_bag 95 RX5 yX5_isStall wsX5_isStall rmX5_isStall 1 := ⟨_, _, _, _, gX5_bag_X5_isStall, rfl, rfl, rfl, by decide +kernel, ⟨by decide, by decide⟩⟩
set_option maxRecDepth 20000 in
theorem vX5_bag_77 : KS kX5_bag 77 yX5_within wsX5_within rmX5_within 3 := ⟨_, _, _, _, gX5_bag_X5_within, rfl, rfl, rfl, by decide +kernel, ⟨by decide, by decide⟩⟩
set_option maxRecDepth 20000 in
theorem vX5_bag_130 : KS kX5_bag 130 yX5_isSort wsX5_isSort rmX5_isSort 1 := ⟨_, _, _, _, gX5_bag_X5_isSort, rfl, rfl, rfl, by decide +kernel, ⟨by decide, by decide⟩⟩
set_option maxRecDepth 20000 in
theorem jX5_bag_38 : Cond.fieldLink RX5 38 (TX5 6).1 (TX5 6).2.1 (TX5 6).2.2.1 ∈ wsX5_bag := by decide +kernel
set_option maxRecDepth 20000 in
theorem iX5_bag_X5 : ∀ x ∈ u_ws RX5 TX5 16, x ∈ wsX5_bag := by decide +kernel
set_option maxRecDepth 20000 in
theorem jX5_bag_137 : Cond.fieldLink RX5 137 (TX0 0).1 (TX0 0).2.1 (TX0 0).2.2.1 ∈ wsX5_bag := by decide +kernel
set_option maxRecDepth 20000 in
theorem iX5_bag_X0 : ∀ x ∈ u_ws RX0 TX0 15, x ∈ wsX5_bag := by decide +kernel
set_option maxRecDepth 20000 in
theorem jX5_bag_16 : Cond.fieldLink RX5 16 (TX5 3).1 (TX5 3).2.1 (TX5 3).2.2.1 ∈ wsX5_bag := by decide +kernel
set_option maxRecDepth 20000 in
theorem jX5_bag_102 : Cond.fieldLink RX5 102 (TX2 5).1 (TX2 5).2.1 (TX2 5).2.2.1 ∈ wsX5_bag := by decide +kernel
set_option maxRecDepth 20000 in
theorem iX5_bag_X2 : ∀ x ∈ u_ws RX2 TX2 12, x ∈ wsX5_bag := by decide +kernel
set_option maxRecDepth 20000 in
theorem jX5_bag_140 : Cond.fieldLink RX5 140 (TX0 1).1 (TX0 1).2.1 (TX0 1).2.2.1 ∈ wsX5_bag := by decide +kernel
set_option maxRecDepth 20000 in
theorem jX5_bag_143 : Cond.fieldLink RX5 143 (TX0 2).1 (TX0 2).2.1 (TX0 2).2.2.1 ∈ wsX5_bag := by decide +kernel
set_option maxRecDepth 20000 in
theorem jX5_bag_146 : Cond.fieldLink RX5 146 (TX0 3).1 (TX0 3).2.1 (TX0 3).2.2.1 ∈ wsX5_bag := by decide +kernel
set_option maxRecDepth 20000 in
theorem jX5_bag_149 : Cond.fieldLink RX5 149 (TX0 4).1 (TX0 4).2.1 (TX0 4).2.2.1 ∈ wsX5_bag := by decide +kernel
set_option maxRecDepth 20000 in
theorem jX5_bag_152 : Cond.fieldLink RX5 152 (TX0 5).1 (TX0 5).2.1 (TX0 5).2.2.1 ∈ wsX5_bag := by decide +kernel
set_option maxRecDepth 20000 in
theorem jX5_bag_155 : Cond.fieldLink RX5 155 (TX0 6).1 (TX0 6).2.1 (TX0 6).2.2.1 ∈ wsX5_bag := by decide +kernel
set_option maxRecDepth 20000 in
theorem vX5_bag_158 : KV kX5_bag 158 RX2 yX2_nearestSteps wsX2_nearestSteps rmX2_nearestSteps 2 := ⟨_, _, _, _, gX5_bag_X2_nearestSteps, rfl, rfl, rfl, by decide +kernel, ⟨by decide, by decide⟩⟩
def f_X5_bag (F : Nat) (s : ST) (a1 : Int32) (a2 : Int32) (a3 : Int32) (a4 : Int32) (a5 : Int32) (a6 : Int32) : Option (Int32 × ST) :=
    obd (f_X5_isStall F s a1) (fun v1 =>
    (if v1 = 0 then
    some ((-1 : Int32), s)
    else
    obd (f_X5_within F a2 (0 : Int32) (11 : Int32)) (fun v4 =>
    (if v4 = 0 then
    some ((-1 : Int32), s)
    else
    obd (f_X5_isSort F a3) (fun v7 =>
    (if v7 = 0 then
    some ((-1 : Int32), s)
    else
    obd (f_X5_within F a4 (1 : Int32) (999 : Int32)) (fun v10 =>
    (if v10 = 0 then
    some ((-1 : Int32), s)
    else
    obd (f_X5_within F a5 (0 : Int32) (999 : Int32)) (fun v13 =>
    (if v13 = 0 then
    some ((-1 : Int32), s)
    else
    obd (f_X5_within F a6 (0 : Int32) (99 : Int32)) (fun v16 =>
    (if v16 = 0 then
    some ((-1 : Int32), s)
    else
    (if (B_bags (T_book s)) < (30 : Int32) then
    ochi a1 6 (
    ochk (¬ (10 : Int32) = 0) (
    olt ((a4 - a5) - ((((M_dry (T_market s)) (Int32.toNatClampNeg a1)) * a6) / (10 : Int32))) (fun z22 =>
    ochi (B_bags (T_book s)) 30 (olt (uT_book s (uB_bagStall (T_book s) (upd (B_bagStall (T_book s)) (Int32.toNatClampNeg (B_bags (T_book s))) a1))) (fun s24 =>
    ochi (B_bags (T_book s)) 30 (olt (uT_book s24 (uB_bagHour (T_book s24) (upd (B_bagHour (T_book s24)) (Int32.toNatClampNeg (B_bags (T_book s))) a2))) (fun s26 =>
    ochi (B_bags (T_book s)) 30 (olt (uT_book s26 (uB_bagSort (T_book s26) (upd (B_bagSort (T_book s26)) (Int32.toNatClampNeg (B_bags (T_book s))) a3))) (fun s28 =>
    ochi (B_bags (T_book s)) 30 (olt (uT_book s28 (uB_bagTold (T_book s28) (upd (B_bagTold (T_book s28)) (Int32.toNatClampNeg (B_bags (T_book s))) a4))) (fun s30 =>
    ochi (B_bags (T_book s)) 30 (olt (uT_book s30 (uB_bagShort (T_book s30) (upd (B_bagShort (T_book s30)) (Int32.toNatClampNeg (B_bags (T_book s))) z22))) (fun s32 =>
    obd (f_X2_nearestSteps F (T_market s32) a1 z22) (fun v33 =>
    ochi (B_bags (T_book s)) 30 (olt (uT_book s32 (uB_bagSteps (T_book s32) (upd (B_bagSteps (T_book s32)) (Int32.toNatClampNeg (B_bags (T_book s))) v33))) (fun s36 =>
    olt ((B_bags (T_book s36)) + (1 : Int32)) (fun z37 =>
    olt (uT_book s36 (uB_bags (T_book s36) z37)) (fun s38 =>
    some ((B_bags (T_book s)), s38)))))))))))))))))))
    else
    some ((-3 : Int32), s))))))))))))))

set_option maxHeartbeats 4000000 in
set_option maxRecDepth 100000 in
theorem c_X5_bag {l : Launch} {D : va_G} {tys : List (ClassId × FieldType)} {X : XT} {cs : CS} (ad : Nat → Nat) {F : Nat} {s : ST} {a1 : Int32} {a2 : Int32} {a3 : Int32} {a4 : Int32} {a5 : Int32} {a6 : Int32} {r : (Int32 × ST)} (htyM : tys = tyA cs) (hf : f_X5_bag F s a1 a2 a3 a4 a5 a6 = some r) : Ci l D tys X yX5_bag wsX5_bag rmX5_bag [.ref (ad 0), .int a1, .int a2, .int a3, .int a4, .int a5, .int a6] (wT cs ad s) r.1 (wT cs ad r.2) := by
  refine Ci_ofG (by decide +kernel) rfl (Nat.le_of_ble_eq_true rfl) .int rfl (vp_nar_int _) (fun E _ _ hty0 hX0 hr => ?_)
  have hty := hty0.trans htyM
  have hr : Ri E kX5_bag r.1 (wT cs ad r.2) := hr
  show G E kX5_bag 0 0 0 [(0, .ref (ad 0)), (1, .int a1), (2, .int a2), (3, .int a3), (4, .int a4), (5, .int a5), (6, .int a6)] [] (wT cs ad s)
  unfold f_X5_bag at hf
  refine g_aload_n 0 dX5_bag_0 rfl rfl ?_
  refine g_iload_n 1 dX5_bag_1 rfl rfl ?_
  obtain ⟨v1, hc2, hf⟩ := obd_some hf
  refine g_callVi (ci := 5) (As := [.int a1]) (rest := []) (w2 := (wT cs ad s)) 0 dX5_bag_2 vX5_bag_95 (c_X5_isStall ad hty hc2) rfl (mid0 _) rfl rfl 0 wlaT_0 rfl (Nat.le_of_ble_eq_true rfl) ⟨Nat.zero_le _, Nat.zero_le _⟩ (mid2 _ _) ?_
  refine g_if_eq (tgt := 60) dX5_bag_5 (by decide) (fun h3 => ?_) (fun h3 => ?_)
  · have hf := ift h3 hf
    refine g_iconst (v := (-1 : Int32)) dX5_bag_60 (by decide) ?_
    obtain rfl := Option.some.inj hf
    exact hr _ _ dX5_bag_61
  · have hf := iff_ h3 hf
    refine g_iload_n 2 dX5_bag_8 rfl rfl ?_
    refine g_iconst (v := (0 : Int32)) dX5_bag_9 (by decide) ?_
    refine g_bipush (v := (11 : Int32)) dX5_bag_10 (by decide) ?_
    obtain ⟨v4, hc5, hf⟩ := obd_some hf
    refine g_callSi (As := [.int a2, .int (0 : Int32), .int (11 : Int32)]) (rest := []) (w2 := (wT cs ad s)) 0 dX5_bag_12 vX5_bag_77 (c_X5_within hty hc5) rfl (midm _) rfl (Nat.le_of_ble_eq_true rfl) ⟨Nat.zero_le _, Nat.zero_le _⟩ (midn _) ?_
    refine g_if_eq (tgt := 60) dX5_bag_15 (by decide) (fun h6 => ?_) (fun h6 => ?_)
    · have hf := ift h6 hf
      refine g_iconst (v := (-1 : Int32)) dX5_bag_60 (by decide) ?_
      obtain rfl := Option.some.inj hf
      exact hr _ _ dX5_bag_61
    · have hf := iff_ h6 hf
      refine g_iload_n 3 dX5_bag_18 rfl rfl ?_
      obtain ⟨v7, hc8, hf⟩ := obd_some hf
      refine g_callSi (As := [.int a3]) (rest := []) (w2 := (wT cs ad s)) 0 dX5_bag_19 vX5_bag_130 (c_X5_isSort hty hc8) rfl (midm _) rfl (Nat.le_of_ble_eq_true rfl) ⟨Nat.zero_le _, Nat.zero_le _⟩ (midn _) ?_
      refine g_if_eq (tgt := 60) dX5_bag_22 (by decide) (fun h9 => ?_) (fun h9 => ?_)
      · have hf := ift h9 hf
        refine g_iconst (v := (-1 : Int32)) dX5_bag_60 (by decide) ?_
        obtain rfl := Option.some.inj hf
        exact hr _ _ dX5_bag_61
      · have hf := iff_ h9 hf
        refine g_iload 4 dX5_bag_25 rfl ?_
        refine g_iconst (v := (1 : Int32)) dX5_bag_27 (by decide) ?_
        refine g_sipush (v := (999 : Int32)) dX5_bag_28 (by decide) ?_
        obtain ⟨v10, hc11, hf⟩ := obd_some hf
        refine g_callSi (As := [.int a4, .int (1 : Int32), .int (999 : Int32)]) (rest := []) (w2 := (wT cs ad s)) 0 dX5_bag_31 vX5_bag_77 (c_X5_within hty hc11) rfl (midm _) rfl (Nat.le_of_ble_eq_true rfl) ⟨Nat.zero_le _, Nat.zero_le _⟩ (midn _) ?_
        refine g_if_eq (tgt := 60) dX5_bag_34 (by decide) (fun h12 => ?_) (fun h12 => ?_)
        · have hf := ift h12 hf
          refine g_iconst (v := (-1 : Int32)) dX5_bag_60 (by decide) ?_
          obtain rfl := Option.some.inj hf
          exact hr _ _ dX5_bag_61
        · have hf := iff_ h12 hf
          refine g_iload 5 dX5_bag_37 rfl ?_
          refine g_iconst (v := (0 : Int32)) dX5_bag_39 (by decide) ?_
          refine g_sipush (v := (999 : Int32)) dX5_bag_40 (by decide) ?_
          obtain ⟨v13, hc14, hf⟩ := obd_some hf
          refine g_callSi (As := [.int a5, .int (0 : Int32), .int (999 : Int32)]) (rest := []) (w2 := (wT cs ad s)) 0 dX5_bag_43 vX5_bag_77 (c_X5_within hty hc14) rfl (midm _) rfl (Nat.le_of_ble_eq_true rfl) ⟨Nat.zero_le _, Nat.zero_le _⟩ (midn _) ?_
          refine g_if_eq (tgt := 60) dX5_bag_46 (by decide) (fun h15 => ?_) (fun h15 => ?_)
          · have hf := ift h15 hf
            refine g_iconst (v := (-1 : Int32)) dX5_bag_60 (by decide) ?_
            obtain rfl := Option.some.inj hf
            exact hr _ _ dX5_bag_61
          · have hf := iff_ h15 hf
            refine g_iload 6 dX5_bag_49 rfl ?_
            refine g_iconst (v := (0 : Int32)) dX5_bag_51 (by decide) ?_
            refine g_bipush (v := (99 : Int32)) dX5_bag_52 (by decide) ?_
            obtain ⟨v16, hc17, hf⟩ := obd_some hf
            refine g_callSi (As := [.int a6, .int (0 : Int32), .int (99 : Int32)]) (rest := []) (w2 := (wT cs ad s)) 0 dX5_bag_54 vX5_bag_77 (c_X5_within hty hc17) rfl (midm _) rfl (Nat.le_of_ble_eq_true rfl) ⟨Nat.zero_le _, Nat.zero_le _⟩ (midn _) ?_
            refine g_if_ne (tgt := 62) dX5_bag_57 (by decide) (fun h18 => ?_) (fun h18 => ?_)
            · have hf := iff_ h18 hf
              refine g_aload_n 0 dX5_bag_62 rfl rfl ?_
              refine g_get (ci := 5) (T := TX5) (N := 16) 0 6 (.ref (ad 20)) dX5_bag_63 iX5_bag_X5 rfl jX5_bag_38 (by decide) wlaT_0 rfl ?_
              refine g_get (ci := 0) (T := TX0) (N := 15) 20 0 (.int (B_bags (T_book s))) dX5_bag_66 iX5_bag_X0 rfl jX5_bag_137 (by decide) wlaT_20 rfl ?_
              refine g_bipush (v := (30 : Int32)) dX5_bag_69 (by decide) ?_
              refine g_icmp_lt (tgt := 77) dX5_bag_71 (by decide) (fun h19 => ?_) (fun h19 => ?_)
              · have hf := ift h19 hf
                refine g_aload_n 0 dX5_bag_77 rfl rfl ?_
                refine g_get (ci := 5) (T := TX5) (N := 16) 0 6 (.ref (ad 20)) dX5_bag_78 iX5_bag_X5 rfl jX5_bag_38 (by decide) wlaT_0 rfl ?_
                refine g_get (ci := 0) (T := TX0) (N := 15) 20 0 (.int (B_bags (T_book s))) dX5_bag_81 iX5_bag_X0 rfl jX5_bag_137 (by decide) wlaT_20 rfl ?_
                refine g_istore (lv2 := [(7, .int (B_bags (T_book s))), (0, .ref (ad 0)), (1, .int a1), (2, .int a2), (3, .int a3), (4, .int a4), (5, .int a5), (6, .int a6)]) dX5_bag_84 (by decide) rfl ?_
                refine g_iload 5 dX5_bag_86 rfl ?_
                refine g_iload 6 dX5_bag_88 rfl ?_
                refine g_isub dX5_bag_90 ?_
                refine g_aload_n 1 dX5_bag_91 rfl rfl ?_
                refine g_get (ci := 5) (T := TX5) (N := 16) 0 3 (.ref (ad 11)) dX5_bag_92 iX5_bag_X5 rfl jX5_bag_16 (by decide) wlaT_0 rfl ?_
                refine g_get (ci := 2) (T := TX2) (N := 12) 11 5 (.ref (ad 13)) dX5_bag_95 iX5_bag_X2 rfl jX5_bag_102 (by decide) wlaT_11 rfl ?_
                refine g_iload_n 2 dX5_bag_98 rfl rfl ?_
                obtain ⟨h20, hf⟩ := ochi_some hf
                refine g_iald 13 0 dX5_bag_99 wlaT_13 (tI hty) h20 ?_
                refine g_iload 7 dX5_bag_100 rfl ?_
                refine g_imul dX5_bag_102 ?_
                refine g_bipush (v := (10 : Int32)) dX5_bag_103 (by decide) ?_
                obtain ⟨h21, hf⟩ := ochk_some hf
                refine g_idiv dX5_bag_105 h21 ?_
                refine g_isub dX5_bag_106 ?_
                obtain ⟨z22, e_z22, hf⟩ := olt_some hf
                refine g_cast rfl rfl (congrArg (fun q => Value.int q :: []) e_z22) rfl ?_
                refine g_istore (lv2 := [(8, .int z22), (7, .int (B_bags (T_book s))), (0, .ref (ad 0)), (1, .int a1), (2, .int a2), (3, .int a3), (4, .int a4), (5, .int a5), (6, .int a6)]) dX5_bag_107 (by decide) rfl ?_
                refine g_aload_n 2 dX5_bag_109 rfl rfl ?_
                refine g_get (ci := 5) (T := TX5) (N := 16) 0 6 (.ref (ad 20)) dX5_bag_110 iX5_bag_X5 rfl jX5_bag_38 (by decide) wlaT_0 rfl ?_
                refine g_get (ci := 0) (T := TX0) (N := 15) 20 1 (.ref (ad 21)) dX5_bag_113 iX5_bag_X0 rfl jX5_bag_140 (by decide) wlaT_20 rfl ?_
                refine g_iload 1 dX5_bag_116 rfl ?_
                refine g_iload_n 3 dX5_bag_118 rfl rfl ?_
                obtain ⟨h23, hf⟩ := ochi_some hf
                obtain ⟨s24, e_s24, hf⟩ := olt_some hf
                refine g_iast (w2 := (wT cs ad s24)) 21 0 dX5_bag_119 wlaT_21 (tI hty) h23 (wlsT_21.trans (congrArg (wT cs ad) e_s24)) ?_
                refine g_aload_n 2 dX5_bag_120 rfl rfl ?_
                refine g_get (ci := 5) (T := TX5) (N := 16) 0 6 (.ref (ad 20)) dX5_bag_121 iX5_bag_X5 rfl jX5_bag_38 (by decide) wlaT_0 rfl ?_
                refine g_get (ci := 0) (T := TX0) (N := 15) 20 2 (.ref (ad 22)) dX5_bag_124 iX5_bag_X0 rfl jX5_bag_143 (by decide) wlaT_20 rfl ?_
                refine g_iload 1 dX5_bag_127 rfl ?_
                refine g_iload_n 4 dX5_bag_129 rfl rfl ?_
                obtain ⟨h25, hf⟩ := ochi_some hf
                obtain ⟨s26, e_s26, hf⟩ := olt_some hf
                refine g_iast (w2 := (wT cs ad s26)) 22 0 dX5_bag_130 wlaT_22 (tI hty) h25 (wlsT_22.trans (congrArg (wT cs ad) e_s26)) ?_
                refine g_aload_n 2 dX5_bag_131 rfl rfl ?_
                refine g_get (ci := 5) (T := TX5) (N := 16) 0 6 (.ref (ad 20)) dX5_bag_132 iX5_bag_X5 rfl jX5_bag_38 (by decide) wlaT_0 rfl ?_
                refine g_get (ci := 0) (T := TX0) (N := 15) 20 3 (.ref (ad 23)) dX5_bag_135 iX5_bag_X0 rfl jX5_bag_146 (by decide) wlaT_20 rfl ?_
                refine g_iload 1 dX5_bag_138 rfl ?_
                refine g_iload_n 5 dX5_bag_140 rfl rfl ?_
                obtain ⟨h27, hf⟩ := ochi_some hf
                obtain ⟨s28, e_s28, hf⟩ := olt_some hf
                refine g_iast (w2 := (wT cs ad s28)) 23 0 dX5_bag_141 wlaT_23 (tI hty) h27 (wlsT_23.trans (congrArg (wT cs ad) e_s28)) ?_
                refine g_aload_n 2 dX5_bag_142 rfl rfl ?_
                refine g_get (ci := 5) (T := TX5) (N := 16) 0 6 (.ref (ad 20)) dX5_bag_143 iX5_bag_X5 rfl jX5_bag_38 (by decide) wlaT_0 rfl ?_
                refine g_get (ci := 0) (T := TX0) (N := 15) 20 4 (.ref (ad 24)) dX5_bag_146 iX5_bag_X0 rfl jX5_bag_149 (by decide) wlaT_20 rfl ?_
                refine g_iload 1 dX5_bag_149 rfl ?_
                refine g_iload 6 dX5_bag_151 rfl ?_
                obtain ⟨h29, hf⟩ := ochi_some hf
                obtain ⟨s30, e_s30, hf⟩ := olt_some hf
                refine g_iast (w2 := (wT cs ad s30)) 24 0 dX5_bag_153 wlaT_24 (tI hty) h29 (wlsT_24.trans (congrArg (wT cs ad) e_s30)) ?_
                refine g_aload_n 2 dX5_bag_154 rfl rfl ?_
                refine g_get (ci := 5) (T := TX5) (N := 16) 0 6 (.ref (ad 20)) dX5_bag_155 iX5_bag_X5 rfl jX5_bag_38 (by decide) wlaT_0 rfl ?_
                refine g_get (ci := 0) (T := TX0) (N := 15) 20 5 (.ref (ad 25)) dX5_bag_158 iX5_bag_X0 rfl jX5_bag_152 (by decide) wlaT_20 rfl ?_
                refine g_iload 1 dX5_bag_161 rfl ?_
                refine g_iload 0 dX5_bag_163 rfl ?_
                obtain ⟨h31, hf⟩ := ochi_some hf
                obtain ⟨s32, e_s32, hf⟩ := olt_some hf
                refine g_iast (w2 := (wT cs ad s32)) 25 0 dX5_bag_165 wlaT_25 (tI hty) h31 (wlsT_25.trans (congrArg (wT cs ad) e_s32)) ?_
                refine g_aload_n 2 dX5_bag_166 rfl rfl ?_
                refine g_get (ci := 5) (T := TX5) (N := 16) 0 6 (.ref (ad 20)) dX5_bag_167 iX5_bag_X5 rfl jX5_bag_38 (by decide) wlaT_0 rfl ?_
                refine g_get (ci := 0) (T := TX0) (N := 15) 20 6 (.ref (ad 26)) dX5_bag_170 iX5_bag_X0 rfl jX5_bag_155 (by decide) wlaT_20 rfl ?_
                refine g_iload 1 dX5_bag_173 rfl ?_
                refine g_aload_n 2 dX5_bag_175 rfl rfl ?_
                refine g_get (ci := 5) (T := TX5) (N := 16) 0 3 (.ref (ad 11)) dX5_bag_176 iX5_bag_X5 rfl jX5_bag_16 (by decide) wlaT_0 rfl ?_
                refine g_iload_n 3 dX5_bag_179 rfl rfl ?_
                refine g_iload 0 dX5_bag_180 rfl ?_
                obtain ⟨v33, hc34, hf⟩ := obd_some hf
                refine g_callVi (ci := 2) (As := [.int a1, .int z22]) (rest := [.int (B_bags (T_book s)), .ref (ad 26)]) (w2 := (wT cs ad s32)) 11 dX5_bag_182 vX5_bag_158 (c_X2_nearestSteps (fun k => ad (11 + k)) hty hc34) rfl wlhT_11 rfl rfl 0 wlaM_0 rfl (Nat.le_of_ble_eq_true rfl) ⟨Nat.zero_le _, Nat.zero_le _⟩ wlrT_11 ?_
                obtain ⟨h35, hf⟩ := ochi_some hf
                obtain ⟨s36, e_s36, hf⟩ := olt_some hf
                refine g_iast (w2 := (wT cs ad s36)) 26 0 dX5_bag_185 wlaT_26 (tI hty) h35 (wlsT_26.trans (congrArg (wT cs ad) e_s36)) ?_
                refine g_aload_n 2 dX5_bag_186 rfl rfl ?_
                refine g_get (ci := 5) (T := TX5) (N := 16) 0 6 (.ref (ad 20)) dX5_bag_187 iX5_bag_X5 rfl jX5_bag_38 (by decide) wlaT_0 rfl ?_
                refine g_dup dX5_bag_190 rfl ?_
                refine g_get (ci := 0) (T := TX0) (N := 15) 20 0 (.int (B_bags (T_book s36))) dX5_bag_191 iX5_bag_X0 rfl jX5_bag_137 (by decide) wlaT_20 rfl ?_
                refine g_iconst (v := (1 : Int32)) dX5_bag_194 (by decide) ?_
                refine g_iadd dX5_bag_195 ?_
                obtain ⟨z37, e_z37, hf⟩ := olt_some hf
                refine g_cast rfl rfl (congrArg (fun q => Value.int q :: [.ref (ad 20)]) e_z37) rfl ?_
                obtain ⟨s38, e_s38, hf⟩ := olt_some hf
                refine g_put (ci := 0) (T := TX0) (N := 15) (ty := .int) (w2 := (wT cs ad s38)) 20 0 (.int z37) tyX0 dX5_bag_196 iX5_bag_X0 tyX0_ok nmX0 rfl jX5_bag_137 (by decide) rfl rfl rfl rfl wlaT_20 (Nat.le_of_ble_eq_true rfl) (wlpT_20_0.trans (congrArg (wT cs ad) e_s38)) ?_
                refine g_iload 1 dX5_bag_199 rfl ?_
                obtain rfl := Option.some.inj hf
                exact hr _ _ dX5_bag_201
              · have hf := iff_ h19 hf
                refine g_bipush (v := (-3 : Int32)) dX5_bag_74 (by decide) ?_
                obtain rfl := Option.some.inj hf
                exact hr _ _ dX5_bag_76
            · have hf := ift h18 hf
              refine g_iconst (v := (-1 : Int32)) dX5_bag_60 (by decide) ?_
              obtain rfl := Option.some.inj hf
              exact hr _ _ dX5_bag_61

-- ThumbScale about (II)J
def rmX5_about : Room := { frames := 1, cells := 0, slots := 0, locals := 21 }
def kX5_about : MK := (cX5_about, 3, RX5, wsX5_about, (some .long), rmX5_about)

set_option maxRecDepth 20000 in
theorem vX5_about_161 : KV kX5_about 161 RX5 yX5_isBag wsX5_isBag rmX5_isBag 1 := ⟨_, _, _, _, gX5_about_X5_isBag, rfl, rfl, rfl, by decide +kernel, ⟨by decide, by decide⟩⟩
set_option maxRecDepth 20000 in
theorem jX5_about_38 : Cond.fieldLink RX5 38 (TX5 6).1 (TX5 6).2.1 (TX5 6).2.2.1 ∈ wsX5_about := by decide +kernel
set_option maxRecDepth 20000 in
theorem iX5_about_X5 : ∀ x ∈ u_ws RX5 TX5 16, x ∈ wsX5_about := by decide +kernel
set_option maxRecDepth 20000 in
theorem jX5_about_140 : Cond.fieldLink RX5 140 (TX0 1).1 (TX0 1).2.1 (TX0 1).2.2.1 ∈ wsX5_about := by decide +kernel
set_option maxRecDepth 20000 in
theorem iX5_about_X0 : ∀ x ∈ u_ws RX0 TX0 15, x ∈ wsX5_about := by decide +kernel
set_option maxRecDepth 20000 in
theorem jX5_about_143 : Cond.fieldLink RX5 143 (TX0 2).1 (TX0 2).2.1 (TX0 2).2.2.1 ∈ wsX5_about := by decide +kernel
set_option maxRecDepth 20000 in
theorem jX5_about_146 : Cond.fieldLink RX5 146 (TX0 3).1 (TX0 3).2.1 (TX0 3).2.2.1 ∈ wsX5_about := by decide +kernel
set_option maxRecDepth 20000 in
theorem jX5_about_152 : Cond.fieldLink RX5 152 (TX0 5).1 (TX0 5).2.1 (TX0 5).2.2.1 ∈ wsX5_about := by decide +kernel
set_option maxRecDepth 20000 in
theorem jX5_about_155 : Cond.fieldLink RX5 155 (TX0 6).1 (TX0 6).2.1 (TX0 6).2.2.1 ∈ wsX5_about := by decide +kernel
set_option maxRecDepth 20000 in
theorem qX5_about_164 : Cond.constantLong RX5 164 (-1000000000000000000 : Int64) ∈ wsX5_about := by decide +kernel
def f_X5_about (F : Nat) (s : ST) (a1 : Int32) (a2 : Int32) : Option Int64 :=
    obd (f_X5_isBag F s a1) (fun v1 =>
    (if v1 = 0 then
    some (-1000000000000000000 : Int64)
    else
    (if a2 = (0 : Int32) then
    ochi a1 30 (
    some (Int32.toInt64 ((B_bagStall (T_book s)) (Int32.toNatClampNeg a1))))
    else
    (if a2 = (1 : Int32) then
    ochi a1 30 (
    some (Int32.toInt64 ((B_bagHour (T_book s)) (Int32.toNatClampNeg a1))))
    else
    (if a2 = (2 : Int32) then
    ochi a1 30 (
    some (Int32.toInt64 ((B_bagSort (T_book s)) (Int32.toNatClampNeg a1))))
    else
    (if a2 = (3 : Int32) then
    ochi a1 30 (
    some (Int32.toInt64 ((B_bagShort (T_book s)) (Int32.toNatClampNeg a1))))
    else
    (if a2 = (4 : Int32) then
    ochi a1 30 (
    some (Int32.toInt64 ((B_bagSteps (T_book s)) (Int32.toNatClampNeg a1))))
    else
    some (-1000000000000000000 : Int64))))))))

set_option maxHeartbeats 4000000 in
set_option maxRecDepth 100000 in
theorem c_X5_about {l : Launch} {D : va_G} {tys : List (ClassId × FieldType)} {X : XT} {cs : CS} (ad : Nat → Nat) {F : Nat} {s : ST} {a1 : Int32} {a2 : Int32} {r : Int64} (htyM : tys = tyA cs) (hf : f_X5_about F s a1 a2 = some r) : Cl l D tys X yX5_about wsX5_about rmX5_about [.ref (ad 0), .int a1, .int a2] (wT cs ad s) r (wT cs ad s) := by
  refine Cl_ofG (by decide +kernel) rfl (Nat.le_of_ble_eq_true rfl) (fun E _ _ hty0 hX0 hr => ?_)
  have hty := hty0.trans htyM
  have hr : Rl E kX5_about r (wT cs ad s) := hr
  show G E kX5_about 0 0 0 [(0, .ref (ad 0)), (1, .int a1), (2, .int a2)] [] (wT cs ad s)
  unfold f_X5_about at hf
  refine g_aload_n 0 dX5_about_0 rfl rfl ?_
  refine g_iload_n 1 dX5_about_1 rfl rfl ?_
  obtain ⟨v1, hc2, hf⟩ := obd_some hf
  refine g_callVi (ci := 5) (As := [.int a1]) (rest := []) (w2 := (wT cs ad s)) 0 dX5_about_2 vX5_about_161 (c_X5_isBag ad hty hc2) rfl (mid0 _) rfl rfl 0 wlaT_0 rfl (Nat.le_of_ble_eq_true rfl) ⟨Nat.zero_le _, Nat.zero_le _⟩ (mid2 _ _) ?_
  refine g_if_ne (tgt := 12) dX5_about_5 (by decide) (fun h3 => ?_) (fun h3 => ?_)
  · have hf := iff_ h3 hf
    refine g_iload_n 2 dX5_about_12 rfl rfl ?_
    by_cases h5 : a2 = (0 : Int32)
    · have hf := ift h5 hf
      refine g_tableIn (off := 35) (tgt := 48) dX5_about_13 (by rw [h5] <;> decide) (by rw [h5] <;> decide) (by rw [h5] <;> decide) (by decide) ?_
      refine g_aload_n 0 dX5_about_48 rfl rfl ?_
      refine g_get (ci := 5) (T := TX5) (N := 16) 0 6 (.ref (ad 20)) dX5_about_49 iX5_about_X5 rfl jX5_about_38 (by decide) wlaT_0 rfl ?_
      refine g_get (ci := 0) (T := TX0) (N := 15) 20 1 (.ref (ad 21)) dX5_about_52 iX5_about_X0 rfl jX5_about_140 (by decide) wlaT_20 rfl ?_
      refine g_iload_n 1 dX5_about_55 rfl rfl ?_
      obtain ⟨h6, hf⟩ := ochi_some hf
      refine g_iald 21 0 dX5_about_56 wlaT_21 (tI hty) h6 ?_
      refine g_i2l dX5_about_57 ?_
      obtain rfl := Option.some.inj hf
      exact hr _ _ dX5_about_58
    · have hf := iff_ h5 hf
      by_cases h7 : a2 = (1 : Int32)
      · have hf := ift h7 hf
        refine g_tableIn (off := 46) (tgt := 59) dX5_about_13 (by rw [h7] <;> decide) (by rw [h7] <;> decide) (by rw [h7] <;> decide) (by decide) ?_
        refine g_aload_n 0 dX5_about_59 rfl rfl ?_
        refine g_get (ci := 5) (T := TX5) (N := 16) 0 6 (.ref (ad 20)) dX5_about_60 iX5_about_X5 rfl jX5_about_38 (by decide) wlaT_0 rfl ?_
        refine g_get (ci := 0) (T := TX0) (N := 15) 20 2 (.ref (ad 22)) dX5_about_63 iX5_about_X0 rfl jX5_about_143 (by decide) wlaT_20 rfl ?_
        refine g_iload_n 1 dX5_about_66 rfl rfl ?_
        obtain ⟨h8, hf⟩ := ochi_some hf
        refine g_iald 22 0 dX5_about_67 wlaT_22 (tI hty) h8 ?_
        refine g_i2l dX5_about_68 ?_
        obtain rfl := Option.some.inj hf
        exact hr _ _ dX5_about_69
      · have hf := iff_ h7 hf
        by_cases h9 : a2 = (2 : Int32)
        · have hf := ift h9 hf
          refine g_tableIn (off := 57) (tgt := 70) dX5_about_13 (by rw [h9] <;> decide) (by rw [h9] <;> decide) (by rw [h9] <;> decide) (by decide) ?_
          refine g_aload_n 0 dX5_about_70 rfl rfl ?_
          refine g_get (ci := 5) (T := TX5) (N := 16) 0 6 (.ref (ad 20)) dX5_about_71 iX5_about_X5 rfl jX5_about_38 (by decide) wlaT_0 rfl ?_
          refine g_get (ci := 0) (T := TX0) (N := 15) 20 3 (.ref (ad 23)) dX5_about_74 iX5_about_X0 rfl jX5_about_146 (by decide) wlaT_20 rfl ?_
          refine g_iload_n 1 dX5_about_77 rfl rfl ?_
          obtain ⟨h10, hf⟩ := ochi_some hf
          refine g_iald 23 0 dX5_about_78 wlaT_23 (tI hty) h10 ?_
          refine g_i2l dX5_about_79 ?_
          obtain rfl := Option.some.inj hf
          exact hr _ _ dX5_about_80
        · have hf := iff_ h9 hf
          by_cases h11 : a2 = (3 : Int32)
          · have hf := ift h11 hf
            refine g_tableIn (off := 68) (tgt := 81) dX5_about_13 (by rw [h11] <;> decide) (by rw [h11] <;> decide) (by rw [h11] <;> decide) (by decide) ?_
            refine g_aload_n 0 dX5_about_81 rfl rfl ?_
            refine g_get (ci := 5) (T := TX5) (N := 16) 0 6 (.ref (ad 20)) dX5_about_82 iX5_about_X5 rfl jX5_about_38 (by decide) wlaT_0 rfl ?_
            refine g_get (ci := 0) (T := TX0) (N := 15) 20 5 (.ref (ad 25)) dX5_about_85 iX5_about_X0 rfl jX5_about_152 (by decide) wlaT_20 rfl ?_
            refine g_iload_n 1 dX5_about_88 rfl rfl ?_
            obtain ⟨h12, hf⟩ := ochi_some hf
            refine g_iald 25 0 dX5_about_89 wlaT_25 (tI hty) h12 ?_
            refine g_i2l dX5_about_90 ?_
            obtain rfl := Option.some.inj hf
            exact hr _ _ dX5_about_91
          · have hf := iff_ h11 hf
            by_cases h13 : a2 = (4 : Int32)
            · have hf := ift h13 hf
              refine g_tableIn (off := 79) (tgt := 92) dX5_about_13 (by rw [h13] <;> decide) (by rw [h13] <;> decide) (by rw [h13] <;> decide) (by decide) ?_
              refine g_aload_n 0 dX5_about_92 rfl rfl ?_
              refine g_get (ci := 5) (T := TX5) (N := 16) 0 6 (.ref (ad 20)) dX5_about_93 iX5_about_X5 rfl jX5_about_38 (by decide) wlaT_0 rfl ?_
              refine g_get (ci := 0) (T := TX0) (N := 15) 20 6 (.ref (ad 26)) dX5_about_96 iX5_about_X0 rfl jX5_about_155 (by decide) wlaT_20 rfl ?_
              refine g_iload_n 1 dX5_about_99 rfl rfl ?_
              obtain ⟨h14, hf⟩ := ochi_some hf
              refine g_iald 26 0 dX5_about_100 wlaT_26 (tI hty) h14 ?_
              refine g_i2l dX5_about_101 ?_
              obtain rfl := Option.some.inj hf
              exact hr _ _ dX5_about_102
            · have hf := iff_ h13 hf
              have n_h5 := lv_neT (a := 0) h5 (by decide)
              have n_h7 := lv_neT (a := 1) h7 (by decide)
              have n_h9 := lv_neT (a := 2) h9 (by decide)
              have n_h11 := lv_neT (a := 3) h11 (by decide)
              have n_h13 := lv_neT (a := 4) h13 (by decide)
              refine g_tableOut (tgt := 103) dX5_about_13 (by omega) (by decide) ?_
              refine g_ldc2 (v := (-1000000000000000000 : Int64)) dX5_about_103 qX5_about_164 ?_
              obtain rfl := Option.some.inj hf
              exact hr _ _ dX5_about_106
  · have hf := ift h3 hf
    refine g_ldc2 (v := (-1000000000000000000 : Int64)) dX5_about_8 qX5_about_164 ?_
    obtain rfl := Option.some.inj hf
    exact hr _ _ dX5_about_11

-- ThumbScale look (IIIIII)I
def rmX5_look : Room := { frames := 2, cells := 0, slots := 0, locals := 46 }
def kX5_look : MK := (cX5_look, 7, RX5, wsX5_look, (some .int), rmX5_look)

set_option maxRecDepth 20000 in
theorem vX5_look_166 : KV kX5_look 166 RX5 yX5_isLook wsX5_isLook rmX5_isLook 4 := ⟨_, _, _, _, gX5_look_X5_isLook, rfl, rfl, rfl, by decide +kernel, ⟨by decide, by decide⟩⟩
set_option maxRecDepth 20000 in
theorem vX5_look_77 : KS kX5_look 77 yX5_within wsX5_within rmX5_within 3 := ⟨_, _, _, _, gX5_look_X5_within, rfl, rfl, rfl, by decide +kernel, ⟨by decide, by decide⟩⟩
set_option maxRecDepth 20000 in
theorem vX5_look_173 : KV kX5_look 173 RX5 yX5_seen wsX5_seen rmX5_seen 5 := ⟨_, _, _, _, gX5_look_X5_seen, rfl, rfl, rfl, by decide +kernel, ⟨by decide, by decide⟩⟩
set_option maxRecDepth 20000 in
theorem qX5_look_172 : Cond.constant RX5 172 (-2147483648 : Int32) ∈ wsX5_look := by decide +kernel
def f_X5_look (F : Nat) (s : ST) (a1 : Int32) (a2 : Int32) (a3 : Int32) (a4 : Int32) (a5 : Int32) (a6 : Int32) : Option Int32 :=
    obd (f_X5_isLook F s a1 a2 a3 a4) (fun v1 =>
    (if v1 = 0 then
    some (-1 : Int32)
    else
    obd (f_X5_within F a6 (0 : Int32) (1 : Int32)) (fun v4 =>
    (if v4 = 0 then
    some (-1 : Int32)
    else
    (if a6 = 0 then
    obd (f_X5_seen F s a1 a2 a3 a4 (-2147483648 : Int32)) (fun v10 =>
    some v10)
    else
    obd (f_X5_seen F s a1 a2 a3 a4 a5) (fun v8 =>
    some v8))))))

set_option maxHeartbeats 4000000 in
set_option maxRecDepth 100000 in
theorem c_X5_look {l : Launch} {D : va_G} {tys : List (ClassId × FieldType)} {X : XT} {cs : CS} (ad : Nat → Nat) {F : Nat} {s : ST} {a1 : Int32} {a2 : Int32} {a3 : Int32} {a4 : Int32} {a5 : Int32} {a6 : Int32} {r : Int32} (htyM : tys = tyA cs) (hf : f_X5_look F s a1 a2 a3 a4 a5 a6 = some r) : Ci l D tys X yX5_look wsX5_look rmX5_look [.ref (ad 0), .int a1, .int a2, .int a3, .int a4, .int a5, .int a6] (wT cs ad s) r (wT cs ad s) := by
  refine Ci_ofG (by decide +kernel) rfl (Nat.le_of_ble_eq_true rfl) .int rfl (vp_nar_int _) (fun E _ _ hty0 hX0 hr => ?_)
  have hty := hty0.trans htyM
  have hr : Ri E kX5_look r (wT cs ad s) := hr
  show G E kX5_look 0 0 0 [(0, .ref (ad 0)), (1, .int a1), (2, .int a2), (3, .int a3), (4, .int a4), (5, .int a5), (6, .int a6)] [] (wT cs ad s)
  unfold f_X5_look at hf
  refine g_aload_n 0 dX5_look_0 rfl rfl ?_
  refine g_iload_n 1 dX5_look_1 rfl rfl ?_
  refine g_iload_n 2 dX5_look_2 rfl rfl ?_
  refine g_iload_n 3 dX5_look_3 rfl rfl ?_
  refine g_iload 4 dX5_look_4 rfl ?_
  obtain ⟨v1, hc2, hf⟩ := obd_some hf
  refine g_callVi (ci := 5) (As := [.int a1, .int a2, .int a3, .int a4]) (rest := []) (w2 := (wT cs ad s)) 0 dX5_look_6 vX5_look_166 (c_X5_isLook ad hty hc2) rfl (mid0 _) rfl rfl 0 wlaT_0 rfl (Nat.le_of_ble_eq_true rfl) ⟨Nat.zero_le _, Nat.zero_le _⟩ (mid2 _ _) ?_
  refine g_if_eq (tgt := 22) dX5_look_9 (by decide) (fun h3 => ?_) (fun h3 => ?_)
  · have hf := ift h3 hf
    refine g_iconst (v := (-1 : Int32)) dX5_look_22 (by decide) ?_
    obtain rfl := Option.some.inj hf
    exact hr _ _ dX5_look_23
  · have hf := iff_ h3 hf
    refine g_iload 6 dX5_look_12 rfl ?_
    refine g_iconst (v := (0 : Int32)) dX5_look_14 (by decide) ?_
    refine g_iconst (v := (1 : Int32)) dX5_look_15 (by decide) ?_
    obtain ⟨v4, hc5, hf⟩ := obd_some hf
    refine g_callSi (As := [.int a6, .int (0 : Int32), .int (1 : Int32)]) (rest := []) (w2 := (wT cs ad s)) 0 dX5_look_16 vX5_look_77 (c_X5_within hty hc5) rfl (midm _) rfl (Nat.le_of_ble_eq_true rfl) ⟨Nat.zero_le _, Nat.zero_le _⟩ (midn _) ?_
    refine g_if_ne (tgt := 24) dX5_look_19 (by decide) (fun h6 => ?_) (fun h6 => ?_)
    · have hf := iff_ h6 hf
      refine g_iload 6 dX5_look_24 rfl ?_
      refine g_if_ne (tgt := 43) dX5_look_26 (by decide) (fun h7 => ?_) (fun h7 => ?_)
      · have hf := iff_ h7 hf
        refine g_aload_n 0 dX5_look_43 rfl rfl ?_
        refine g_iload_n 1 dX5_look_44 rfl rfl ?_
        refine g_iload_n 2 dX5_look_45 rfl rfl ?_
        refine g_iload_n 3 dX5_look_46 rfl rfl ?_
        refine g_iload 4 dX5_look_47 rfl ?_
        refine g_iload 5 dX5_look_49 rfl ?_
        obtain ⟨v8, hc9, hf⟩ := obd_some hf
        refine g_callVi (ci := 5) (As := [.int a1, .int a2, .int a3, .int a4, .int a5]) (rest := []) (w2 := (wT cs ad s)) 0 dX5_look_51 vX5_look_173 (c_X5_seen ad hty hc9) rfl (mid0 _) rfl rfl 0 wlaT_0 rfl (Nat.le_of_ble_eq_true rfl) ⟨Nat.zero_le _, Nat.zero_le _⟩ (mid2 _ _) ?_
        obtain rfl := Option.some.inj hf
        exact hr _ _ dX5_look_54
      · have hf := ift h7 hf
        refine g_aload_n 0 dX5_look_29 rfl rfl ?_
        refine g_iload_n 1 dX5_look_30 rfl rfl ?_
        refine g_iload_n 2 dX5_look_31 rfl rfl ?_
        refine g_iload_n 3 dX5_look_32 rfl rfl ?_
        refine g_iload 4 dX5_look_33 rfl ?_
        refine g_ldc (v := (-2147483648 : Int32)) dX5_look_35 qX5_look_172 ?_
        obtain ⟨v10, hc11, hf⟩ := obd_some hf
        refine g_callVi (ci := 5) (As := [.int a1, .int a2, .int a3, .int a4, .int (-2147483648 : Int32)]) (rest := []) (w2 := (wT cs ad s)) 0 dX5_look_37 vX5_look_173 (c_X5_seen ad hty hc11) rfl (mid0 _) rfl rfl 0 wlaT_0 rfl (Nat.le_of_ble_eq_true rfl) ⟨Nat.zero_le _, Nat.zero_le _⟩ (mid2 _ _) ?_
        refine g_goto (tgt := 54) dX5_look_40 (by decide) ?_
        obtain rfl := Option.some.inj hf
        exact hr _ _ dX5_look_54
    · have hf := ift h6 hf
      refine g_iconst (v := (-1 : Int32)) dX5_look_22 (by decide) ?_
      obtain rfl := Option.some.inj hf
      exact hr _ _ dX5_look_23

-- ThumbScale seldom (IIIII)J
def rmX5_seldom : Room := { frames := 2, cells := 0, slots := 0, locals := 50 }
def kX5_seldom : MK := (cX5_seldom, 8, RX5, wsX5_seldom, (some .long), rmX5_seldom)

set_option maxRecDepth 20000 in
theorem vX5_seldom_166 : KV kX5_seldom 166 RX5 yX5_isLook wsX5_isLook rmX5_isLook 4 := ⟨_, _, _, _, gX5_seldom_X5_isLook, rfl, rfl, rfl, by decide +kernel, ⟨by decide, by decide⟩⟩
set_option maxRecDepth 20000 in
theorem qX5_seldom_172 : Cond.constant RX5 172 (-2147483648 : Int32) ∈ wsX5_seldom := by decide +kernel
set_option maxRecDepth 20000 in
theorem vX5_seldom_173 : KV kX5_seldom 173 RX5 yX5_seen wsX5_seen rmX5_seen 5 := ⟨_, _, _, _, gX5_seldom_X5_seen, rfl, rfl, rfl, by decide +kernel, ⟨by decide, by decide⟩⟩
set_option maxRecDepth 20000 in
theorem jX5_seldom_38 : Cond.fieldLink RX5 38 (TX5 6).1 (TX5 6).2.1 (TX5 6).2.2.1 ∈ wsX5_seldom := by decide +kernel
set_option maxRecDepth 20000 in
theorem iX5_seldom_X5 : ∀ x ∈ u_ws RX5 TX5 16, x ∈ wsX5_seldom := by decide +kernel
set_option maxRecDepth 20000 in
theorem jX5_seldom_57 : Cond.fieldLink RX5 57 (TX5 9).1 (TX5 9).2.1 (TX5 9).2.2.1 ∈ wsX5_seldom := by decide +kernel
set_option maxRecDepth 20000 in
theorem jX5_seldom_16 : Cond.fieldLink RX5 16 (TX5 3).1 (TX5 3).2.1 (TX5 3).2.2.1 ∈ wsX5_seldom := by decide +kernel
set_option maxRecDepth 20000 in
theorem vX5_seldom_181 : KV kX5_seldom 181 RX2 yX2_tenthsFrom wsX2_tenthsFrom rmX2_tenthsFrom 1 := ⟨_, _, _, _, gX5_seldom_X2_tenthsFrom, rfl, rfl, rfl, by decide +kernel, ⟨by decide, by decide⟩⟩
set_option maxRecDepth 20000 in
theorem vX5_seldom_184 : KV kX5_seldom 184 RX1 yX1_withAtLeast wsX1_withAtLeast rmX1_withAtLeast 3 := ⟨_, _, _, _, gX5_seldom_X1_withAtLeast, rfl, rfl, rfl, by decide +kernel, ⟨by decide, by decide⟩⟩
set_option maxRecDepth 20000 in
theorem jX5_seldom_188 : Cond.fieldLink RX5 188 (TX0 12).1 (TX0 12).2.1 (TX0 12).2.2.1 ∈ wsX5_seldom := by decide +kernel
set_option maxRecDepth 20000 in
theorem iX5_seldom_X0 : ∀ x ∈ u_ws RX0 TX0 15, x ∈ wsX5_seldom := by decide +kernel
set_option maxRecDepth 20000 in
theorem qX5_seldom_192 : Cond.constantLong RX5 192 (10 : Int64) ∈ wsX5_seldom := by decide +kernel
set_option maxRecDepth 20000 in
theorem vX5_seldom_194 : KS kX5_seldom 194 yX5_power wsX5_power rmX5_power 2 := ⟨_, _, _, _, gX5_seldom_X5_power, rfl, rfl, rfl, by decide +kernel, ⟨by decide, by decide⟩⟩
set_option maxRecDepth 20000 in
theorem jX5_seldom_198 : Cond.fieldLink RX5 198 (TX0 13).1 (TX0 13).2.1 (TX0 13).2.2.1 ∈ wsX5_seldom := by decide +kernel
set_option maxRecDepth 20000 in
theorem jX5_seldom_201 : Cond.fieldLink RX5 201 (TX0 11).1 (TX0 11).2.1 (TX0 11).2.2.1 ∈ wsX5_seldom := by decide +kernel
set_option maxRecDepth 20000 in
theorem mX5_seldom_204 : (Cond.methodLink RX5 204 Lib.Math.min.name ∈ wsX5_seldom ∧ Cond.static Lib.Math.min.name ∈ wsX5_seldom) ∧ (Cond.initialized "java/lang/Math" ∈ wsX5_seldom ∧ Cond.code Lib.Math.min.name Lib.Math.min.code 2 (some .int) ∈ wsX5_seldom) := ⟨⟨by decide +kernel, by decide +kernel⟩, ⟨by decide +kernel, by decide +kernel⟩⟩
set_option maxRecDepth 20000 in
theorem qX5_seldom_179 : Cond.constantLong RX5 179 (-2 : Int64) ∈ wsX5_seldom := by decide +kernel
set_option maxRecDepth 20000 in
theorem qX5_seldom_177 : Cond.constantLong RX5 177 (-1 : Int64) ∈ wsX5_seldom := by decide +kernel
def f_X5_seldom (F : Nat) (s : ST) (a1 : Int32) (a2 : Int32) (a3 : Int32) (a4 : Int32) (a5 : Int32) : Option (Int64 × ST) :=
    obd (f_X5_isLook F s a1 a2 a3 a4) (fun v1 =>
    (if v1 = 0 then
    some ((-1 : Int64), s)
    else
    obd (f_X5_seen F s a1 a2 a3 a4 (-2147483648 : Int32)) (fun v4 =>
    (if v4 ≤ (18 : Int32) then
    obd (f_X5_seen F s a1 a2 a3 a4 a5) (fun v7 =>
    obd (f_X2_tenthsFrom F (T_market s) a5) (fun v9 =>
    obd (f_X1_withAtLeast F (T_honestRows s) v7 v4 v9) (fun v11 =>
    olt (uT_honestRows s v11.2) (fun s13 =>
    olt (uT_book s13 (uB_lookRows (T_book s13) v11.1)) (fun s14 =>
    obd (f_X5_power F (10 : Int64) v4) (fun v15 =>
    olt (uT_book s14 (uB_lookAll (T_book s14) v15)) (fun s17 =>
    olt (if (999 : Int32) < ((B_looks (T_book s17)) + (1 : Int32)) then (999 : Int32) else ((B_looks (T_book s17)) + (1 : Int32))) (fun z18 =>
    olt (uT_book s17 (uB_looks (T_book s17) z18)) (fun s19 =>
    some ((B_lookRows (T_book s19)), s19))))))))))
    else
    some ((-2 : Int64), s)))))

set_option maxHeartbeats 4000000 in
set_option maxRecDepth 100000 in
theorem c_X5_seldom {l : Launch} {D : va_G} {tys : List (ClassId × FieldType)} {X : XT} {cs : CS} (ad : Nat → Nat) {F : Nat} {s : ST} {a1 : Int32} {a2 : Int32} {a3 : Int32} {a4 : Int32} {a5 : Int32} {r : (Int64 × ST)} (htyM : tys = tyA cs) (hf : f_X5_seldom F s a1 a2 a3 a4 a5 = some r) : Cl l D tys X yX5_seldom wsX5_seldom rmX5_seldom [.ref (ad 0), .int a1, .int a2, .int a3, .int a4, .int a5] (wT cs ad s) r.1 (wT cs ad r.2) := by
  refine Cl_ofG (by decide +kernel) rfl (Nat.le_of_ble_eq_true rfl) (fun E _ _ hty0 hX0 hr => ?_)
  have hty := hty0.trans htyM
  have hr : Rl E kX5_seldom r.1 (wT cs ad r.2) := hr
  show G E kX5_seldom 0 0 0 [(0, .ref (ad 0)), (1, .int a1), (2, .int a2), (3, .int a3), (4, .int a4), (5, .int a5)] [] (wT cs ad s)
  unfold f_X5_seldom at hf
  refine g_aload_n 0 dX5_seldom_0 rfl rfl ?_
  refine g_iload_n 1 dX5_seldom_1 rfl rfl ?_
  refine g_iload_n 2 dX5_seldom_2 rfl rfl ?_
  refine g_iload_n 3 dX5_seldom_3 rfl rfl ?_
  refine g_iload 4 dX5_seldom_4 rfl ?_
  obtain ⟨v1, hc2, hf⟩ := obd_some hf
  refine g_callVi (ci := 5) (As := [.int a1, .int a2, .int a3, .int a4]) (rest := []) (w2 := (wT cs ad s)) 0 dX5_seldom_6 vX5_seldom_166 (c_X5_isLook ad hty hc2) rfl (mid0 _) rfl rfl 0 wlaT_0 rfl (Nat.le_of_ble_eq_true rfl) ⟨Nat.zero_le _, Nat.zero_le _⟩ (mid2 _ _) ?_
  refine g_if_ne (tgt := 16) dX5_seldom_9 (by decide) (fun h3 => ?_) (fun h3 => ?_)
  · have hf := iff_ h3 hf
    refine g_aload_n 0 dX5_seldom_16 rfl rfl ?_
    refine g_iload_n 1 dX5_seldom_17 rfl rfl ?_
    refine g_iload_n 2 dX5_seldom_18 rfl rfl ?_
    refine g_iload_n 3 dX5_seldom_19 rfl rfl ?_
    refine g_iload 4 dX5_seldom_20 rfl ?_
    refine g_ldc (v := (-2147483648 : Int32)) dX5_seldom_22 qX5_seldom_172 ?_
    obtain ⟨v4, hc5, hf⟩ := obd_some hf
    refine g_callVi (ci := 5) (As := [.int a1, .int a2, .int a3, .int a4, .int (-2147483648 : Int32)]) (rest := []) (w2 := (wT cs ad s)) 0 dX5_seldom_24 vX5_seldom_173 (c_X5_seen ad hty hc5) rfl (mid0 _) rfl rfl 0 wlaT_0 rfl (Nat.le_of_ble_eq_true rfl) ⟨Nat.zero_le _, Nat.zero_le _⟩ (mid2 _ _) ?_
    refine g_istore (lv2 := [(6, .int v4), (0, .ref (ad 0)), (1, .int a1), (2, .int a2), (3, .int a3), (4, .int a4), (5, .int a5)]) dX5_seldom_27 (by decide) rfl ?_
    refine g_iload 0 dX5_seldom_29 rfl ?_
    refine g_bipush (v := (18 : Int32)) dX5_seldom_31 (by decide) ?_
    refine g_icmp_le (tgt := 40) dX5_seldom_33 (by decide) (fun h6 => ?_) (fun h6 => ?_)
    · have hf := ift h6 hf
      refine g_aload_n 1 dX5_seldom_40 rfl rfl ?_
      refine g_iload_n 2 dX5_seldom_41 rfl rfl ?_
      refine g_iload_n 3 dX5_seldom_42 rfl rfl ?_
      refine g_iload_n 4 dX5_seldom_43 rfl rfl ?_
      refine g_iload 5 dX5_seldom_44 rfl ?_
      refine g_iload 6 dX5_seldom_46 rfl ?_
      obtain ⟨v7, hc8, hf⟩ := obd_some hf
      refine g_callVi (ci := 5) (As := [.int a1, .int a2, .int a3, .int a4, .int a5]) (rest := []) (w2 := (wT cs ad s)) 0 dX5_seldom_48 vX5_seldom_173 (c_X5_seen ad hty hc8) rfl (mid0 _) rfl rfl 0 wlaT_0 rfl (Nat.le_of_ble_eq_true rfl) ⟨Nat.zero_le _, Nat.zero_le _⟩ (mid2 _ _) ?_
      refine g_istore (lv2 := [(7, .int v7), (6, .int v4), (0, .ref (ad 0)), (1, .int a1), (2, .int a2), (3, .int a3), (4, .int a4), (5, .int a5)]) dX5_seldom_51 (by decide) rfl ?_
      refine g_aload_n 2 dX5_seldom_53 rfl rfl ?_
      refine g_get (ci := 5) (T := TX5) (N := 16) 0 6 (.ref (ad 20)) dX5_seldom_54 iX5_seldom_X5 rfl jX5_seldom_38 (by decide) wlaT_0 rfl ?_
      refine g_aload_n 2 dX5_seldom_57 rfl rfl ?_
      refine g_get (ci := 5) (T := TX5) (N := 16) 0 9 (.ref (ad 52)) dX5_seldom_58 iX5_seldom_X5 rfl jX5_seldom_57 (by decide) wlaT_0 rfl ?_
      refine g_iload 0 dX5_seldom_61 rfl ?_
      refine g_iload 1 dX5_seldom_63 rfl ?_
      refine g_aload_n 2 dX5_seldom_65 rfl rfl ?_
      refine g_get (ci := 5) (T := TX5) (N := 16) 0 3 (.ref (ad 11)) dX5_seldom_66 iX5_seldom_X5 rfl jX5_seldom_16 (by decide) wlaT_0 rfl ?_
      refine g_iload 7 dX5_seldom_69 rfl ?_
      obtain ⟨v9, hc10, hf⟩ := obd_some hf
      refine g_callVi (ci := 2) (As := [.int a5]) (rest := [.int v4, .int v7, .ref (ad 52), .ref (ad 20)]) (w2 := (wT cs ad s)) 11 dX5_seldom_71 vX5_seldom_181 (c_X2_tenthsFrom (fun k => ad (11 + k)) hty hc10) rfl wlhT_11 rfl rfl 0 wlaM_0 rfl (Nat.le_of_ble_eq_true rfl) ⟨Nat.zero_le _, Nat.zero_le _⟩ wlrT_11 ?_
      obtain ⟨v11, hc12, hf⟩ := obd_some hf
      obtain ⟨s13, e_s13, hf⟩ := olt_some hf
      refine g_callVl (ci := 1) (As := [.int v7, .int v4, .int v9]) (rest := [.ref (ad 20)]) (w2 := (wT cs ad s13)) 52 dX5_seldom_74 vX5_seldom_184 (c_X1_withAtLeast (fun k => ad (52 + k)) hty hc12) rfl wlhT_52 rfl rfl 0 wlaH_0 rfl (Nat.le_of_ble_eq_true rfl) ⟨Nat.zero_le _, Nat.zero_le _⟩ (wlcT_52.trans (congrArg (wT cs ad) e_s13)) ?_
      obtain ⟨s14, e_s14, hf⟩ := olt_some hf
      refine g_put (ci := 0) (T := TX0) (N := 15) (ty := .long) (w2 := (wT cs ad s14)) 20 12 (.long v11.1) tyX0 dX5_seldom_77 iX5_seldom_X0 tyX0_ok nmX0 rfl jX5_seldom_188 (by decide) rfl rfl rfl rfl wlaT_20 (Nat.le_of_ble_eq_true rfl) (wlpT_20_12.trans (congrArg (wT cs ad) e_s14)) ?_
      refine g_aload_n 2 dX5_seldom_80 rfl rfl ?_
      refine g_get (ci := 5) (T := TX5) (N := 16) 0 6 (.ref (ad 20)) dX5_seldom_81 iX5_seldom_X5 rfl jX5_seldom_38 (by decide) wlaT_0 rfl ?_
      refine g_ldc2 (v := (10 : Int64)) dX5_seldom_84 qX5_seldom_192 ?_
      refine g_iload 1 dX5_seldom_87 rfl ?_
      obtain ⟨v15, hc16, hf⟩ := obd_some hf
      refine g_callSl (As := [.long (10 : Int64), .int v4]) (rest := [.ref (ad 20)]) (w2 := (wT cs ad s14)) 0 dX5_seldom_89 vX5_seldom_194 (c_X5_power hty hc16) rfl (midm _) rfl (Nat.le_of_ble_eq_true rfl) ⟨Nat.zero_le _, Nat.zero_le _⟩ (midn _) ?_
      obtain ⟨s17, e_s17, hf⟩ := olt_some hf
      refine g_put (ci := 0) (T := TX0) (N := 15) (ty := .long) (w2 := (wT cs ad s17)) 20 13 (.long v15) tyX0 dX5_seldom_92 iX5_seldom_X0 tyX0_ok nmX0 rfl jX5_seldom_198 (by decide) rfl rfl rfl rfl wlaT_20 (Nat.le_of_ble_eq_true rfl) (wlpT_20_13.trans (congrArg (wT cs ad) e_s17)) ?_
      refine g_aload_n 2 dX5_seldom_95 rfl rfl ?_
      refine g_get (ci := 5) (T := TX5) (N := 16) 0 6 (.ref (ad 20)) dX5_seldom_96 iX5_seldom_X5 rfl jX5_seldom_38 (by decide) wlaT_0 rfl ?_
      refine g_aload_n 2 dX5_seldom_99 rfl rfl ?_
      refine g_get (ci := 5) (T := TX5) (N := 16) 0 6 (.ref (ad 20)) dX5_seldom_100 iX5_seldom_X5 rfl jX5_seldom_38 (by decide) wlaT_0 rfl ?_
      refine g_get (ci := 0) (T := TX0) (N := 15) 20 11 (.int (B_looks (T_book s17))) dX5_seldom_103 iX5_seldom_X0 rfl jX5_seldom_201 (by decide) wlaT_20 rfl ?_
      refine g_iconst (v := (1 : Int32)) dX5_seldom_106 (by decide) ?_
      refine g_iadd dX5_seldom_107 ?_
      refine g_sipush (v := (999 : Int32)) dX5_seldom_108 (by decide) ?_
      refine g_mmin dX5_seldom_111 mX5_seldom_204.1.1 mX5_seldom_204.1.2 mX5_seldom_204.2.1 mX5_seldom_204.2.2 ⟨by decide, Nat.le_of_ble_eq_true rfl, Nat.zero_le _, Nat.zero_le _⟩ ?_
      obtain ⟨z18, e_z18, hf⟩ := olt_some hf
      refine g_cast rfl rfl (congrArg (fun q => Value.int q :: [.ref (ad 20)]) e_z18) rfl ?_
      obtain ⟨s19, e_s19, hf⟩ := olt_some hf
      refine g_put (ci := 0) (T := TX0) (N := 15) (ty := .int) (w2 := (wT cs ad s19)) 20 11 (.int z18) tyX0 dX5_seldom_114 iX5_seldom_X0 tyX0_ok nmX0 rfl jX5_seldom_201 (by decide) rfl rfl rfl rfl wlaT_20 (Nat.le_of_ble_eq_true rfl) (wlpT_20_11.trans (congrArg (wT cs ad) e_s19)) ?_
      refine g_aload_n 2 dX5_seldom_117 rfl rfl ?_
      refine g_get (ci := 5) (T := TX5) (N := 16) 0 6 (.ref (ad 20)) dX5_seldom_118 iX5_seldom_X5 rfl jX5_seldom_38 (by decide) wlaT_0 rfl ?_
      refine g_get (ci := 0) (T := TX0) (N := 15) 20 12 (.long (B_lookRows (T_book s19))) dX5_seldom_121 iX5_seldom_X0 rfl jX5_seldom_188 (by decide) wlaT_20 rfl ?_
      obtain rfl := Option.some.inj hf
      exact hr _ _ dX5_seldom_124
    · have hf := iff_ h6 hf
      refine g_ldc2 (v := (-2 : Int64)) dX5_seldom_36 qX5_seldom_179 ?_
      obtain rfl := Option.some.inj hf
      exact hr _ _ dX5_seldom_39
  · have hf := ift h3 hf
    refine g_ldc2 (v := (-1 : Int64)) dX5_seldom_12 qX5_seldom_177 ?_
    obtain rfl := Option.some.inj hf
    exact hr _ _ dX5_seldom_15

-- ThumbScale counted (I)J
def rmX5_counted : Room := { frames := 1, cells := 0, slots := 0, locals := 24 }
def kX5_counted : MK := (cX5_counted, 2, RX5, wsX5_counted, (some .long), rmX5_counted)

set_option maxRecDepth 20000 in
theorem vX5_counted_77 : KS kX5_counted 77 yX5_within wsX5_within rmX5_within 3 := ⟨_, _, _, _, gX5_counted_X5_within, rfl, rfl, rfl, by decide +kernel, ⟨by decide, by decide⟩⟩
set_option maxRecDepth 20000 in
theorem jX5_counted_38 : Cond.fieldLink RX5 38 (TX5 6).1 (TX5 6).2.1 (TX5 6).2.2.1 ∈ wsX5_counted := by decide +kernel
set_option maxRecDepth 20000 in
theorem iX5_counted_X5 : ∀ x ∈ u_ws RX5 TX5 16, x ∈ wsX5_counted := by decide +kernel
set_option maxRecDepth 20000 in
theorem jX5_counted_201 : Cond.fieldLink RX5 201 (TX0 11).1 (TX0 11).2.1 (TX0 11).2.2.1 ∈ wsX5_counted := by decide +kernel
set_option maxRecDepth 20000 in
theorem iX5_counted_X0 : ∀ x ∈ u_ws RX0 TX0 15, x ∈ wsX5_counted := by decide +kernel
set_option maxRecDepth 20000 in
theorem jX5_counted_188 : Cond.fieldLink RX5 188 (TX0 12).1 (TX0 12).2.1 (TX0 12).2.2.1 ∈ wsX5_counted := by decide +kernel
set_option maxRecDepth 20000 in
theorem jX5_counted_198 : Cond.fieldLink RX5 198 (TX0 13).1 (TX0 13).2.1 (TX0 13).2.2.1 ∈ wsX5_counted := by decide +kernel
set_option maxRecDepth 20000 in
theorem vX5_counted_209 : KS kX5_counted 209 yX5_atMost wsX5_atMost rmX5_atMost 3 := ⟨_, _, _, _, gX5_counted_X5_atMost, rfl, rfl, rfl, by decide +kernel, ⟨by decide, by decide⟩⟩
set_option maxRecDepth 20000 in
theorem qX5_counted_179 : Cond.constantLong RX5 179 (-2 : Int64) ∈ wsX5_counted := by decide +kernel
set_option maxRecDepth 20000 in
theorem qX5_counted_177 : Cond.constantLong RX5 177 (-1 : Int64) ∈ wsX5_counted := by decide +kernel
def f_X5_counted (F : Nat) (s : ST) (a1 : Int32) : Option Int64 :=
    obd (f_X5_within F a1 (0 : Int32) (2 : Int32)) (fun v1 =>
    (if v1 = 0 then
    some (-1 : Int64)
    else
    (if 0 < (B_looks (T_book s)) then
    (if a1 = (0 : Int32) then
    obd (f_X5_atMost F (B_lookRows (T_book s)) (B_looks (T_book s)) (B_lookAll (T_book s))) (fun v7 =>
    some v7)
    else
    (if a1 = (1 : Int32) then
    some (B_lookAll (T_book s))
    else
    some (Int32.toInt64 (B_looks (T_book s)))))
    else
    some (-2 : Int64))))

set_option maxHeartbeats 4000000 in
set_option maxRecDepth 100000 in
theorem c_X5_counted {l : Launch} {D : va_G} {tys : List (ClassId × FieldType)} {X : XT} {cs : CS} (ad : Nat → Nat) {F : Nat} {s : ST} {a1 : Int32} {r : Int64} (htyM : tys = tyA cs) (hf : f_X5_counted F s a1 = some r) : Cl l D tys X yX5_counted wsX5_counted rmX5_counted [.ref (ad 0), .int a1] (wT cs ad s) r (wT cs ad s) := by
  refine Cl_ofG (by decide +kernel) rfl (Nat.le_of_ble_eq_true rfl) (fun E _ _ hty0 hX0 hr => ?_)
  have hty := hty0.trans htyM
  have hr : Rl E kX5_counted r (wT cs ad s) := hr
  show G E kX5_counted 0 0 0 [(0, .ref (ad 0)), (1, .int a1)] [] (wT cs ad s)
  unfold f_X5_counted at hf
  refine g_iload_n 1 dX5_counted_0 rfl rfl ?_
  refine g_iconst (v := (0 : Int32)) dX5_counted_1 (by decide) ?_
  refine g_iconst (v := (2 : Int32)) dX5_counted_2 (by decide) ?_
  obtain ⟨v1, hc2, hf⟩ := obd_some hf
  refine g_callSi (As := [.int a1, .int (0 : Int32), .int (2 : Int32)]) (rest := []) (w2 := (wT cs ad s)) 0 dX5_counted_3 vX5_counted_77 (c_X5_within hty hc2) rfl (midm _) rfl (Nat.le_of_ble_eq_true rfl) ⟨Nat.zero_le _, Nat.zero_le _⟩ (midn _) ?_
  refine g_if_ne (tgt := 13) dX5_counted_6 (by decide) (fun h3 => ?_) (fun h3 => ?_)
  · have hf := iff_ h3 hf
    refine g_aload_n 0 dX5_counted_13 rfl rfl ?_
    refine g_get (ci := 5) (T := TX5) (N := 16) 0 6 (.ref (ad 20)) dX5_counted_14 iX5_counted_X5 rfl jX5_counted_38 (by decide) wlaT_0 rfl ?_
    refine g_get (ci := 0) (T := TX0) (N := 15) 20 11 (.int (B_looks (T_book s))) dX5_counted_17 iX5_counted_X0 rfl jX5_counted_201 (by decide) wlaT_20 rfl ?_
    refine g_if_gt (tgt := 27) dX5_counted_20 (by decide) (fun h4 => ?_) (fun h4 => ?_)
    · have hf := ift h4 hf
      refine g_iload_n 1 dX5_counted_27 rfl rfl ?_
      by_cases h6 : a1 = (0 : Int32)
      · have hf := ift h6 hf
        refine g_lookup (off := 28) (tgt := 56) dX5_counted_28 (by decide) (by rw [h6] <;> decide) (by decide) ?_
        refine g_aload_n 0 dX5_counted_56 rfl rfl ?_
        refine g_get (ci := 5) (T := TX5) (N := 16) 0 6 (.ref (ad 20)) dX5_counted_57 iX5_counted_X5 rfl jX5_counted_38 (by decide) wlaT_0 rfl ?_
        refine g_get (ci := 0) (T := TX0) (N := 15) 20 12 (.long (B_lookRows (T_book s))) dX5_counted_60 iX5_counted_X0 rfl jX5_counted_188 (by decide) wlaT_20 rfl ?_
        refine g_aload_n 0 dX5_counted_63 rfl rfl ?_
        refine g_get (ci := 5) (T := TX5) (N := 16) 0 6 (.ref (ad 20)) dX5_counted_64 iX5_counted_X5 rfl jX5_counted_38 (by decide) wlaT_0 rfl ?_
        refine g_get (ci := 0) (T := TX0) (N := 15) 20 11 (.int (B_looks (T_book s))) dX5_counted_67 iX5_counted_X0 rfl jX5_counted_201 (by decide) wlaT_20 rfl ?_
        refine g_aload_n 0 dX5_counted_70 rfl rfl ?_
        refine g_get (ci := 5) (T := TX5) (N := 16) 0 6 (.ref (ad 20)) dX5_counted_71 iX5_counted_X5 rfl jX5_counted_38 (by decide) wlaT_0 rfl ?_
        refine g_get (ci := 0) (T := TX0) (N := 15) 20 13 (.long (B_lookAll (T_book s))) dX5_counted_74 iX5_counted_X0 rfl jX5_counted_198 (by decide) wlaT_20 rfl ?_
        obtain ⟨v7, hc8, hf⟩ := obd_some hf
        refine g_callSl (As := [.long (B_lookRows (T_book s)), .int (B_looks (T_book s)), .long (B_lookAll (T_book s))]) (rest := []) (w2 := (wT cs ad s)) 0 dX5_counted_77 vX5_counted_209 (c_X5_atMost hty hc8) rfl (midm _) rfl (Nat.le_of_ble_eq_true rfl) ⟨Nat.zero_le _, Nat.zero_le _⟩ (midn _) ?_
        obtain rfl := Option.some.inj hf
        exact hr _ _ dX5_counted_80
      · have hf := iff_ h6 hf
        by_cases h9 : a1 = (1 : Int32)
        · have hf := ift h9 hf
          refine g_lookup (off := 53) (tgt := 81) dX5_counted_28 (by decide) (by rw [h9] <;> decide) (by decide) ?_
          refine g_aload_n 0 dX5_counted_81 rfl rfl ?_
          refine g_get (ci := 5) (T := TX5) (N := 16) 0 6 (.ref (ad 20)) dX5_counted_82 iX5_counted_X5 rfl jX5_counted_38 (by decide) wlaT_0 rfl ?_
          refine g_get (ci := 0) (T := TX0) (N := 15) 20 13 (.long (B_lookAll (T_book s))) dX5_counted_85 iX5_counted_X0 rfl jX5_counted_198 (by decide) wlaT_20 rfl ?_
          obtain rfl := Option.some.inj hf
          exact hr _ _ dX5_counted_88
        · have hf := iff_ h9 hf
          refine g_lookup (off := 61) (tgt := 89) dX5_counted_28 (by decide) (by rw [lv_osw h6 (by decide), lv_osw h9 (by decide)] <;> rfl) (by decide) ?_
          refine g_aload_n 0 dX5_counted_89 rfl rfl ?_
          refine g_get (ci := 5) (T := TX5) (N := 16) 0 6 (.ref (ad 20)) dX5_counted_90 iX5_counted_X5 rfl jX5_counted_38 (by decide) wlaT_0 rfl ?_
          refine g_get (ci := 0) (T := TX0) (N := 15) 20 11 (.int (B_looks (T_book s))) dX5_counted_93 iX5_counted_X0 rfl jX5_counted_201 (by decide) wlaT_20 rfl ?_
          refine g_i2l dX5_counted_96 ?_
          obtain rfl := Option.some.inj hf
          exact hr _ _ dX5_counted_97
    · have hf := iff_ h4 hf
      refine g_ldc2 (v := (-2 : Int64)) dX5_counted_23 qX5_counted_179 ?_
      obtain rfl := Option.some.inj hf
      exact hr _ _ dX5_counted_26
  · have hf := ift h3 hf
    refine g_ldc2 (v := (-1 : Int64)) dX5_counted_9 qX5_counted_177 ?_
    obtain rfl := Option.some.inj hf
    exact hr _ _ dX5_counted_12

-- ThumbScale likely (III)J
def rmX5_likely : Room := { frames := 4, cells := 0, slots := 0, locals := 97 }
def kX5_likely : MK := (cX5_likely, 5, RX5, wsX5_likely, (some .long), rmX5_likely)

set_option maxRecDepth 20000 in
theorem vX5_likely_115 : KV kX5_likely 115 RX5 yX5_isWay wsX5_isWay rmX5_isWay 1 := ⟨_, _, _, _, gX5_likely_X5_isWay, rfl, rfl, rfl, by decide +kernel, ⟨by decide, by decide⟩⟩
set_option maxRecDepth 20000 in
theorem qX5_likely_177 : Cond.constantLong RX5 177 (-1 : Int64) ∈ wsX5_likely := by decide +kernel
set_option maxRecDepth 20000 in
theorem vX5_likely_95 : KV kX5_likely 95 RX5 yX5_isStall wsX5_isStall rmX5_isStall 1 := ⟨_, _, _, _, gX5_likely_X5_isStall, rfl, rfl, rfl, by decide +kernel, ⟨by decide, by decide⟩⟩
set_option maxRecDepth 20000 in
theorem vX5_likely_213 : KS kX5_likely 213 yX5_isPart wsX5_isPart rmX5_isPart 1 := ⟨_, _, _, _, gX5_likely_X5_isPart, rfl, rfl, rfl, by decide +kernel, ⟨by decide, by decide⟩⟩
set_option maxRecDepth 20000 in
theorem jX5_likely_38 : Cond.fieldLink RX5 38 (TX5 6).1 (TX5 6).2.1 (TX5 6).2.2.1 ∈ wsX5_likely := by decide +kernel
set_option maxRecDepth 20000 in
theorem iX5_likely_X5 : ∀ x ∈ u_ws RX5 TX5 16, x ∈ wsX5_likely := by decide +kernel
set_option maxRecDepth 20000 in
theorem vX5_likely_108 : KV kX5_likely 108 RX0 yX0_bagsOf wsX0_bagsOf rmX0_bagsOf 2 := ⟨_, _, _, _, gX5_likely_X0_bagsOf, rfl, rfl, rfl, by decide +kernel, ⟨by decide, by decide⟩⟩
set_option maxRecDepth 20000 in
theorem vX5_likely_216 : KV kX5_likely 216 RX5 yX5_oftenTogether wsX5_oftenTogether rmX5_oftenTogether 2 := ⟨_, _, _, _, gX5_likely_X5_oftenTogether, rfl, rfl, rfl, by decide +kernel, ⟨by decide, by decide⟩⟩
set_option maxRecDepth 20000 in
theorem qX5_likely_220 : Cond.constantLong RX5 220 (600 : Int64) ∈ wsX5_likely := by decide +kernel
set_option maxRecDepth 20000 in
theorem vX5_likely_194 : KS kX5_likely 194 yX5_power wsX5_power rmX5_power 2 := ⟨_, _, _, _, gX5_likely_X5_power, rfl, rfl, rfl, by decide +kernel, ⟨by decide, by decide⟩⟩
set_option maxRecDepth 20000 in
theorem vX5_likely_222 : KS kX5_likely 222 yX5_inLeastTerms wsX5_inLeastTerms rmX5_inLeastTerms 3 := ⟨_, _, _, _, gX5_likely_X5_inLeastTerms, rfl, rfl, rfl, by decide +kernel, ⟨by decide, by decide⟩⟩
set_option maxRecDepth 20000 in
theorem qX5_likely_179 : Cond.constantLong RX5 179 (-2 : Int64) ∈ wsX5_likely := by decide +kernel
def f_X5_likely (F : Nat) (s : ST) (a1 : Int32) (a2 : Int32) (a3 : Int32) : Option Int64 :=
    obd (f_X5_isWay F s a1) (fun v1 =>
    (if v1 = 0 then
    some (-1 : Int64)
    else
    obd (f_X5_isStall F s a2) (fun v4 =>
    (if v4 = 0 then
    some (-1 : Int64)
    else
    obd (f_X5_isPart F a3) (fun v7 =>
    (if v7 = 0 then
    some (-1 : Int64)
    else
    obd (f_X0_bagsOf F (T_book s) a2 (15 : Int32)) (fun v10 =>
    (if v10 ≤ (6 : Int32) then
    obd (f_X5_oftenTogether F s a1 a2) (fun v13 =>
    obd (f_X5_power F (600 : Int64) v10) (fun v15 =>
    obd (f_X5_inLeastTerms F v13 v15 a3) (fun v17 =>
    some v17)))
    else
    some (-2 : Int64)))))))))

set_option maxHeartbeats 4000000 in
set_option maxRecDepth 100000 in
theorem c_X5_likely {l : Launch} {D : va_G} {tys : List (ClassId × FieldType)} {X : XT} {cs : CS} (ad : Nat → Nat) {F : Nat} {s : ST} {a1 : Int32} {a2 : Int32} {a3 : Int32} {r : Int64} (htyM : tys = tyA cs) (hf : f_X5_likely F s a1 a2 a3 = some r) : Cl l D tys X yX5_likely wsX5_likely rmX5_likely [.ref (ad 0), .int a1, .int a2, .int a3] (wT cs ad s) r (wT cs ad s) := by
  refine Cl_ofG (by decide +kernel) rfl (Nat.le_of_ble_eq_true rfl) (fun E _ _ hty0 hX0 hr => ?_)
  have hty := hty0.trans htyM
  have hr : Rl E kX5_likely r (wT cs ad s) := hr
  show G E kX5_likely 0 0 0 [(0, .ref (ad 0)), (1, .int a1), (2, .int a2), (3, .int a3)] [] (wT cs ad s)
  unfold f_X5_likely at hf
  refine g_aload_n 0 dX5_likely_0 rfl rfl ?_
  refine g_iload_n 1 dX5_likely_1 rfl rfl ?_
  obtain ⟨v1, hc2, hf⟩ := obd_some hf
  refine g_callVi (ci := 5) (As := [.int a1]) (rest := []) (w2 := (wT cs ad s)) 0 dX5_likely_2 vX5_likely_115 (c_X5_isWay ad hty hc2) rfl (mid0 _) rfl rfl 0 wlaT_0 rfl (Nat.le_of_ble_eq_true rfl) ⟨Nat.zero_le _, Nat.zero_le _⟩ (mid2 _ _) ?_
  refine g_if_eq (tgt := 23) dX5_likely_5 (by decide) (fun h3 => ?_) (fun h3 => ?_)
  · have hf := ift h3 hf
    refine g_ldc2 (v := (-1 : Int64)) dX5_likely_23 qX5_likely_177 ?_
    obtain rfl := Option.some.inj hf
    exact hr _ _ dX5_likely_26
  · have hf := iff_ h3 hf
    refine g_aload_n 0 dX5_likely_8 rfl rfl ?_
    refine g_iload_n 2 dX5_likely_9 rfl rfl ?_
    obtain ⟨v4, hc5, hf⟩ := obd_some hf
    refine g_callVi (ci := 5) (As := [.int a2]) (rest := []) (w2 := (wT cs ad s)) 0 dX5_likely_10 vX5_likely_95 (c_X5_isStall ad hty hc5) rfl (mid0 _) rfl rfl 0 wlaT_0 rfl (Nat.le_of_ble_eq_true rfl) ⟨Nat.zero_le _, Nat.zero_le _⟩ (mid2 _ _) ?_
    refine g_if_eq (tgt := 23) dX5_likely_13 (by decide) (fun h6 => ?_) (fun h6 => ?_)
    · have hf := ift h6 hf
      refine g_ldc2 (v := (-1 : Int64)) dX5_likely_23 qX5_likely_177 ?_
      obtain rfl := Option.some.inj hf
      exact hr _ _ dX5_likely_26
    · have hf := iff_ h6 hf
      refine g_iload_n 3 dX5_likely_16 rfl rfl ?_
      obtain ⟨v7, hc8, hf⟩ := obd_some hf
      refine g_callSi (As := [.int a3]) (rest := []) (w2 := (wT cs ad s)) 0 dX5_likely_17 vX5_likely_213 (c_X5_isPart hty hc8) rfl (midm _) rfl (Nat.le_of_ble_eq_true rfl) ⟨Nat.zero_le _, Nat.zero_le _⟩ (midn _) ?_
      refine g_if_ne (tgt := 27) dX5_likely_20 (by decide) (fun h9 => ?_) (fun h9 => ?_)
      · have hf := iff_ h9 hf
        refine g_aload_n 0 dX5_likely_27 rfl rfl ?_
        refine g_get (ci := 5) (T := TX5) (N := 16) 0 6 (.ref (ad 20)) dX5_likely_28 iX5_likely_X5 rfl jX5_likely_38 (by decide) wlaT_0 rfl ?_
        refine g_iload_n 2 dX5_likely_31 rfl rfl ?_
        refine g_bipush (v := (15 : Int32)) dX5_likely_32 (by decide) ?_
        obtain ⟨v10, hc11, hf⟩ := obd_some hf
        refine g_callVi (ci := 0) (As := [.int a2, .int (15 : Int32)]) (rest := []) (w2 := (wT cs ad s)) 20 dX5_likely_34 vX5_likely_108 (c_X0_bagsOf (fun k => ad (20 + k)) hty hc11) rfl wlhT_20 rfl rfl 0 wlaB_0 rfl (Nat.le_of_ble_eq_true rfl) ⟨Nat.zero_le _, Nat.zero_le _⟩ wlrT_20 ?_
        refine g_istore (lv2 := [(4, .int v10), (0, .ref (ad 0)), (1, .int a1), (2, .int a2), (3, .int a3)]) dX5_likely_37 (by decide) rfl ?_
        refine g_iload 0 dX5_likely_39 rfl ?_
        refine g_bipush (v := (6 : Int32)) dX5_likely_41 (by decide) ?_
        refine g_icmp_le (tgt := 50) dX5_likely_43 (by decide) (fun h12 => ?_) (fun h12 => ?_)
        · have hf := ift h12 hf
          refine g_aload_n 1 dX5_likely_50 rfl rfl ?_
          refine g_iload_n 2 dX5_likely_51 rfl rfl ?_
          refine g_iload_n 3 dX5_likely_52 rfl rfl ?_
          obtain ⟨v13, hc14, hf⟩ := obd_some hf
          refine g_callVl (ci := 5) (As := [.int a1, .int a2]) (rest := []) (w2 := (wT cs ad s)) 0 dX5_likely_53 vX5_likely_216 (c_X5_oftenTogether ad hty hc14) rfl (mid0 _) rfl rfl 0 wlaT_0 rfl (Nat.le_of_ble_eq_true rfl) ⟨Nat.zero_le _, Nat.zero_le _⟩ (mid2 _ _) ?_
          refine g_ldc2 (v := (600 : Int64)) dX5_likely_56 qX5_likely_220 ?_
          refine g_iload 0 dX5_likely_59 rfl ?_
          obtain ⟨v15, hc16, hf⟩ := obd_some hf
          refine g_callSl (As := [.long (600 : Int64), .int v10]) (rest := [.long v13]) (w2 := (wT cs ad s)) 0 dX5_likely_61 vX5_likely_194 (c_X5_power hty hc16) rfl (midm _) rfl (Nat.le_of_ble_eq_true rfl) ⟨Nat.zero_le _, Nat.zero_le _⟩ (midn _) ?_
          refine g_iload_n 4 dX5_likely_64 rfl rfl ?_
          obtain ⟨v17, hc18, hf⟩ := obd_some hf
          refine g_callSl (As := [.long v13, .long v15, .int a3]) (rest := []) (w2 := (wT cs ad s)) 0 dX5_likely_65 vX5_likely_222 (c_X5_inLeastTerms hty hc18) rfl (midm _) rfl (Nat.le_of_ble_eq_true rfl) ⟨Nat.zero_le _, Nat.zero_le _⟩ (midn _) ?_
          obtain rfl := Option.some.inj hf
          exact hr _ _ dX5_likely_68
        · have hf := iff_ h12 hf
          refine g_ldc2 (v := (-2 : Int64)) dX5_likely_46 qX5_likely_179 ?_
          obtain rfl := Option.some.inj hf
          exact hr _ _ dX5_likely_49
      · have hf := ift h9 hf
        refine g_ldc2 (v := (-1 : Int64)) dX5_likely_23 qX5_likely_177 ?_
        obtain rfl := Option.some.inj hf
        exact hr _ _ dX5_likely_26

-- ThumbScale belief (II)I
def rmX5_belief : Room := { frames := 1, cells := 0, slots := 0, locals := 22 }
def kX5_belief : MK := (cX5_belief, 4, RX5, wsX5_belief, (some .int), rmX5_belief)

set_option maxRecDepth 20000 in
theorem vX5_belief_115 : KV kX5_belief 115 RX5 yX5_isWay wsX5_isWay rmX5_isWay 1 := ⟨_, _, _, _, gX5_belief_X5_isWay, rfl, rfl, rfl, by decide +kernel, ⟨by decide, by decide⟩⟩
set_option maxRecDepth 20000 in
theorem vX5_belief_77 : KS kX5_belief 77 yX5_within wsX5_within rmX5_within 3 := ⟨_, _, _, _, gX5_belief_X5_within, rfl, rfl, rfl, by decide +kernel, ⟨by decide, by decide⟩⟩
set_option maxRecDepth 20000 in
theorem jX5_belief_32 : Cond.fieldLink RX5 32 (TX5 5).1 (TX5 5).2.1 (TX5 5).2.2.1 ∈ wsX5_belief := by decide +kernel
set_option maxRecDepth 20000 in
theorem iX5_belief_X5 : ∀ x ∈ u_ws RX5 TX5 16, x ∈ wsX5_belief := by decide +kernel
def f_X5_belief (F : Nat) (s : ST) (a1 : Int32) (a2 : Int32) : Option (Int32 × ST) :=
    obd (f_X5_isWay F s a1) (fun v1 =>
    (if v1 = 0 then
    some ((-1 : Int32), s)
    else
    obd (f_X5_within F a2 (0 : Int32) (9 : Int32)) (fun v4 =>
    (if v4 = 0 then
    some ((-1 : Int32), s)
    else
    ochi a1 6 (
    ochi a1 6 (olt (uT_beliefs s (upd (T_beliefs s) (Int32.toNatClampNeg a1) a2)) (fun s9 =>
    some (((T_beliefs s) (Int32.toNatClampNeg a1)), s9))))))))

set_option maxHeartbeats 4000000 in
set_option maxRecDepth 100000 in
theorem c_X5_belief {l : Launch} {D : va_G} {tys : List (ClassId × FieldType)} {X : XT} {cs : CS} (ad : Nat → Nat) {F : Nat} {s : ST} {a1 : Int32} {a2 : Int32} {r : (Int32 × ST)} (htyM : tys = tyA cs) (hf : f_X5_belief F s a1 a2 = some r) : Ci l D tys X yX5_belief wsX5_belief rmX5_belief [.ref (ad 0), .int a1, .int a2] (wT cs ad s) r.1 (wT cs ad r.2) := by
  refine Ci_ofG (by decide +kernel) rfl (Nat.le_of_ble_eq_true rfl) .int rfl (vp_nar_int _) (fun E _ _ hty0 hX0 hr => ?_)
  have hty := hty0.trans htyM
  have hr : Ri E kX5_belief r.1 (wT cs ad r.2) := hr
  show G E kX5_belief 0 0 0 [(0, .ref (ad 0)), (1, .int a1), (2, .int a2)] [] (wT cs ad s)
  unfold f_X5_belief at hf
  refine g_aload_n 0 dX5_belief_0 rfl rfl ?_
  refine g_iload_n 1 dX5_belief_1 rfl rfl ?_
  obtain ⟨v1, hc2, hf⟩ := obd_some hf
  refine g_callVi (ci := 5) (As := [.int a1]) (rest := []) (w2 := (wT cs ad s)) 0 dX5_belief_2 vX5_belief_115 (c_X5_isWay ad hty hc2) rfl (mid0 _) rfl rfl 0 wlaT_0 rfl (Nat.le_of_ble_eq_true rfl) ⟨Nat.zero_le _, Nat.zero_le _⟩ (mid2 _ _) ?_
  refine g_if_eq (tgt := 18) dX5_belief_5 (by decide) (fun h3 => ?_) (fun h3 => ?_)
  · have hf := ift h3 hf
    refine g_iconst (v := (-1 : Int32)) dX5_belief_18 (by decide) ?_
    obtain rfl := Option.some.inj hf
    exact hr _ _ dX5_belief_19
  · have hf := iff_ h3 hf
    refine g_iload_n 2 dX5_belief_8 rfl rfl ?_
    refine g_iconst (v := (0 : Int32)) dX5_belief_9 (by decide) ?_
    refine g_bipush (v := (9 : Int32)) dX5_belief_10 (by decide) ?_
    obtain ⟨v4, hc5, hf⟩ := obd_some hf
    refine g_callSi (As := [.int a2, .int (0 : Int32), .int (9 : Int32)]) (rest := []) (w2 := (wT cs ad s)) 0 dX5_belief_12 vX5_belief_77 (c_X5_within hty hc5) rfl (midm _) rfl (Nat.le_of_ble_eq_true rfl) ⟨Nat.zero_le _, Nat.zero_le _⟩ (midn _) ?_
    refine g_if_ne (tgt := 20) dX5_belief_15 (by decide) (fun h6 => ?_) (fun h6 => ?_)
    · have hf := iff_ h6 hf
      refine g_aload_n 0 dX5_belief_20 rfl rfl ?_
      refine g_get (ci := 5) (T := TX5) (N := 16) 0 5 (.ref (ad 19)) dX5_belief_21 iX5_belief_X5 rfl jX5_belief_32 (by decide) wlaT_0 rfl ?_
      refine g_iload_n 1 dX5_belief_24 rfl rfl ?_
      obtain ⟨h7, hf⟩ := ochi_some hf
      refine g_iald 19 0 dX5_belief_25 wlaT_19 (tI hty) h7 ?_
      refine g_istore_n (lv2 := [(3, .int ((T_beliefs s) (Int32.toNatClampNeg a1))), (0, .ref (ad 0)), (1, .int a1), (2, .int a2)]) dX5_belief_26 rfl (by decide) rfl ?_
      refine g_aload_n 1 dX5_belief_27 rfl rfl ?_
      refine g_get (ci := 5) (T := TX5) (N := 16) 0 5 (.ref (ad 19)) dX5_belief_28 iX5_belief_X5 rfl jX5_belief_32 (by decide) wlaT_0 rfl ?_
      refine g_iload_n 2 dX5_belief_31 rfl rfl ?_
      refine g_iload_n 3 dX5_belief_32 rfl rfl ?_
      obtain ⟨h8, hf⟩ := ochi_some hf
      obtain ⟨s9, e_s9, hf⟩ := olt_some hf
      refine g_iast (w2 := (wT cs ad s9)) 19 0 dX5_belief_33 wlaT_19 (tI hty) h8 (wlsT_19.trans (congrArg (wT cs ad) e_s9)) ?_
      refine g_iload_n 0 dX5_belief_34 rfl rfl ?_
      obtain rfl := Option.some.inj hf
      exact hr _ _ dX5_belief_35
    · have hf := ift h6 hf
      refine g_iconst (v := (-1 : Int32)) dX5_belief_18 (by decide) ?_
      obtain rfl := Option.some.inj hf
      exact hr _ _ dX5_belief_19

-- ThumbScale odds (III)J
def rmX5_odds : Room := { frames := 5, cells := 0, slots := 0, locals := 121 }
def kX5_odds : MK := (cX5_odds, 6, RX5, wsX5_odds, (some .long), rmX5_odds)

set_option maxRecDepth 20000 in
theorem vX5_odds_115 : KV kX5_odds 115 RX5 yX5_isWay wsX5_isWay rmX5_isWay 1 := ⟨_, _, _, _, gX5_odds_X5_isWay, rfl, rfl, rfl, by decide +kernel, ⟨by decide, by decide⟩⟩
set_option maxRecDepth 20000 in
theorem qX5_odds_177 : Cond.constantLong RX5 177 (-1 : Int64) ∈ wsX5_odds := by decide +kernel
set_option maxRecDepth 20000 in
theorem vX5_odds_95 : KV kX5_odds 95 RX5 yX5_isStall wsX5_isStall rmX5_isStall 1 := ⟨_, _, _, _, gX5_odds_X5_isStall, rfl, rfl, rfl, by decide +kernel, ⟨by decide, by decide⟩⟩
set_option maxRecDepth 20000 in
theorem vX5_odds_213 : KS kX5_odds 213 yX5_isPart wsX5_isPart rmX5_isPart 1 := ⟨_, _, _, _, gX5_odds_X5_isPart, rfl, rfl, rfl, by decide +kernel, ⟨by decide, by decide⟩⟩
set_option maxRecDepth 20000 in
theorem vX5_odds_226 : KV kX5_odds 226 RX5 yX5_allWeights wsX5_allWeights rmX5_allWeights 1 := ⟨_, _, _, _, gX5_odds_X5_allWeights, rfl, rfl, rfl, by decide +kernel, ⟨by decide, by decide⟩⟩
set_option maxRecDepth 20000 in
theorem jX5_odds_32 : Cond.fieldLink RX5 32 (TX5 5).1 (TX5 5).2.1 (TX5 5).2.2.1 ∈ wsX5_odds := by decide +kernel
set_option maxRecDepth 20000 in
theorem iX5_odds_X5 : ∀ x ∈ u_ws RX5 TX5 16, x ∈ wsX5_odds := by decide +kernel
set_option maxRecDepth 20000 in
theorem vX5_odds_216 : KV kX5_odds 216 RX5 yX5_oftenTogether wsX5_oftenTogether rmX5_oftenTogether 2 := ⟨_, _, _, _, gX5_odds_X5_oftenTogether, rfl, rfl, rfl, by decide +kernel, ⟨by decide, by decide⟩⟩
set_option maxRecDepth 20000 in
theorem vX5_odds_222 : KS kX5_odds 222 yX5_inLeastTerms wsX5_inLeastTerms rmX5_inLeastTerms 3 := ⟨_, _, _, _, gX5_odds_X5_inLeastTerms, rfl, rfl, rfl, by decide +kernel, ⟨by decide, by decide⟩⟩
set_option maxRecDepth 20000 in
theorem qX5_odds_179 : Cond.constantLong RX5 179 (-2 : Int64) ∈ wsX5_odds := by decide +kernel
def f_X5_odds (F : Nat) (s : ST) (a1 : Int32) (a2 : Int32) (a3 : Int32) : Option Int64 :=
    obd (f_X5_isWay F s a1) (fun v1 =>
    (if v1 = 0 then
    some (-1 : Int64)
    else
    obd (f_X5_isStall F s a2) (fun v4 =>
    (if v4 = 0 then
    some (-1 : Int64)
    else
    obd (f_X5_isPart F a3) (fun v7 =>
    (if v7 = 0 then
    some (-1 : Int64)
    else
    obd (f_X5_allWeights F s a2) (fun v10 =>
    (if 0 < (lg_cmp v10 (0 : Int64)) then
    ochi a1 6 (
    obd (f_X5_oftenTogether F s a1 a2) (fun v14 =>
    obd (f_X5_inLeastTerms F ((Int32.toInt64 ((T_beliefs s) (Int32.toNatClampNeg a1))) * v14) v10 a3) (fun v16 =>
    some v16)))
    else
    some (-2 : Int64)))))))))

set_option maxHeartbeats 4000000 in
set_option maxRecDepth 100000 in
theorem c_X5_odds {l : Launch} {D : va_G} {tys : List (ClassId × FieldType)} {X : XT} {cs : CS} (ad : Nat → Nat) {F : Nat} {s : ST} {a1 : Int32} {a2 : Int32} {a3 : Int32} {r : Int64} (htyM : tys = tyA cs) (hf : f_X5_odds F s a1 a2 a3 = some r) : Cl l D tys X yX5_odds wsX5_odds rmX5_odds [.ref (ad 0), .int a1, .int a2, .int a3] (wT cs ad s) r (wT cs ad s) := by
  refine Cl_ofG (by decide +kernel) rfl (Nat.le_of_ble_eq_true rfl) (fun E _ _ hty0 hX0 hr => ?_)
  have hty := hty0.trans htyM
  have hr : Rl E kX5_odds r (wT cs ad s) := hr
  show G E kX5_odds 0 0 0 [(0, .ref (ad 0)), (1, .int a1), (2, .int a2), (3, .int a3)] [] (wT cs ad s)
  unfold f_X5_odds at hf
  refine g_aload_n 0 dX5_odds_0 rfl rfl ?_
  refine g_iload_n 1 dX5_odds_1 rfl rfl ?_
  obtain ⟨v1, hc2, hf⟩ := obd_some hf
  refine g_callVi (ci := 5) (As := [.int a1]) (rest := []) (w2 := (wT cs ad s)) 0 dX5_odds_2 vX5_odds_115 (c_X5_isWay ad hty hc2) rfl (mid0 _) rfl rfl 0 wlaT_0 rfl (Nat.le_of_ble_eq_true rfl) ⟨Nat.zero_le _, Nat.zero_le _⟩ (mid2 _ _) ?_
  refine g_if_eq (tgt := 23) dX5_odds_5 (by decide) (fun h3 => ?_) (fun h3 => ?_)
  · have hf := ift h3 hf
    refine g_ldc2 (v := (-1 : Int64)) dX5_odds_23 qX5_odds_177 ?_
    obtain rfl := Option.some.inj hf
    exact hr _ _ dX5_odds_26
  · have hf := iff_ h3 hf
    refine g_aload_n 0 dX5_odds_8 rfl rfl ?_
    refine g_iload_n 2 dX5_odds_9 rfl rfl ?_
    obtain ⟨v4, hc5, hf⟩ := obd_some hf
    refine g_callVi (ci := 5) (As := [.int a2]) (rest := []) (w2 := (wT cs ad s)) 0 dX5_odds_10 vX5_odds_95 (c_X5_isStall ad hty hc5) rfl (mid0 _) rfl rfl 0 wlaT_0 rfl (Nat.le_of_ble_eq_true rfl) ⟨Nat.zero_le _, Nat.zero_le _⟩ (mid2 _ _) ?_
    refine g_if_eq (tgt := 23) dX5_odds_13 (by decide) (fun h6 => ?_) (fun h6 => ?_)
    · have hf := ift h6 hf
      refine g_ldc2 (v := (-1 : Int64)) dX5_odds_23 qX5_odds_177 ?_
      obtain rfl := Option.some.inj hf
      exact hr _ _ dX5_odds_26
    · have hf := iff_ h6 hf
      refine g_iload_n 3 dX5_odds_16 rfl rfl ?_
      obtain ⟨v7, hc8, hf⟩ := obd_some hf
      refine g_callSi (As := [.int a3]) (rest := []) (w2 := (wT cs ad s)) 0 dX5_odds_17 vX5_odds_213 (c_X5_isPart hty hc8) rfl (midm _) rfl (Nat.le_of_ble_eq_true rfl) ⟨Nat.zero_le _, Nat.zero_le _⟩ (midn _) ?_
      refine g_if_ne (tgt := 27) dX5_odds_20 (by decide) (fun h9 => ?_) (fun h9 => ?_)
      · have hf := iff_ h9 hf
        refine g_aload_n 0 dX5_odds_27 rfl rfl ?_
        refine g_iload_n 2 dX5_odds_28 rfl rfl ?_
        obtain ⟨v10, hc11, hf⟩ := obd_some hf
        refine g_callVl (ci := 5) (As := [.int a2]) (rest := []) (w2 := (wT cs ad s)) 0 dX5_odds_29 vX5_odds_226 (c_X5_allWeights ad hty hc11) rfl (mid0 _) rfl rfl 0 wlaT_0 rfl (Nat.le_of_ble_eq_true rfl) ⟨Nat.zero_le _, Nat.zero_le _⟩ (mid2 _ _) ?_
        refine g_lstore (lv2 := [(4, .long v10), (0, .ref (ad 0)), (1, .int a1), (2, .int a2), (3, .int a3)]) dX5_odds_32 (by decide) rfl ?_
        refine g_lload 0 dX5_odds_34 rfl ?_
        refine g_lconst (v := (0 : Int64)) dX5_odds_36 (by decide) ?_
        refine g_lcmp dX5_odds_37 ?_
        refine g_if_gt (tgt := 45) dX5_odds_38 (by decide) (fun h12 => ?_) (fun h12 => ?_)
        · have hf := ift h12 hf
          refine g_aload_n 1 dX5_odds_45 rfl rfl ?_
          refine g_get (ci := 5) (T := TX5) (N := 16) 0 5 (.ref (ad 19)) dX5_odds_46 iX5_odds_X5 rfl jX5_odds_32 (by decide) wlaT_0 rfl ?_
          refine g_iload_n 2 dX5_odds_49 rfl rfl ?_
          obtain ⟨h13, hf⟩ := ochi_some hf
          refine g_iald 19 0 dX5_odds_50 wlaT_19 (tI hty) h13 ?_
          refine g_i2l dX5_odds_51 ?_
          refine g_aload_n 1 dX5_odds_52 rfl rfl ?_
          refine g_iload_n 2 dX5_odds_53 rfl rfl ?_
          refine g_iload_n 3 dX5_odds_54 rfl rfl ?_
          obtain ⟨v14, hc15, hf⟩ := obd_some hf
          refine g_callVl (ci := 5) (As := [.int a1, .int a2]) (rest := [.long (Int32.toInt64 ((T_beliefs s) (Int32.toNatClampNeg a1)))]) (w2 := (wT cs ad s)) 0 dX5_odds_55 vX5_odds_216 (c_X5_oftenTogether ad hty hc15) rfl (mid0 _) rfl rfl 0 wlaT_0 rfl (Nat.le_of_ble_eq_true rfl) ⟨Nat.zero_le _, Nat.zero_le _⟩ (mid2 _ _) ?_
          refine g_lmul dX5_odds_58 ?_
          refine g_lload 0 dX5_odds_59 rfl ?_
          refine g_iload_n 4 dX5_odds_61 rfl rfl ?_
          obtain ⟨v16, hc17, hf⟩ := obd_some hf
          refine g_callSl (As := [.long ((Int32.toInt64 ((T_beliefs s) (Int32.toNatClampNeg a1))) * v14), .long v10, .int a3]) (rest := []) (w2 := (wT cs ad s)) 0 dX5_odds_62 vX5_odds_222 (c_X5_inLeastTerms hty hc17) rfl (midm _) rfl (Nat.le_of_ble_eq_true rfl) ⟨Nat.zero_le _, Nat.zero_le _⟩ (midn _) ?_
          obtain rfl := Option.some.inj hf
          exact hr _ _ dX5_odds_65
        · have hf := iff_ h12 hf
          refine g_ldc2 (v := (-2 : Int64)) dX5_odds_41 qX5_odds_179 ?_
          obtain rfl := Option.some.inj hf
          exact hr _ _ dX5_odds_44
      · have hf := ift h9 hf
        refine g_ldc2 (v := (-1 : Int64)) dX5_odds_23 qX5_odds_177 ?_
        obtain rfl := Option.some.inj hf
        exact hr _ _ dX5_odds_26

-- ThumbScale judged (I)I
def rmX5_judged : Room := { frames := 5, cells := 0, slots := 0, locals := 121 }
def kX5_judged : MK := (cX5_judged, 8, RX5, wsX5_judged, (some .int), rmX5_judged)

set_option maxRecDepth 20000 in
theorem vX5_judged_95 : KV kX5_judged 95 RX5 yX5_isStall wsX5_isStall rmX5_isStall 1 := ⟨_, _, _, _, gX5_judged_X5_isStall, rfl, rfl, rfl, by decide +kernel, ⟨by decide, by decide⟩⟩
set_option maxRecDepth 20000 in
theorem vX5_judged_226 : KV kX5_judged 226 RX5 yX5_allWeights wsX5_allWeights rmX5_allWeights 1 := ⟨_, _, _, _, gX5_judged_X5_allWeights, rfl, rfl, rfl, by decide +kernel, ⟨by decide, by decide⟩⟩
set_option maxRecDepth 20000 in
theorem qX5_judged_177 : Cond.constantLong RX5 177 (-1 : Int64) ∈ wsX5_judged := by decide +kernel
set_option maxRecDepth 20000 in
theorem jX5_judged_16 : Cond.fieldLink RX5 16 (TX5 3).1 (TX5 3).2.1 (TX5 3).2.2.1 ∈ wsX5_judged := by decide +kernel
set_option maxRecDepth 20000 in
theorem iX5_judged_X5 : ∀ x ∈ u_ws RX5 TX5 16, x ∈ wsX5_judged := by decide +kernel
set_option maxRecDepth 20000 in
theorem jX5_judged_230 : Cond.fieldLink RX5 230 (TX2 7).1 (TX2 7).2.1 (TX2 7).2.2.1 ∈ wsX5_judged := by decide +kernel
set_option maxRecDepth 20000 in
theorem iX5_judged_X2 : ∀ x ∈ u_ws RX2 TX2 12, x ∈ wsX5_judged := by decide +kernel
set_option maxRecDepth 20000 in
theorem jX5_judged_32 : Cond.fieldLink RX5 32 (TX5 5).1 (TX5 5).2.1 (TX5 5).2.2.1 ∈ wsX5_judged := by decide +kernel
set_option maxRecDepth 20000 in
theorem vX5_judged_216 : KV kX5_judged 216 RX5 yX5_oftenTogether wsX5_oftenTogether rmX5_oftenTogether 2 := ⟨_, _, _, _, gX5_judged_X5_oftenTogether, rfl, rfl, rfl, by decide +kernel, ⟨by decide, by decide⟩⟩
def f_X5_judged_L32 (F : Nat) (s : ST) (a1 : Int32) : Nat → Int32 → Int64 → Int32 → Option Int32
  | 0, _, _, _ => none
  | n + 1, x7, x8, x9 =>
    (if (M_ways (T_market s)) ≤ x9 then
    some x7
    else
    ochi x9 6 (
    obd (f_X5_oftenTogether F s x9 a1) (fun v12 =>
    olt ((Int32.toInt64 ((T_beliefs s) (Int32.toNatClampNeg x9))) * v12) (fun z14 =>
    (if (lg_cmp z14 x8) ≤ 0 then
    f_X5_judged_L32 F s a1 n x7 x8 (x9 + 1)
    else
    f_X5_judged_L32 F s a1 n x9 z14 (x9 + 1))))))

def f_X5_judged (F : Nat) (s : ST) (a1 : Int32) : Option Int32 :=
    obd (f_X5_isStall F s a1) (fun v1 =>
    (if v1 = 0 then
    some (-1 : Int32)
    else
    obd (f_X5_allWeights F s a1) (fun v4 =>
    (if 0 < (lg_cmp v4 (0 : Int64)) then
    f_X5_judged_L32 F s a1 F (0 : Int32) (-1 : Int64) (0 : Int32)
    else
    some (-2 : Int32)))))

set_option maxHeartbeats 4000000 in
set_option maxRecDepth 100000 in
theorem w_X5_judged_L32 {E : GE} {cs : CS} {ad : Nat → Nat} {F : Nat} {s : ST} {a1 : Int32} {r : Int32} (hty : eT E = tyA cs) (hr : Ri E kX5_judged r (wT cs ad s)) : ∀ (n : Nat) (x7 : Int32) (x8 : Int64) (x9 : Int32), f_X5_judged_L32 F s a1 n x7 x8 x9 = some r → G E kX5_judged 0 0 32 [(0, .ref (ad 0)), (1, .int a1), (2, .int x7), (3, .long x8), (5, .int x9)] [] (wT cs ad s) := by
  intro n
  induction n with
  | zero =>
    intro x7 x8 x9 hf
    cases (show (none : Option Int32) = some r from hf)
  | succ n ih =>
    intro x7 x8 x9 hf
    rw [f_X5_judged_L32] at hf
    refine g_iload 4 dX5_judged_32 rfl ?_
    refine g_aload_n 0 dX5_judged_34 rfl rfl ?_
    refine g_get (ci := 5) (T := TX5) (N := 16) 0 3 (.ref (ad 11)) dX5_judged_35 iX5_judged_X5 rfl jX5_judged_16 (by decide) wlaT_0 rfl ?_
    refine g_get (ci := 2) (T := TX2) (N := 12) 11 7 (.int (M_ways (T_market s))) dX5_judged_38 iX5_judged_X2 rfl jX5_judged_230 (by decide) wlaT_11 rfl ?_
    refine g_icmp_ge (tgt := 81) dX5_judged_41 (by decide) (fun h10 => ?_) (fun h10 => ?_)
    · have hf := ift h10 hf
      refine g_iload_n 2 dX5_judged_81 rfl rfl ?_
      obtain rfl := Option.some.inj hf
      exact hr _ _ dX5_judged_82
    · have hf := iff_ h10 hf
      refine g_aload_n 0 dX5_judged_44 rfl rfl ?_
      refine g_get (ci := 5) (T := TX5) (N := 16) 0 5 (.ref (ad 19)) dX5_judged_45 iX5_judged_X5 rfl jX5_judged_32 (by decide) wlaT_0 rfl ?_
      refine g_iload 4 dX5_judged_48 rfl ?_
      obtain ⟨h11, hf⟩ := ochi_some hf
      refine g_iald 19 0 dX5_judged_50 wlaT_19 (tI hty) h11 ?_
      refine g_i2l dX5_judged_51 ?_
      refine g_aload_n 0 dX5_judged_52 rfl rfl ?_
      refine g_iload 4 dX5_judged_53 rfl ?_
      refine g_iload_n 1 dX5_judged_55 rfl rfl ?_
      obtain ⟨v12, hc13, hf⟩ := obd_some hf
      refine g_callVl (ci := 5) (As := [.int x9, .int a1]) (rest := [.long (Int32.toInt64 ((T_beliefs s) (Int32.toNatClampNeg x9)))]) (w2 := (wT cs ad s)) 0 dX5_judged_56 vX5_judged_216 (c_X5_oftenTogether ad hty hc13) rfl (mid0 _) rfl rfl 0 wlaT_0 rfl (Nat.le_of_ble_eq_true rfl) ⟨Nat.zero_le _, Nat.zero_le _⟩ (mid2 _ _) ?_
      refine g_lmul dX5_judged_59 ?_
      obtain ⟨z14, e_z14, hf⟩ := olt_some hf
      refine g_cast rfl rfl (congrArg (fun q => Value.long q :: []) e_z14) rfl ?_
      refine g_lstore (lv2 := [(6, .long z14), (0, .ref (ad 0)), (1, .int a1), (2, .int x7), (3, .long x8), (5, .int x9)]) dX5_judged_60 (by decide) rfl ?_
      refine g_lload 0 dX5_judged_62 rfl ?_
      refine g_lload_n 4 dX5_judged_64 rfl rfl ?_
      refine g_lcmp dX5_judged_65 ?_
      refine g_if_le (tgt := 75) dX5_judged_66 (by decide) (fun h15 => ?_) (fun h15 => ?_)
      · have hf := ift h15 hf
        refine g_iinc (lv2 := [(5, .int (x9 + 1)), (6, .long z14), (0, .ref (ad 0)), (1, .int a1), (2, .int x7), (3, .long x8)]) 5 dX5_judged_75 rfl (ii1 _) (by decide) rfl ?_
        refine g_goto (tgt := 32) dX5_judged_78 (by decide) ?_
        exact g_sub [2, 3, 4, 5, 0] rfl (ih x7 x8 (x9 + 1) hf)
      · have hf := iff_ h15 hf
        refine g_iload 5 dX5_judged_69 rfl ?_
        refine g_istore_n (lv2 := [(2, .int x9), (6, .long z14), (0, .ref (ad 0)), (1, .int a1), (3, .long x8), (5, .int x9)]) dX5_judged_71 rfl (by decide) rfl ?_
        refine g_lload 1 dX5_judged_72 rfl ?_
        refine g_lstore_n (lv2 := [(3, .long z14), (2, .int x9), (6, .long z14), (0, .ref (ad 0)), (1, .int a1), (5, .int x9)]) dX5_judged_74 rfl (by decide) rfl ?_
        refine g_iinc (lv2 := [(5, .int (x9 + 1)), (3, .long z14), (2, .int x9), (6, .long z14), (0, .ref (ad 0)), (1, .int a1)]) 5 dX5_judged_75 rfl (ii1 _) (by decide) rfl ?_
        refine g_goto (tgt := 32) dX5_judged_78 (by decide) ?_
        exact g_sub [4, 5, 2, 1, 0] rfl (ih x9 z14 (x9 + 1) hf)

set_option maxHeartbeats 4000000 in
set_option maxRecDepth 100000 in
theorem c_X5_judged {l : Launch} {D : va_G} {tys : List (ClassId × FieldType)} {X : XT} {cs : CS} (ad : Nat → Nat) {F : Nat} {s : ST} {a1 : Int32} {r : Int32} (htyM : tys = tyA cs) (hf : f_X5_judged F s a1 = some r) : Ci l D tys X yX5_judged wsX5_judged rmX5_judged [.ref (ad 0), .int a1] (wT cs ad s) r (wT cs ad s) := by
  refine Ci_ofG (by decide +kernel) rfl (Nat.le_of_ble_eq_true rfl) .int rfl (vp_nar_int _) (fun E _ _ hty0 hX0 hr => ?_)
  have hty := hty0.trans htyM
  have hr : Ri E kX5_judged r (wT cs ad s) := hr
  show G E kX5_judged 0 0 0 [(0, .ref (ad 0)), (1, .int a1)] [] (wT cs ad s)
  unfold f_X5_judged at hf
  refine g_aload_n 0 dX5_judged_0 rfl rfl ?_
  refine g_iload_n 1 dX5_judged_1 rfl rfl ?_
  obtain ⟨v1, hc2, hf⟩ := obd_some hf
  refine g_callVi (ci := 5) (As := [.int a1]) (rest := []) (w2 := (wT cs ad s)) 0 dX5_judged_2 vX5_judged_95 (c_X5_isStall ad hty hc2) rfl (mid0 _) rfl rfl 0 wlaT_0 rfl (Nat.le_of_ble_eq_true rfl) ⟨Nat.zero_le _, Nat.zero_le _⟩ (mid2 _ _) ?_
  refine g_if_ne (tgt := 10) dX5_judged_5 (by decide) (fun h3 => ?_) (fun h3 => ?_)
  · have hf := iff_ h3 hf
    refine g_aload_n 0 dX5_judged_10 rfl rfl ?_
    refine g_iload_n 1 dX5_judged_11 rfl rfl ?_
    obtain ⟨v4, hc5, hf⟩ := obd_some hf
    refine g_callVl (ci := 5) (As := [.int a1]) (rest := []) (w2 := (wT cs ad s)) 0 dX5_judged_12 vX5_judged_226 (c_X5_allWeights ad hty hc5) rfl (mid0 _) rfl rfl 0 wlaT_0 rfl (Nat.le_of_ble_eq_true rfl) ⟨Nat.zero_le _, Nat.zero_le _⟩ (mid2 _ _) ?_
    refine g_lconst (v := (0 : Int64)) dX5_judged_15 (by decide) ?_
    refine g_lcmp dX5_judged_16 ?_
    refine g_if_gt (tgt := 23) dX5_judged_17 (by decide) (fun h6 => ?_) (fun h6 => ?_)
    · have hf := ift h6 hf
      refine g_iconst (v := (0 : Int32)) dX5_judged_23 (by decide) ?_
      refine g_istore_n (lv2 := [(2, .int (0 : Int32)), (0, .ref (ad 0)), (1, .int a1)]) dX5_judged_24 rfl (by decide) rfl ?_
      refine g_ldc2 (v := (-1 : Int64)) dX5_judged_25 qX5_judged_177 ?_
      refine g_lstore_n (lv2 := [(3, .long (-1 : Int64)), (2, .int (0 : Int32)), (0, .ref (ad 0)), (1, .int a1)]) dX5_judged_28 rfl (by decide) rfl ?_
      refine g_iconst (v := (0 : Int32)) dX5_judged_29 (by decide) ?_
      refine g_istore (lv2 := [(5, .int (0 : Int32)), (3, .long (-1 : Int64)), (2, .int (0 : Int32)), (0, .ref (ad 0)), (1, .int a1)]) dX5_judged_30 (by decide) rfl ?_
      exact g_sub [3, 4, 2, 1, 0] rfl (w_X5_judged_L32 hty hr F (0 : Int32) (-1 : Int64) (0 : Int32) hf)
    · have hf := iff_ h6 hf
      refine g_bipush (v := (-2 : Int32)) dX5_judged_20 (by decide) ?_
      obtain rfl := Option.some.inj hf
      exact hr _ _ dX5_judged_22
  · have hf := ift h3 hf
    refine g_iconst (v := (-1 : Int32)) dX5_judged_8 (by decide) ?_
    obtain rfl := Option.some.inj hf
    exact hr _ _ dX5_judged_9

-- ThumbScale apart (IIII)I
def rmX5_apart : Room := { frames := 4, cells := 0, slots := 0, locals := 98 }
def kX5_apart : MK := (cX5_apart, 5, RX5, wsX5_apart, (some .int), rmX5_apart)

set_option maxRecDepth 20000 in
theorem vX5_apart_115 : KV kX5_apart 115 RX5 yX5_isWay wsX5_isWay rmX5_isWay 1 := ⟨_, _, _, _, gX5_apart_X5_isWay, rfl, rfl, rfl, by decide +kernel, ⟨by decide, by decide⟩⟩
set_option maxRecDepth 20000 in
theorem vX5_apart_95 : KV kX5_apart 95 RX5 yX5_isStall wsX5_isStall rmX5_isStall 1 := ⟨_, _, _, _, gX5_apart_X5_isStall, rfl, rfl, rfl, by decide +kernel, ⟨by decide, by decide⟩⟩
set_option maxRecDepth 20000 in
theorem vX5_apart_130 : KS kX5_apart 130 yX5_isSort wsX5_isSort rmX5_isSort 1 := ⟨_, _, _, _, gX5_apart_X5_isSort, rfl, rfl, rfl, by decide +kernel, ⟨by decide, by decide⟩⟩
set_option maxRecDepth 20000 in
theorem vX5_apart_233 : KV kX5_apart 233 RX5 yX5_distance wsX5_distance rmX5_distance 4 := ⟨_, _, _, _, gX5_apart_X5_distance, rfl, rfl, rfl, by decide +kernel, ⟨by decide, by decide⟩⟩
def f_X5_apart (F : Nat) (s : ST) (a1 : Int32) (a2 : Int32) (a3 : Int32) (a4 : Int32) : Option Int32 :=
    obd (f_X5_isWay F s a1) (fun v1 =>
    (if v1 = 0 then
    some (-1 : Int32)
    else
    obd (f_X5_isWay F s a2) (fun v4 =>
    (if v4 = 0 then
    some (-1 : Int32)
    else
    obd (f_X5_isStall F s a3) (fun v7 =>
    (if v7 = 0 then
    some (-1 : Int32)
    else
    obd (f_X5_isSort F a4) (fun v10 =>
    (if v10 = 0 then
    some (-1 : Int32)
    else
    obd (f_X5_distance F s a1 a2 a3 a4) (fun v13 =>
    some v13)))))))))

set_option maxHeartbeats 4000000 in
set_option maxRecDepth 100000 in
theorem c_X5_apart {l : Launch} {D : va_G} {tys : List (ClassId × FieldType)} {X : XT} {cs : CS} (ad : Nat → Nat) {F : Nat} {s : ST} {a1 : Int32} {a2 : Int32} {a3 : Int32} {a4 : Int32} {r : Int32} (htyM : tys = tyA cs) (hf : f_X5_apart F s a1 a2 a3 a4 = some r) : Ci l D tys X yX5_apart wsX5_apart rmX5_apart [.ref (ad 0), .int a1, .int a2, .int a3, .int a4] (wT cs ad s) r (wT cs ad s) := by
  refine Ci_ofG (by decide +kernel) rfl (Nat.le_of_ble_eq_true rfl) .int rfl (vp_nar_int _) (fun E _ _ hty0 hX0 hr => ?_)
  have hty := hty0.trans htyM
  have hr : Ri E kX5_apart r (wT cs ad s) := hr
  show G E kX5_apart 0 0 0 [(0, .ref (ad 0)), (1, .int a1), (2, .int a2), (3, .int a3), (4, .int a4)] [] (wT cs ad s)
  unfold f_X5_apart at hf
  refine g_aload_n 0 dX5_apart_0 rfl rfl ?_
  refine g_iload_n 1 dX5_apart_1 rfl rfl ?_
  obtain ⟨v1, hc2, hf⟩ := obd_some hf
  refine g_callVi (ci := 5) (As := [.int a1]) (rest := []) (w2 := (wT cs ad s)) 0 dX5_apart_2 vX5_apart_115 (c_X5_isWay ad hty hc2) rfl (mid0 _) rfl rfl 0 wlaT_0 rfl (Nat.le_of_ble_eq_true rfl) ⟨Nat.zero_le _, Nat.zero_le _⟩ (mid2 _ _) ?_
  refine g_if_eq (tgt := 32) dX5_apart_5 (by decide) (fun h3 => ?_) (fun h3 => ?_)
  · have hf := ift h3 hf
    refine g_iconst (v := (-1 : Int32)) dX5_apart_32 (by decide) ?_
    obtain rfl := Option.some.inj hf
    exact hr _ _ dX5_apart_33
  · have hf := iff_ h3 hf
    refine g_aload_n 0 dX5_apart_8 rfl rfl ?_
    refine g_iload_n 2 dX5_apart_9 rfl rfl ?_
    obtain ⟨v4, hc5, hf⟩ := obd_some hf
    refine g_callVi (ci := 5) (As := [.int a2]) (rest := []) (w2 := (wT cs ad s)) 0 dX5_apart_10 vX5_apart_115 (c_X5_isWay ad hty hc5) rfl (mid0 _) rfl rfl 0 wlaT_0 rfl (Nat.le_of_ble_eq_true rfl) ⟨Nat.zero_le _, Nat.zero_le _⟩ (mid2 _ _) ?_
    refine g_if_eq (tgt := 32) dX5_apart_13 (by decide) (fun h6 => ?_) (fun h6 => ?_)
    · have hf := ift h6 hf
      refine g_iconst (v := (-1 : Int32)) dX5_apart_32 (by decide) ?_
      obtain rfl := Option.some.inj hf
      exact hr _ _ dX5_apart_33
    · have hf := iff_ h6 hf
      refine g_aload_n 0 dX5_apart_16 rfl rfl ?_
      refine g_iload_n 3 dX5_apart_17 rfl rfl ?_
      obtain ⟨v7, hc8, hf⟩ := obd_some hf
      refine g_callVi (ci := 5) (As := [.int a3]) (rest := []) (w2 := (wT cs ad s)) 0 dX5_apart_18 vX5_apart_95 (c_X5_isStall ad hty hc8) rfl (mid0 _) rfl rfl 0 wlaT_0 rfl (Nat.le_of_ble_eq_true rfl) ⟨Nat.zero_le _, Nat.zero_le _⟩ (mid2 _ _) ?_
      refine g_if_eq (tgt := 32) dX5_apart_21 (by decide) (fun h9 => ?_) (fun h9 => ?_)
      · have hf := ift h9 hf
        refine g_iconst (v := (-1 : Int32)) dX5_apart_32 (by decide) ?_
        obtain rfl := Option.some.inj hf
        exact hr _ _ dX5_apart_33
      · have hf := iff_ h9 hf
        refine g_iload 4 dX5_apart_24 rfl ?_
        obtain ⟨v10, hc11, hf⟩ := obd_some hf
        refine g_callSi (As := [.int a4]) (rest := []) (w2 := (wT cs ad s)) 0 dX5_apart_26 vX5_apart_130 (c_X5_isSort hty hc11) rfl (midm _) rfl (Nat.le_of_ble_eq_true rfl) ⟨Nat.zero_le _, Nat.zero_le _⟩ (midn _) ?_
        refine g_if_ne (tgt := 34) dX5_apart_29 (by decide) (fun h12 => ?_) (fun h12 => ?_)
        · have hf := iff_ h12 hf
          refine g_aload_n 0 dX5_apart_34 rfl rfl ?_
          refine g_iload_n 1 dX5_apart_35 rfl rfl ?_
          refine g_iload_n 2 dX5_apart_36 rfl rfl ?_
          refine g_iload_n 3 dX5_apart_37 rfl rfl ?_
          refine g_iload 4 dX5_apart_38 rfl ?_
          obtain ⟨v13, hc14, hf⟩ := obd_some hf
          refine g_callVi (ci := 5) (As := [.int a1, .int a2, .int a3, .int a4]) (rest := []) (w2 := (wT cs ad s)) 0 dX5_apart_40 vX5_apart_233 (c_X5_distance ad hty hc14) rfl (mid0 _) rfl rfl 0 wlaT_0 rfl (Nat.le_of_ble_eq_true rfl) ⟨Nat.zero_le _, Nat.zero_le _⟩ (mid2 _ _) ?_
          obtain rfl := Option.some.inj hf
          exact hr _ _ dX5_apart_43
        · have hf := ift h12 hf
          refine g_iconst (v := (-1 : Int32)) dX5_apart_32 (by decide) ?_
          obtain rfl := Option.some.inj hf
          exact hr _ _ dX5_apart_33

-- ThumbScale follow (III)I
def rmX5_follow : Room := { frames := 4, cells := 0, slots := 0, locals := 98 }
def kX5_follow : MK := (cX5_follow, 8, RX5, wsX5_follow, (some .int), rmX5_follow)

set_option maxRecDepth 20000 in
theorem vX5_follow_115 : KV kX5_follow 115 RX5 yX5_isWay wsX5_isWay rmX5_isWay 1 := ⟨_, _, _, _, gX5_follow_X5_isWay, rfl, rfl, rfl, by decide +kernel, ⟨by decide, by decide⟩⟩
set_option maxRecDepth 20000 in
theorem vX5_follow_95 : KV kX5_follow 95 RX5 yX5_isStall wsX5_isStall rmX5_isStall 1 := ⟨_, _, _, _, gX5_follow_X5_isStall, rfl, rfl, rfl, by decide +kernel, ⟨by decide, by decide⟩⟩
set_option maxRecDepth 20000 in
theorem vX5_follow_233 : KV kX5_follow 233 RX5 yX5_distance wsX5_distance rmX5_distance 4 := ⟨_, _, _, _, gX5_follow_X5_distance, rfl, rfl, rfl, by decide +kernel, ⟨by decide, by decide⟩⟩
def f_X5_follow_L36 (F : Nat) (s : ST) (a1 : Int32) (a2 : Int32) (a3 : Int32) : Nat → Int32 → Int32 → Int32 → Option Int32
  | 0, _, _, _ => none
  | n + 1, x10, x11, x12 =>
    (if (4 : Int32) ≤ x12 then
    some x10
    else
    obd (f_X5_distance F s a1 a2 a3 x12) (fun v14 =>
    (if v14 ≤ x11 then
    f_X5_follow_L36 F s a1 a2 a3 n x10 x11 (x12 + 1)
    else
    f_X5_follow_L36 F s a1 a2 a3 n x12 v14 (x12 + 1))))

def f_X5_follow (F : Nat) (s : ST) (a1 : Int32) (a2 : Int32) (a3 : Int32) : Option Int32 :=
    obd (f_X5_isWay F s a1) (fun v1 =>
    (if v1 = 0 then
    some (-1 : Int32)
    else
    obd (f_X5_isWay F s a2) (fun v4 =>
    (if v4 = 0 then
    some (-1 : Int32)
    else
    obd (f_X5_isStall F s a3) (fun v7 =>
    (if v7 = 0 then
    some (-1 : Int32)
    else
    f_X5_follow_L36 F s a1 a2 a3 F (-9 : Int32) (0 : Int32) (0 : Int32)))))))

set_option maxHeartbeats 4000000 in
set_option maxRecDepth 100000 in
theorem w_X5_follow_L36 {E : GE} {cs : CS} {ad : Nat → Nat} {F : Nat} {s : ST} {a1 : Int32} {a2 : Int32} {a3 : Int32} {r : Int32} (hty : eT E = tyA cs) (hr : Ri E kX5_follow r (wT cs ad s)) : ∀ (n : Nat) (x10 : Int32) (x11 : Int32) (x12 : Int32), f_X5_follow_L36 F s a1 a2 a3 n x10 x11 x12 = some r → G E kX5_follow 0 0 36 [(0, .ref (ad 0)), (1, .int a1), (2, .int a2), (3, .int a3), (4, .int x10), (5, .int x11), (6, .int x12)] [] (wT cs ad s) := by
  intro n
  induction n with
  | zero =>
    intro x10 x11 x12 hf
    cases (show (none : Option Int32) = some r from hf)
  | succ n ih =>
    intro x10 x11 x12 hf
    rw [f_X5_follow_L36] at hf
    refine g_iload 6 dX5_follow_36 rfl ?_
    refine g_iconst (v := (4 : Int32)) dX5_follow_38 (by decide) ?_
    refine g_icmp_ge (tgt := 74) dX5_follow_39 (by decide) (fun h13 => ?_) (fun h13 => ?_)
    · have hf := ift h13 hf
      refine g_iload 4 dX5_follow_74 rfl ?_
      obtain rfl := Option.some.inj hf
      exact hr _ _ dX5_follow_76
    · have hf := iff_ h13 hf
      refine g_aload_n 0 dX5_follow_42 rfl rfl ?_
      refine g_iload_n 1 dX5_follow_43 rfl rfl ?_
      refine g_iload_n 2 dX5_follow_44 rfl rfl ?_
      refine g_iload_n 3 dX5_follow_45 rfl rfl ?_
      refine g_iload 6 dX5_follow_46 rfl ?_
      obtain ⟨v14, hc15, hf⟩ := obd_some hf
      refine g_callVi (ci := 5) (As := [.int a1, .int a2, .int a3, .int x12]) (rest := []) (w2 := (wT cs ad s)) 0 dX5_follow_48 vX5_follow_233 (c_X5_distance ad hty hc15) rfl (mid0 _) rfl rfl 0 wlaT_0 rfl (Nat.le_of_ble_eq_true rfl) ⟨Nat.zero_le _, Nat.zero_le _⟩ (mid2 _ _) ?_
      refine g_istore (lv2 := [(7, .int v14), (0, .ref (ad 0)), (1, .int a1), (2, .int a2), (3, .int a3), (4, .int x10), (5, .int x11), (6, .int x12)]) dX5_follow_51 (by decide) rfl ?_
      refine g_iload 0 dX5_follow_53 rfl ?_
      refine g_iload 6 dX5_follow_55 rfl ?_
      refine g_icmp_le (tgt := 68) dX5_follow_57 (by decide) (fun h16 => ?_) (fun h16 => ?_)
      · have hf := ift h16 hf
        refine g_iinc (lv2 := [(6, .int (x12 + 1)), (7, .int v14), (0, .ref (ad 0)), (1, .int a1), (2, .int a2), (3, .int a3), (4, .int x10), (5, .int x11)]) 7 dX5_follow_68 rfl (ii1 _) (by decide) rfl ?_
        refine g_goto (tgt := 36) dX5_follow_71 (by decide) ?_
        exact g_sub [2, 3, 4, 5, 6, 7, 0] rfl (ih x10 x11 (x12 + 1) hf)
      · have hf := iff_ h16 hf
        refine g_iload 7 dX5_follow_60 rfl ?_
        refine g_istore (lv2 := [(4, .int x12), (7, .int v14), (0, .ref (ad 0)), (1, .int a1), (2, .int a2), (3, .int a3), (5, .int x11), (6, .int x12)]) dX5_follow_62 (by decide) rfl ?_
        refine g_iload 1 dX5_follow_64 rfl ?_
        refine g_istore (lv2 := [(5, .int v14), (4, .int x12), (7, .int v14), (0, .ref (ad 0)), (1, .int a1), (2, .int a2), (3, .int a3), (6, .int x12)]) dX5_follow_66 (by decide) rfl ?_
        refine g_iinc (lv2 := [(6, .int (x12 + 1)), (5, .int v14), (4, .int x12), (7, .int v14), (0, .ref (ad 0)), (1, .int a1), (2, .int a2), (3, .int a3)]) 7 dX5_follow_68 rfl (ii1 _) (by decide) rfl ?_
        refine g_goto (tgt := 36) dX5_follow_71 (by decide) ?_
        exact g_sub [4, 5, 6, 7, 2, 1, 0] rfl (ih x12 v14 (x12 + 1) hf)

set_option maxHeartbeats 4000000 in
set_option maxRecDepth 100000 in
theorem c_X5_follow {l : Launch} {D : va_G} {tys : List (ClassId × FieldType)} {X : XT} {cs : CS} (ad : Nat → Nat) {F : Nat} {s : ST} {a1 : Int32} {a2 : Int32} {a3 : Int32} {r : Int32} (htyM : tys = tyA cs) (hf : f_X5_follow F s a1 a2 a3 = some r) : Ci l D tys X yX5_follow wsX5_follow rmX5_follow [.ref (ad 0), .int a1, .int a2, .int a3] (wT cs ad s) r (wT cs ad s) := by
  refine Ci_ofG (by decide +kernel) rfl (Nat.le_of_ble_eq_true rfl) .int rfl (vp_nar_int _) (fun E _ _ hty0 hX0 hr => ?_)
  have hty := hty0.trans htyM
  have hr : Ri E kX5_follow r (wT cs ad s) := hr
  show G E kX5_follow 0 0 0 [(0, .ref (ad 0)), (1, .int a1), (2, .int a2), (3, .int a3)] [] (wT cs ad s)
  unfold f_X5_follow at hf
  refine g_aload_n 0 dX5_follow_0 rfl rfl ?_
  refine g_iload_n 1 dX5_follow_1 rfl rfl ?_
  obtain ⟨v1, hc2, hf⟩ := obd_some hf
  refine g_callVi (ci := 5) (As := [.int a1]) (rest := []) (w2 := (wT cs ad s)) 0 dX5_follow_2 vX5_follow_115 (c_X5_isWay ad hty hc2) rfl (mid0 _) rfl rfl 0 wlaT_0 rfl (Nat.le_of_ble_eq_true rfl) ⟨Nat.zero_le _, Nat.zero_le _⟩ (mid2 _ _) ?_
  refine g_if_eq (tgt := 24) dX5_follow_5 (by decide) (fun h3 => ?_) (fun h3 => ?_)
  · have hf := ift h3 hf
    refine g_iconst (v := (-1 : Int32)) dX5_follow_24 (by decide) ?_
    obtain rfl := Option.some.inj hf
    exact hr _ _ dX5_follow_25
  · have hf := iff_ h3 hf
    refine g_aload_n 0 dX5_follow_8 rfl rfl ?_
    refine g_iload_n 2 dX5_follow_9 rfl rfl ?_
    obtain ⟨v4, hc5, hf⟩ := obd_some hf
    refine g_callVi (ci := 5) (As := [.int a2]) (rest := []) (w2 := (wT cs ad s)) 0 dX5_follow_10 vX5_follow_115 (c_X5_isWay ad hty hc5) rfl (mid0 _) rfl rfl 0 wlaT_0 rfl (Nat.le_of_ble_eq_true rfl) ⟨Nat.zero_le _, Nat.zero_le _⟩ (mid2 _ _) ?_
    refine g_if_eq (tgt := 24) dX5_follow_13 (by decide) (fun h6 => ?_) (fun h6 => ?_)
    · have hf := ift h6 hf
      refine g_iconst (v := (-1 : Int32)) dX5_follow_24 (by decide) ?_
      obtain rfl := Option.some.inj hf
      exact hr _ _ dX5_follow_25
    · have hf := iff_ h6 hf
      refine g_aload_n 0 dX5_follow_16 rfl rfl ?_
      refine g_iload_n 3 dX5_follow_17 rfl rfl ?_
      obtain ⟨v7, hc8, hf⟩ := obd_some hf
      refine g_callVi (ci := 5) (As := [.int a3]) (rest := []) (w2 := (wT cs ad s)) 0 dX5_follow_18 vX5_follow_95 (c_X5_isStall ad hty hc8) rfl (mid0 _) rfl rfl 0 wlaT_0 rfl (Nat.le_of_ble_eq_true rfl) ⟨Nat.zero_le _, Nat.zero_le _⟩ (mid2 _ _) ?_
      refine g_if_ne (tgt := 26) dX5_follow_21 (by decide) (fun h9 => ?_) (fun h9 => ?_)
      · have hf := iff_ h9 hf
        refine g_bipush (v := (-9 : Int32)) dX5_follow_26 (by decide) ?_
        refine g_istore (lv2 := [(4, .int (-9 : Int32)), (0, .ref (ad 0)), (1, .int a1), (2, .int a2), (3, .int a3)]) dX5_follow_28 (by decide) rfl ?_
        refine g_iconst (v := (0 : Int32)) dX5_follow_30 (by decide) ?_
        refine g_istore (lv2 := [(5, .int (0 : Int32)), (4, .int (-9 : Int32)), (0, .ref (ad 0)), (1, .int a1), (2, .int a2), (3, .int a3)]) dX5_follow_31 (by decide) rfl ?_
        refine g_iconst (v := (0 : Int32)) dX5_follow_33 (by decide) ?_
        refine g_istore (lv2 := [(6, .int (0 : Int32)), (5, .int (0 : Int32)), (4, .int (-9 : Int32)), (0, .ref (ad 0)), (1, .int a1), (2, .int a2), (3, .int a3)]) dX5_follow_34 (by decide) rfl ?_
        exact g_sub [3, 4, 5, 6, 2, 1, 0] rfl (w_X5_follow_L36 hty hr F (-9 : Int32) (0 : Int32) (0 : Int32) hf)
      · have hf := ift h9 hf
        refine g_iconst (v := (-1 : Int32)) dX5_follow_24 (by decide) ?_
        obtain rfl := Option.some.inj hf
        exact hr _ _ dX5_follow_25

-- ThumbScale bar (II)I
def rmX5_bar : Room := { frames := 5, cells := 0, slots := 0, locals := 128 }
def kX5_bar : MK := (cX5_bar, 3, RX5, wsX5_bar, (some .int), rmX5_bar)

set_option maxRecDepth 20000 in
theorem jX5_bar_64 : Cond.fieldLink RX5 64 (TX5 10).1 (TX5 10).2.1 (TX5 10).2.2.1 ∈ wsX5_bar := by decide +kernel
set_option maxRecDepth 20000 in
theorem iX5_bar_X5 : ∀ x ∈ u_ws RX5 TX5 16, x ∈ wsX5_bar := by decide +kernel
set_option maxRecDepth 20000 in
theorem vX5_bar_236 : KV kX5_bar 236 RX4 yX4_mayBe wsX4_mayBe rmX4_mayBe 2 := ⟨_, _, _, _, gX5_bar_X4_mayBe, rfl, rfl, rfl, by decide +kernel, ⟨by decide, by decide⟩⟩
set_option maxRecDepth 20000 in
theorem vX5_bar_240 : KV kX5_bar 240 RX4 yX4_change wsX4_change rmX4_change 2 := ⟨_, _, _, _, gX5_bar_X4_change, rfl, rfl, rfl, by decide +kernel, ⟨by decide, by decide⟩⟩
def f_X5_bar (F : Nat) (s : ST) (a1 : Int32) (a2 : Int32) : Option (Int32 × ST) :=
    obd (f_X4_mayBe F (T_verdict s) a1 a2) (fun v1 =>
    (if v1 = 0 then
    some ((-1 : Int32), s)
    else
    obd (f_X4_change F (T_verdict s) a1 a2) (fun v4 =>
    olt (uT_verdict s v4.2) (fun s6 =>
    some (v4.1, s6)))))

set_option maxHeartbeats 4000000 in
set_option maxRecDepth 100000 in
theorem c_X5_bar {l : Launch} {D : va_G} {tys : List (ClassId × FieldType)} {X : XT} {cs : CS} (ad : Nat → Nat) {F : Nat} {s : ST} {a1 : Int32} {a2 : Int32} {r : (Int32 × ST)} (htyM : tys = tyA cs) {P : XP} (hNX : X = XS P) (hf : f_X5_bar F s a1 a2 = some r) : Ci l D tys X yX5_bar wsX5_bar rmX5_bar [.ref (ad 0), .int a1, .int a2] (wT cs ad s) r.1 (wT cs ad r.2) := by
  refine Ci_ofG (by decide +kernel) rfl (Nat.le_of_ble_eq_true rfl) .int rfl (vp_nar_int _) (fun E _ _ hty0 hX0 hr => ?_)
  have hty := hty0.trans htyM
  have hN := hX0.trans hNX
  have hr : Ri E kX5_bar r.1 (wT cs ad r.2) := hr
  show G E kX5_bar 0 0 0 [(0, .ref (ad 0)), (1, .int a1), (2, .int a2)] [] (wT cs ad s)
  unfold f_X5_bar at hf
  refine g_aload_n 0 dX5_bar_0 rfl rfl ?_
  refine g_get (ci := 5) (T := TX5) (N := 16) 0 10 (.ref (ad 54)) dX5_bar_1 iX5_bar_X5 rfl jX5_bar_64 (by decide) wlaT_0 rfl ?_
  refine g_iload_n 1 dX5_bar_4 rfl rfl ?_
  refine g_iload_n 2 dX5_bar_5 rfl rfl ?_
  obtain ⟨v1, hc2, hf⟩ := obd_some hf
  refine g_callVi (ci := 4) (As := [.int a1, .int a2]) (rest := []) (w2 := (wT cs ad s)) 54 dX5_bar_6 vX5_bar_236 (c_X4_mayBe (fun k => ad (54 + k)) hty hN hc2) rfl wlhT_54 rfl rfl 0 wlaV_0 rfl (Nat.le_of_ble_eq_true rfl) ⟨Nat.zero_le _, Nat.zero_le _⟩ wlrT_54 ?_
  refine g_if_ne (tgt := 14) dX5_bar_9 (by decide) (fun h3 => ?_) (fun h3 => ?_)
  · have hf := iff_ h3 hf
    refine g_aload_n 0 dX5_bar_14 rfl rfl ?_
    refine g_get (ci := 5) (T := TX5) (N := 16) 0 10 (.ref (ad 54)) dX5_bar_15 iX5_bar_X5 rfl jX5_bar_64 (by decide) wlaT_0 rfl ?_
    refine g_iload_n 1 dX5_bar_18 rfl rfl ?_
    refine g_iload_n 2 dX5_bar_19 rfl rfl ?_
    obtain ⟨v4, hc5, hf⟩ := obd_some hf
    obtain ⟨s6, e_s6, hf⟩ := olt_some hf
    refine g_callVi (ci := 4) (As := [.int a1, .int a2]) (rest := []) (w2 := (wT cs ad s6)) 54 dX5_bar_20 vX5_bar_240 (c_X4_change (fun k => ad (54 + k)) hty hN hc5) rfl wlhT_54 rfl rfl 0 wlaV_0 rfl (Nat.le_of_ble_eq_true rfl) ⟨Nat.zero_le _, Nat.zero_le _⟩ (wlcT_54.trans (congrArg (wT cs ad) e_s6)) ?_
    obtain rfl := Option.some.inj hf
    exact hr _ _ dX5_bar_23
  · have hf := ift h3 hf
    refine g_iconst (v := (-1 : Int32)) dX5_bar_12 (by decide) ?_
    obtain rfl := Option.some.inj hf
    exact hr _ _ dX5_bar_13
