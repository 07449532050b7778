-- ThumbScale$HonestRows fill (II)V
def rmX1_fill : Room := { frames := 0, cells := 0, slots := 0, locals := 0 }
def kX1_fill : MK := (cX1_fill, 5, RX1, wsX1_fill, none, rmX1_fill)

set_option maxRecDepth 20000 in
theorem jX1_fill_9 : Cond.fieldLink RX1 9 (TX1 0).1 (TX1 0).2.1 (TX1 0).2.2.1 ∈ wsX1_fill := by decide +kernel
set_option maxRecDepth 20000 in
theorem iX1_fill_X1 : ∀ x ∈ u_ws RX1 TX1 1, x ∈ wsX1_fill := by decide +kernel
def f_X1_fill_L37 (F : Nat) (a1 : Int32) (a2 : Int32) (k29_ : Int32 → SH → Option SH) : Nat → Int32 → Int32 → SH → Option SH
  | 0, _, _, _ => none
  | n + 1, x9, x10, s11 =>
    (if x10 < (1 : Int32) then
    ochi (0 : Int32) 19 (
    olt (((H_rows s11) (Int32.toNatClampNeg (0 : Int32))) * (Int32.toInt64 ((10 : Int32) - a2))) (fun z14 =>
    ochi (0 : Int32) 19 (olt (uH_rows s11 (vp_updL (H_rows s11) (Int32.toNatClampNeg (0 : Int32)) z14)) (fun s16 =>
    k29_ (x9 + 1) s16))))
    else
    ochi x10 19 (
    ochi (x10 - (1 : Int32)) 19 (
    olt ((((H_rows s11) (Int32.toNatClampNeg x10)) * (Int32.toInt64 ((10 : Int32) - a2))) + (((H_rows s11) (Int32.toNatClampNeg (x10 - (1 : Int32)))) * (Int32.toInt64 a2))) (fun z19 =>
    ochi x10 19 (olt (uH_rows s11 (vp_updL (H_rows s11) (Int32.toNatClampNeg x10) z19)) (fun s21 =>
    f_X1_fill_L37 F a1 a2 k29_ n x9 (x10 + (-1)) s21))))))

def f_X1_fill_L29 (F : Nat) (a1 : Int32) (a2 : Int32) : Nat → Int32 → SH → Option SH
  | 0, _, _ => none
  | n + 1, x6, s7 =>
    (if a1 < x6 then
    some s7
    else
    f_X1_fill_L37 F a1 a2 (f_X1_fill_L29 F a1 a2 n) F x6 x6 s7)

def f_X1_fill_L9 (F : Nat) (a1 : Int32) (a2 : Int32) : Nat → Int32 → SH → Option SH
  | 0, _, _ => none
  | n + 1, x3, s4 =>
    (if a1 < x3 then
    f_X1_fill_L29 F a1 a2 F (1 : Int32) s4
    else
    ochi x3 19 (olt (uH_rows s4 (vp_updL (H_rows s4) (Int32.toNatClampNeg x3) (0 : Int64))) (fun s23 =>
    f_X1_fill_L9 F a1 a2 n (x3 + 1) s23)))

def f_X1_fill (F : Nat) (s : SH) (a1 : Int32) (a2 : Int32) : Option SH :=
    ochi (0 : Int32) 19 (olt (uH_rows s (vp_updL (H_rows s) (Int32.toNatClampNeg (0 : Int32)) (1 : Int64))) (fun s2 =>
    f_X1_fill_L9 F a1 a2 F (1 : Int32) s2))

set_option maxHeartbeats 4000000 in
set_option maxRecDepth 100000 in
theorem w_X1_fill_L37 {E : GE} {cs : CS} {ad : Nat → Nat} {F : Nat} {a1 : Int32} {a2 : Int32} {k29_ : Int32 → SH → Option SH} {r : SH} (hty : eT E = tyA cs) (hr : Rv E kX1_fill (wH cs ad r)) (K29_ : ∀ (x6 : Int32) (s7 : SH), k29_ x6 s7 = some r → G E kX1_fill 0 0 29 [(0, .ref (ad 0)), (1, .int a1), (2, .int a2), (3, .int x6)] [] (wH cs ad s7)) : ∀ (n : Nat) (x9 : Int32) (x10 : Int32) (s11 : SH), f_X1_fill_L37 F a1 a2 k29_ n x9 x10 s11 = some r → G E kX1_fill 0 0 37 [(0, .ref (ad 0)), (1, .int a1), (2, .int a2), (3, .int x9), (4, .int x10)] [] (wH cs ad s11) := by
  intro n
  induction n with
  | zero =>
    intro x9 x10 s11 hf
    cases (show (none : Option SH) = some r from hf)
  | succ n ih =>
    intro x9 x10 s11 hf
    rw [f_X1_fill_L37] at hf
    refine g_iload 4 dX1_fill_37 rfl ?_
    refine g_iconst (v := (1 : Int32)) dX1_fill_39 (by decide) ?_
    refine g_icmp_lt (tgt := 82) dX1_fill_40 (by decide) (fun h12 => ?_) (fun h12 => ?_)
    · have hf := ift h12 hf
      refine g_aload_n 0 dX1_fill_82 rfl rfl ?_
      refine g_get (ci := 1) (T := TX1) (N := 1) 0 0 (.ref (ad 1)) dX1_fill_83 iX1_fill_X1 rfl jX1_fill_9 (by decide) wlaH_0 rfl ?_
      refine g_iconst (v := (0 : Int32)) dX1_fill_86 (by decide) ?_
      refine g_aload_n 0 dX1_fill_87 rfl rfl ?_
      refine g_get (ci := 1) (T := TX1) (N := 1) 0 0 (.ref (ad 1)) dX1_fill_88 iX1_fill_X1 rfl jX1_fill_9 (by decide) wlaH_0 rfl ?_
      refine g_iconst (v := (0 : Int32)) dX1_fill_91 (by decide) ?_
      obtain ⟨h13, hf⟩ := ochi_some hf
      refine g_lald 1 1 dX1_fill_92 wlaH_1 (tJ hty) h13 ?_
      refine g_bipush (v := (10 : Int32)) dX1_fill_93 (by decide) ?_
      refine g_iload_n 2 dX1_fill_95 rfl rfl ?_
      refine g_isub dX1_fill_96 ?_
      refine g_i2l dX1_fill_97 ?_
      refine g_lmul dX1_fill_98 ?_
      obtain ⟨z14, e_z14, hf⟩ := olt_some hf
      refine g_cast rfl rfl (congrArg (fun q => Value.long q :: [.int (0 : Int32), .ref (ad 1)]) e_z14) rfl ?_
      obtain ⟨h15, hf⟩ := ochi_some hf
      obtain ⟨s16, e_s16, hf⟩ := olt_some hf
      refine g_last (w2 := (wH cs ad s16)) 1 1 dX1_fill_99 wlaH_1 (tJ hty) h15 (wlsH_1.trans (congrArg (wH cs ad) e_s16)) ?_
      refine g_iinc (lv2 := [(3, .int (x9 + 1)), (0, .ref (ad 0)), (1, .int a1), (2, .int a2), (4, .int x10)]) 3 dX1_fill_100 rfl (ii1 _) (by decide) rfl ?_
      refine g_goto (tgt := 29) dX1_fill_103 (by decide) ?_
      exact g_sub [1, 2, 3, 0] rfl (K29_ (x9 + 1) s16 hf)
    · have hf := iff_ h12 hf
      refine g_aload_n 0 dX1_fill_43 rfl rfl ?_
      refine g_get (ci := 1) (T := TX1) (N := 1) 0 0 (.ref (ad 1)) dX1_fill_44 iX1_fill_X1 rfl jX1_fill_9 (by decide) wlaH_0 rfl ?_
      refine g_iload 4 dX1_fill_47 rfl ?_
      refine g_aload_n 0 dX1_fill_49 rfl rfl ?_
      refine g_get (ci := 1) (T := TX1) (N := 1) 0 0 (.ref (ad 1)) dX1_fill_50 iX1_fill_X1 rfl jX1_fill_9 (by decide) wlaH_0 rfl ?_
      refine g_iload 4 dX1_fill_53 rfl ?_
      obtain ⟨h17, hf⟩ := ochi_some hf
      refine g_lald 1 1 dX1_fill_55 wlaH_1 (tJ hty) h17 ?_
      refine g_bipush (v := (10 : Int32)) dX1_fill_56 (by decide) ?_
      refine g_iload_n 2 dX1_fill_58 rfl rfl ?_
      refine g_isub dX1_fill_59 ?_
      refine g_i2l dX1_fill_60 ?_
      refine g_lmul dX1_fill_61 ?_
      refine g_aload_n 0 dX1_fill_62 rfl rfl ?_
      refine g_get (ci := 1) (T := TX1) (N := 1) 0 0 (.ref (ad 1)) dX1_fill_63 iX1_fill_X1 rfl jX1_fill_9 (by decide) wlaH_0 rfl ?_
      refine g_iload 4 dX1_fill_66 rfl ?_
      refine g_iconst (v := (1 : Int32)) dX1_fill_68 (by decide) ?_
      refine g_isub dX1_fill_69 ?_
      obtain ⟨h18, hf⟩ := ochi_some hf
      refine g_lald 1 1 dX1_fill_70 wlaH_1 (tJ hty) h18 ?_
      refine g_iload_n 2 dX1_fill_71 rfl rfl ?_
      refine g_i2l dX1_fill_72 ?_
      refine g_lmul dX1_fill_73 ?_
      refine g_ladd dX1_fill_74 ?_
      obtain ⟨z19, e_z19, hf⟩ := olt_some hf
      refine g_cast rfl rfl (congrArg (fun q => Value.long q :: [.int x10, .ref (ad 1)]) e_z19) rfl ?_
      obtain ⟨h20, hf⟩ := ochi_some hf
      obtain ⟨s21, e_s21, hf⟩ := olt_some hf
      refine g_last (w2 := (wH cs ad s21)) 1 1 dX1_fill_75 wlaH_1 (tJ hty) h20 (wlsH_1.trans (congrArg (wH cs ad) e_s21)) ?_
      refine g_iinc (lv2 := [(4, .int (x10 + (-1))), (0, .ref (ad 0)), (1, .int a1), (2, .int a2), (3, .int x9)]) 4 dX1_fill_76 rfl (iim1 _) (by decide) rfl ?_
      refine g_goto (tgt := 37) dX1_fill_79 (by decide) ?_
      exact g_sub [1, 2, 3, 4, 0] rfl (ih x9 (x10 + (-1)) s21 hf)

set_option maxHeartbeats 4000000 in
set_option maxRecDepth 100000 in
theorem w_X1_fill_L29 {E : GE} {cs : CS} {ad : Nat → Nat} {F : Nat} {a1 : Int32} {a2 : Int32} {r : SH} (hty : eT E = tyA cs) (hr : Rv E kX1_fill (wH cs ad r)) : ∀ (n : Nat) (x6 : Int32) (s7 : SH), f_X1_fill_L29 F a1 a2 n x6 s7 = some r → G E kX1_fill 0 0 29 [(0, .ref (ad 0)), (1, .int a1), (2, .int a2), (3, .int x6)] [] (wH cs ad s7) := by
  intro n
  induction n with
  | zero =>
    intro x6 s7 hf
    cases (show (none : Option SH) = some r from hf)
  | succ n ih =>
    intro x6 s7 hf
    rw [f_X1_fill_L29] at hf
    refine g_iload_n 3 dX1_fill_29 rfl rfl ?_
    refine g_iload_n 1 dX1_fill_30 rfl rfl ?_
    refine g_icmp_gt (tgt := 106) dX1_fill_31 (by decide) (fun h8 => ?_) (fun h8 => ?_)
    · have hf := ift h8 hf
      obtain rfl := Option.some.inj hf
      exact hr _ _ dX1_fill_106
    · have hf := iff_ h8 hf
      refine g_iload_n 3 dX1_fill_34 rfl rfl ?_
      refine g_istore (lv2 := [(4, .int x6), (0, .ref (ad 0)), (1, .int a1), (2, .int a2), (3, .int x6)]) dX1_fill_35 (by decide) rfl ?_
      exact g_sub [1, 2, 3, 4, 0] rfl (w_X1_fill_L37 hty hr ih F x6 x6 s7 hf)

set_option maxHeartbeats 4000000 in
set_option maxRecDepth 100000 in
theorem w_X1_fill_L9 {E : GE} {cs : CS} {ad : Nat → Nat} {F : Nat} {a1 : Int32} {a2 : Int32} {r : SH} (hty : eT E = tyA cs) (hr : Rv E kX1_fill (wH cs ad r)) : ∀ (n : Nat) (x3 : Int32) (s4 : SH), f_X1_fill_L9 F a1 a2 n x3 s4 = some r → G E kX1_fill 0 0 9 [(0, .ref (ad 0)), (1, .int a1), (2, .int a2), (3, .int x3)] [] (wH cs ad s4) := by
  intro n
  induction n with
  | zero =>
    intro x3 s4 hf
    cases (show (none : Option SH) = some r from hf)
  | succ n ih =>
    intro x3 s4 hf
    rw [f_X1_fill_L9] at hf
    refine g_iload_n 3 dX1_fill_9 rfl rfl ?_
    refine g_iload_n 1 dX1_fill_10 rfl rfl ?_
    refine g_icmp_gt (tgt := 27) dX1_fill_11 (by decide) (fun h5 => ?_) (fun h5 => ?_)
    · have hf := ift h5 hf
      refine g_iconst (v := (1 : Int32)) dX1_fill_27 (by decide) ?_
      refine g_istore_n (lv2 := [(3, .int (1 : Int32)), (0, .ref (ad 0)), (1, .int a1), (2, .int a2)]) dX1_fill_28 rfl (by decide) rfl ?_
      exact g_sub [1, 2, 3, 0] rfl (w_X1_fill_L29 hty hr F (1 : Int32) s4 hf)
    · have hf := iff_ h5 hf
      refine g_aload_n 0 dX1_fill_14 rfl rfl ?_
      refine g_get (ci := 1) (T := TX1) (N := 1) 0 0 (.ref (ad 1)) dX1_fill_15 iX1_fill_X1 rfl jX1_fill_9 (by decide) wlaH_0 rfl ?_
      refine g_iload_n 3 dX1_fill_18 rfl rfl ?_
      refine g_lconst (v := (0 : Int64)) dX1_fill_19 (by decide) ?_
      obtain ⟨h22, hf⟩ := ochi_some hf
      obtain ⟨s23, e_s23, hf⟩ := olt_some hf
      refine g_last (w2 := (wH cs ad s23)) 1 1 dX1_fill_20 wlaH_1 (tJ hty) h22 (wlsH_1.trans (congrArg (wH cs ad) e_s23)) ?_
      refine g_iinc (lv2 := [(3, .int (x3 + 1)), (0, .ref (ad 0)), (1, .int a1), (2, .int a2)]) 3 dX1_fill_21 rfl (ii1 _) (by decide) rfl ?_
      refine g_goto (tgt := 9) dX1_fill_24 (by decide) ?_
      exact g_sub [1, 2, 3, 0] rfl (ih (x3 + 1) s23 hf)

set_option maxHeartbeats 4000000 in
set_option maxRecDepth 100000 in
theorem c_X1_fill {l : Launch} {D : va_G} {tys : List (ClassId × FieldType)} {X : XT} {cs : CS} (ad : Nat → Nat) {F : Nat} {s : SH} {a1 : Int32} {a2 : Int32} {r : SH} (htyM : tys = tyA cs) (hf : f_X1_fill F s a1 a2 = some r) : Cv l D tys X yX1_fill wsX1_fill rmX1_fill [.ref (ad 0), .int a1, .int a2] (wH cs ad s) (wH cs ad r) := by
  refine Cv_ofG (by decide +kernel) rfl (Nat.le_of_ble_eq_true rfl) (fun E _ _ hty0 hX0 hr => ?_)
  have hty := hty0.trans htyM
  have hr : Rv E kX1_fill (wH cs ad r) := hr
  show G E kX1_fill 0 0 0 [(0, .ref (ad 0)), (1, .int a1), (2, .int a2)] [] (wH cs ad s)
  unfold f_X1_fill at hf
  refine g_aload_n 0 dX1_fill_0 rfl rfl ?_
  refine g_get (ci := 1) (T := TX1) (N := 1) 0 0 (.ref (ad 1)) dX1_fill_1 iX1_fill_X1 rfl jX1_fill_9 (by decide) wlaH_0 rfl ?_
  refine g_iconst (v := (0 : Int32)) dX1_fill_4 (by decide) ?_
  refine g_lconst (v := (1 : Int64)) dX1_fill_5 (by decide) ?_
  obtain ⟨h1, hf⟩ := ochi_some hf
  obtain ⟨s2, e_s2, hf⟩ := olt_some hf
  refine g_last (w2 := (wH cs ad s2)) 1 1 dX1_fill_6 wlaH_1 (tJ hty) h1 (wlsH_1.trans (congrArg (wH cs ad) e_s2)) ?_
  refine g_iconst (v := (1 : Int32)) dX1_fill_7 (by decide) ?_
  refine g_istore_n (lv2 := [(3, .int (1 : Int32)), (0, .ref (ad 0)), (1, .int a1), (2, .int a2)]) dX1_fill_8 rfl (by decide) rfl ?_
  exact g_sub [1, 2, 3, 0] rfl (w_X1_fill_L9 hty hr F (1 : Int32) s2 hf)

-- ThumbScale$HonestRows withAtLeast (III)J
def rmX1_withAtLeast : Room := { frames := 1, cells := 0, slots := 0, locals := 24 }
def kX1_withAtLeast : MK := (cX1_withAtLeast, 7, RX1, wsX1_withAtLeast, (some .long), rmX1_withAtLeast)

set_option maxRecDepth 20000 in
theorem vX1_withAtLeast_15 : KV kX1_withAtLeast 15 RX1 yX1_fill wsX1_fill rmX1_fill 2 := ⟨_, _, _, _, gX1_withAtLeast_X1_fill, rfl, rfl, rfl, by decide +kernel, ⟨by decide, by decide⟩⟩
set_option maxRecDepth 20000 in
theorem jX1_withAtLeast_9 : Cond.fieldLink RX1 9 (TX1 0).1 (TX1 0).2.1 (TX1 0).2.2.1 ∈ wsX1_withAtLeast := by decide +kernel
set_option maxRecDepth 20000 in
theorem iX1_withAtLeast_X1 : ∀ x ∈ u_ws RX1 TX1 1, x ∈ wsX1_withAtLeast := by decide +kernel
def f_X1_withAtLeast_L28 (F : Nat) (a1 : Int32) (a2 : Int32) (a3 : Int32) (s8 : SH) : Nat → Int64 → Int32 → Option (Int64 × SH)
  | 0, _, _ => none
  | n + 1, x6, x7 =>
    (if a2 < x7 then
    some (x6, s8)
    else
    ochi x7 19 (
    olt (x6 + ((H_rows s8) (Int32.toNatClampNeg x7))) (fun z11 =>
    f_X1_withAtLeast_L28 F a1 a2 a3 s8 n z11 (x7 + 1))))

def f_X1_withAtLeast (F : Nat) (s : SH) (a1 : Int32) (a2 : Int32) (a3 : Int32) : Option (Int64 × SH) :=
    (if a2 < 0 then
    some ((0 : Int64), s)
    else
    (if (18 : Int32) < a2 then
    some ((0 : Int64), s)
    else
    (if 0 ≤ a1 then
    obd (f_X1_fill F s a2 a3) (fun v4 =>
    f_X1_withAtLeast_L28 F a1 a2 a3 v4 F (0 : Int64) a1)
    else
    some ((0 : Int64), s))))

set_option maxHeartbeats 4000000 in
set_option maxRecDepth 100000 in
theorem w_X1_withAtLeast_L28 {E : GE} {cs : CS} {ad : Nat → Nat} {F : Nat} {a1 : Int32} {a2 : Int32} {a3 : Int32} {s8 : SH} {r : (Int64 × SH)} (hty : eT E = tyA cs) (hr : Rl E kX1_withAtLeast r.1 (wH cs ad r.2)) : ∀ (n : Nat) (x6 : Int64) (x7 : Int32), f_X1_withAtLeast_L28 F a1 a2 a3 s8 n x6 x7 = some r → G E kX1_withAtLeast 0 0 28 [(0, .ref (ad 0)), (2, .int a2), (4, .long x6), (6, .int x7)] [] (wH cs ad s8) := by
  intro n
  induction n with
  | zero =>
    intro x6 x7 hf
    cases (show (none : Option (Int64 × SH)) = some r from hf)
  | succ n ih =>
    intro x6 x7 hf
    rw [f_X1_withAtLeast_L28] at hf
    refine g_iload 3 dX1_withAtLeast_28 rfl ?_
    refine g_iload_n 1 dX1_withAtLeast_30 rfl rfl ?_
    refine g_icmp_gt (tgt := 52) dX1_withAtLeast_31 (by decide) (fun h9 => ?_) (fun h9 => ?_)
    · have hf := ift h9 hf
      refine g_lload 2 dX1_withAtLeast_52 rfl ?_
      obtain rfl := Option.some.inj hf
      exact hr _ _ dX1_withAtLeast_54
    · have hf := iff_ h9 hf
      refine g_lload 2 dX1_withAtLeast_34 rfl ?_
      refine g_aload_n 0 dX1_withAtLeast_36 rfl rfl ?_
      refine g_get (ci := 1) (T := TX1) (N := 1) 0 0 (.ref (ad 1)) dX1_withAtLeast_37 iX1_withAtLeast_X1 rfl jX1_withAtLeast_9 (by decide) wlaH_0 rfl ?_
      refine g_iload 3 dX1_withAtLeast_40 rfl ?_
      obtain ⟨h10, hf⟩ := ochi_some hf
      refine g_lald 1 1 dX1_withAtLeast_42 wlaH_1 (tJ hty) h10 ?_
      refine g_ladd dX1_withAtLeast_43 ?_
      obtain ⟨z11, e_z11, hf⟩ := olt_some hf
      refine g_cast rfl rfl (congrArg (fun q => Value.long q :: []) e_z11) rfl ?_
      refine g_lstore (lv2 := [(4, .long z11), (0, .ref (ad 0)), (2, .int a2), (6, .int x7)]) dX1_withAtLeast_44 (by decide) rfl ?_
      refine g_iinc (lv2 := [(6, .int (x7 + 1)), (4, .long z11), (0, .ref (ad 0)), (2, .int a2)]) 3 dX1_withAtLeast_46 rfl (ii1 _) (by decide) rfl ?_
      refine g_goto (tgt := 28) dX1_withAtLeast_49 (by decide) ?_
      exact g_sub [2, 3, 1, 0] rfl (ih z11 (x7 + 1) hf)

set_option maxHeartbeats 4000000 in
set_option maxRecDepth 100000 in
theorem c_X1_withAtLeast {l : Launch} {D : va_G} {tys : List (ClassId × FieldType)} {X : XT} {cs : CS} (ad : Nat → Nat) {F : Nat} {s : SH} {a1 : Int32} {a2 : Int32} {a3 : Int32} {r : (Int64 × SH)} (htyM : tys = tyA cs) (hf : f_X1_withAtLeast F s a1 a2 a3 = some r) : Cl l D tys X yX1_withAtLeast wsX1_withAtLeast rmX1_withAtLeast [.ref (ad 0), .int a1, .int a2, .int a3] (wH cs ad s) r.1 (wH cs ad r.2) := by
  refine Cl_ofG (by decide +kernel) rfl (Nat.le_of_ble_eq_true rfl) (fun E _ _ hty0 hX0 hr => ?_)
  have hty := hty0.trans htyM
  have hr : Rl E kX1_withAtLeast r.1 (wH cs ad r.2) := hr
  show G E kX1_withAtLeast 0 0 0 [(0, .ref (ad 0)), (1, .int a1), (2, .int a2), (3, .int a3)] [] (wH cs ad s)
  unfold f_X1_withAtLeast at hf
  refine g_iload_n 2 dX1_withAtLeast_0 rfl rfl ?_
  refine g_if_lt (tgt := 14) dX1_withAtLeast_1 (by decide) (fun h1 => ?_) (fun h1 => ?_)
  · have hf := ift h1 hf
    refine g_lconst (v := (0 : Int64)) dX1_withAtLeast_14 (by decide) ?_
    obtain rfl := Option.some.inj hf
    exact hr _ _ dX1_withAtLeast_15
  · have hf := iff_ h1 hf
    refine g_iload_n 2 dX1_withAtLeast_4 rfl rfl ?_
    refine g_bipush (v := (18 : Int32)) dX1_withAtLeast_5 (by decide) ?_
    refine g_icmp_gt (tgt := 14) dX1_withAtLeast_7 (by decide) (fun h2 => ?_) (fun h2 => ?_)
    · have hf := ift h2 hf
      refine g_lconst (v := (0 : Int64)) dX1_withAtLeast_14 (by decide) ?_
      obtain rfl := Option.some.inj hf
      exact hr _ _ dX1_withAtLeast_15
    · have hf := iff_ h2 hf
      refine g_iload_n 1 dX1_withAtLeast_10 rfl rfl ?_
      refine g_if_ge (tgt := 16) dX1_withAtLeast_11 (by decide) (fun h3 => ?_) (fun h3 => ?_)
      · have hf := ift h3 hf
        refine g_aload_n 0 dX1_withAtLeast_16 rfl rfl ?_
        refine g_iload_n 2 dX1_withAtLeast_17 rfl rfl ?_
        refine g_iload_n 3 dX1_withAtLeast_18 rfl rfl ?_
        obtain ⟨v4, hc5, hf⟩ := obd_some hf
        refine g_callVv (ci := 1) (As := [.int a2, .int a3]) (rest := []) (w2 := (wH cs ad v4)) 0 dX1_withAtLeast_19 vX1_withAtLeast_15 (c_X1_fill ad hty hc5) rfl (mid0 _) rfl rfl 0 wlaH_0 rfl (Nat.le_of_ble_eq_true rfl) ⟨Nat.zero_le _, Nat.zero_le _⟩ (mid2 _ _) ?_
        refine g_lconst (v := (0 : Int64)) dX1_withAtLeast_22 (by decide) ?_
        refine g_lstore (lv2 := [(4, .long (0 : Int64)), (0, .ref (ad 0)), (1, .int a1), (2, .int a2), (3, .int a3)]) dX1_withAtLeast_23 (by decide) rfl ?_
        refine g_iload_n 2 dX1_withAtLeast_25 rfl rfl ?_
        refine g_istore (lv2 := [(6, .int a1), (4, .long (0 : Int64)), (0, .ref (ad 0)), (1, .int a1), (2, .int a2), (3, .int a3)]) dX1_withAtLeast_26 (by decide) rfl ?_
        exact g_sub [2, 4, 1, 0] rfl (w_X1_withAtLeast_L28 hty hr F (0 : Int64) a1 hf)
      · have hf := iff_ h3 hf
        refine g_lconst (v := (0 : Int64)) dX1_withAtLeast_14 (by decide) ?_
        obtain rfl := Option.some.inj hf
        exact hr _ _ dX1_withAtLeast_15
