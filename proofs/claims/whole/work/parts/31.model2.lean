-- ThumbScaleModel isStall (I)Z
def rmX6_isStall : Room := { frames := 1, cells := 0, slots := 0, locals := 22 }
def kX6_isStall : MK := (cX6_isStall, 2, RX6, wsX6_isStall, (some .boolean), rmX6_isStall)

set_option maxRecDepth 20000 in
theorem jX6_isStall_58 : Cond.fieldLink RX6 58 (TX6 16).1 (TX6 16).2.1 (TX6 16).2.2.1 ∈ wsX6_isStall := by decide +kernel
set_option maxRecDepth 20000 in
theorem iX6_isStall_X6 : ∀ x ∈ u_ws RX6 TX6 29, x ∈ wsX6_isStall := by decide +kernel
set_option maxRecDepth 20000 in
theorem vX6_isStall_61 : KS kX6_isStall 61 yX6_in wsX6_in rmX6_in 3 := ⟨_, _, _, _, gX6_isStall_X6_in, rfl, rfl, rfl, by decide +kernel, ⟨by decide, by decide⟩⟩
def f_X6_isStall (F : Nat) (s : SO) (a1 : Int32) : Option Int32 :=
    obd (f_X6_in F a1 (0 : Int32) ((O_stalls s) - (1 : Int32))) (fun v1 =>
    ochk (v1 = 0 ∨ v1 = 1) (some v1))

set_option maxHeartbeats 4000000 in
set_option maxRecDepth 100000 in
theorem c_X6_isStall {l : Launch} {D : va_G} {tys : List (ClassId × FieldType)} {X : XT} {cs : CS} (ad : Nat → Nat) {F : Nat} {s : SO} {a1 : Int32} {r : Int32} (htyM : tys = tyA cs) (hf : f_X6_isStall F s a1 = some r) : Ci l D tys X yX6_isStall wsX6_isStall rmX6_isStall [.ref (ad 0), .int a1] (wO cs ad s) r (wO cs ad s) := by
  refine Cz_ofG (by decide +kernel) rfl (Nat.le_of_ble_eq_true rfl) (fun E _ _ hty0 hX0 hr => ?_)
  have hty := hty0.trans htyM
  have hr : Rz E kX6_isStall r (wO cs ad s) := hr
  show G E kX6_isStall 0 0 0 [(0, .ref (ad 0)), (1, .int a1)] [] (wO cs ad s)
  unfold f_X6_isStall at hf
  refine g_iload_n 1 dX6_isStall_0 rfl rfl ?_
  refine g_iconst (v := (0 : Int32)) dX6_isStall_1 (by decide) ?_
  refine g_aload_n 0 dX6_isStall_2 rfl rfl ?_
  refine g_get (ci := 6) (T := TX6) (N := 29) 0 16 (.int (O_stalls s)) dX6_isStall_3 iX6_isStall_X6 rfl jX6_isStall_58 (by decide) wlaO_0 rfl ?_
  refine g_iconst (v := (1 : Int32)) dX6_isStall_6 (by decide) ?_
  refine g_isub dX6_isStall_7 ?_
  obtain ⟨v1, hc2, hf⟩ := obd_some hf
  refine g_callSi (As := [.int a1, .int (0 : Int32), .int ((O_stalls s) - (1 : Int32))]) (rest := []) (w2 := (wO cs ad s)) 0 dX6_isStall_8 vX6_isStall_61 (c_X6_in hty hc2) rfl (midm _) rfl (Nat.le_of_ble_eq_true rfl) ⟨Nat.zero_le _, Nat.zero_le _⟩ (midn _) ?_
  obtain ⟨h3, hf⟩ := ochk_some hf
  obtain rfl := Option.some.inj hf
  exact hr _ _ dX6_isStall_11 h3

-- ThumbScaleModel isWay (I)Z
def rmX6_isWay : Room := { frames := 1, cells := 0, slots := 0, locals := 22 }
def kX6_isWay : MK := (cX6_isWay, 2, RX6, wsX6_isWay, (some .boolean), rmX6_isWay)

set_option maxRecDepth 20000 in
theorem jX6_isWay_65 : Cond.fieldLink RX6 65 (TX6 17).1 (TX6 17).2.1 (TX6 17).2.2.1 ∈ wsX6_isWay := by decide +kernel
set_option maxRecDepth 20000 in
theorem iX6_isWay_X6 : ∀ x ∈ u_ws RX6 TX6 29, x ∈ wsX6_isWay := by decide +kernel
set_option maxRecDepth 20000 in
theorem vX6_isWay_61 : KS kX6_isWay 61 yX6_in wsX6_in rmX6_in 3 := ⟨_, _, _, _, gX6_isWay_X6_in, rfl, rfl, rfl, by decide +kernel, ⟨by decide, by decide⟩⟩
def f_X6_isWay (F : Nat) (s : SO) (a1 : Int32) : Option Int32 :=
    obd (f_X6_in F a1 (0 : Int32) ((O_ways s) - (1 : Int32))) (fun v1 =>
    ochk (v1 = 0 ∨ v1 = 1) (some v1))

set_option maxHeartbeats 4000000 in
set_option maxRecDepth 100000 in
theorem c_X6_isWay {l : Launch} {D : va_G} {tys : List (ClassId × FieldType)} {X : XT} {cs : CS} (ad : Nat → Nat) {F : Nat} {s : SO} {a1 : Int32} {r : Int32} (htyM : tys = tyA cs) (hf : f_X6_isWay F s a1 = some r) : Ci l D tys X yX6_isWay wsX6_isWay rmX6_isWay [.ref (ad 0), .int a1] (wO cs ad s) r (wO cs ad s) := by
  refine Cz_ofG (by decide +kernel) rfl (Nat.le_of_ble_eq_true rfl) (fun E _ _ hty0 hX0 hr => ?_)
  have hty := hty0.trans htyM
  have hr : Rz E kX6_isWay r (wO cs ad s) := hr
  show G E kX6_isWay 0 0 0 [(0, .ref (ad 0)), (1, .int a1)] [] (wO cs ad s)
  unfold f_X6_isWay at hf
  refine g_iload_n 1 dX6_isWay_0 rfl rfl ?_
  refine g_iconst (v := (0 : Int32)) dX6_isWay_1 (by decide) ?_
  refine g_aload_n 0 dX6_isWay_2 rfl rfl ?_
  refine g_get (ci := 6) (T := TX6) (N := 29) 0 17 (.int (O_ways s)) dX6_isWay_3 iX6_isWay_X6 rfl jX6_isWay_65 (by decide) wlaO_0 rfl ?_
  refine g_iconst (v := (1 : Int32)) dX6_isWay_6 (by decide) ?_
  refine g_isub dX6_isWay_7 ?_
  obtain ⟨v1, hc2, hf⟩ := obd_some hf
  refine g_callSi (As := [.int a1, .int (0 : Int32), .int ((O_ways s) - (1 : Int32))]) (rest := []) (w2 := (wO cs ad s)) 0 dX6_isWay_8 vX6_isWay_61 (c_X6_in hty hc2) rfl (midm _) rfl (Nat.le_of_ble_eq_true rfl) ⟨Nat.zero_le _, Nat.zero_le _⟩ (midn _) ?_
  obtain ⟨h3, hf⟩ := ochk_some hf
  obtain rfl := Option.some.inj hf
  exact hr _ _ dX6_isWay_11 h3

-- ThumbScaleModel bag (II)I
def rmX6_bag : Room := { frames := 0, cells := 0, slots := 0, locals := 0 }
def kX6_bag : MK := (cX6_bag, 3, RX6, wsX6_bag, (some .int), rmX6_bag)

set_option maxRecDepth 20000 in
theorem jX6_bag_7 : Cond.fieldLink RX6 7 (TX6 2).1 (TX6 2).2.1 (TX6 2).2.2.1 ∈ wsX6_bag := by decide +kernel
set_option maxRecDepth 20000 in
theorem iX6_bag_X6 : ∀ x ∈ u_ws RX6 TX6 29, x ∈ wsX6_bag := by decide +kernel
def f_X6_bag (F : Nat) (s : SO) (a1 : Int32) (a2 : Int32) : Option Int32 :=
    ochi (((1 : Int32) + ((6 : Int32) * a1)) + a2) 264 (
    some ((O_s s) (Int32.toNatClampNeg (((1 : Int32) + ((6 : Int32) * a1)) + a2))))

set_option maxHeartbeats 4000000 in
set_option maxRecDepth 100000 in
theorem c_X6_bag {l : Launch} {D : va_G} {tys : List (ClassId × FieldType)} {X : XT} {cs : CS} (ad : Nat → Nat) {F : Nat} {s : SO} {a1 : Int32} {a2 : Int32} {r : Int32} (htyM : tys = tyA cs) (hf : f_X6_bag F s a1 a2 = some r) : Ci l D tys X yX6_bag wsX6_bag rmX6_bag [.ref (ad 0), .int a1, .int a2] (wO cs ad s) r (wO cs ad s) := by
  refine Ci_ofG (by decide +kernel) rfl (Nat.le_of_ble_eq_true rfl) .int rfl (vp_nar_int _) (fun E _ _ hty0 hX0 hr => ?_)
  have hty := hty0.trans htyM
  have hr : Ri E kX6_bag r (wO cs ad s) := hr
  show G E kX6_bag 0 0 0 [(0, .ref (ad 0)), (1, .int a1), (2, .int a2)] [] (wO cs ad s)
  unfold f_X6_bag at hf
  refine g_aload_n 0 dX6_bag_0 rfl rfl ?_
  refine g_get (ci := 6) (T := TX6) (N := 29) 0 2 (.ref (ad 1)) dX6_bag_1 iX6_bag_X6 rfl jX6_bag_7 (by decide) wlaO_0 rfl ?_
  refine g_iconst (v := (1 : Int32)) dX6_bag_4 (by decide) ?_
  refine g_bipush (v := (6 : Int32)) dX6_bag_5 (by decide) ?_
  refine g_iload_n 1 dX6_bag_7 rfl rfl ?_
  refine g_imul dX6_bag_8 ?_
  refine g_iadd dX6_bag_9 ?_
  refine g_iload_n 2 dX6_bag_10 rfl rfl ?_
  refine g_iadd dX6_bag_11 ?_
  obtain ⟨h1, hf⟩ := ochi_some hf
  refine g_iald 1 0 dX6_bag_12 wlaO_1 (tI hty) h1 ?_
  obtain rfl := Option.some.inj hf
  exact hr _ _ dX6_bag_13

-- ThumbScaleModel bagsOf (I)I
def rmX6_bagsOf : Room := { frames := 1, cells := 0, slots := 0, locals := 22 }
def kX6_bagsOf : MK := (cX6_bagsOf, 4, RX6, wsX6_bagsOf, (some .int), rmX6_bagsOf)

set_option maxRecDepth 20000 in
theorem jX6_bagsOf_7 : Cond.fieldLink RX6 7 (TX6 2).1 (TX6 2).2.1 (TX6 2).2.2.1 ∈ wsX6_bagsOf := by decide +kernel
set_option maxRecDepth 20000 in
theorem iX6_bagsOf_X6 : ∀ x ∈ u_ws RX6 TX6 29, x ∈ wsX6_bagsOf := by decide +kernel
set_option maxRecDepth 20000 in
theorem vX6_bagsOf_155 : KV kX6_bagsOf 155 RX6 yX6_bag wsX6_bag rmX6_bag 2 := ⟨_, _, _, _, gX6_bagsOf_X6_bag, rfl, rfl, rfl, by decide +kernel, ⟨by decide, by decide⟩⟩
def f_X6_bagsOf_L4 (F : Nat) (s : SO) (a1 : Int32) : Nat → Int32 → Int32 → Option Int32
  | 0, _, _ => none
  | n + 1, x1, x2 =>
    ochi (0 : Int32) 264 (
    (if ((O_s s) (Int32.toNatClampNeg (0 : Int32))) ≤ x2 then
    some x1
    else
    obd (f_X6_bag F s x2 (0 : Int32)) (fun v5 =>
    (if v5 = a1 then
    f_X6_bagsOf_L4 F s a1 n (x1 + (1 : Int32)) (x2 + 1)
    else
    f_X6_bagsOf_L4 F s a1 n (x1 + (0 : Int32)) (x2 + 1)))))

def f_X6_bagsOf (F : Nat) (s : SO) (a1 : Int32) : Option Int32 :=
    f_X6_bagsOf_L4 F s a1 F (0 : Int32) (0 : Int32)

set_option maxHeartbeats 4000000 in
set_option maxRecDepth 100000 in
theorem w_X6_bagsOf_L4 {E : GE} {cs : CS} {ad : Nat → Nat} {F : Nat} {s : SO} {a1 : Int32} {r : Int32} (hty : eT E = tyA cs) (hr : Ri E kX6_bagsOf r (wO cs ad s)) : ∀ (n : Nat) (x1 : Int32) (x2 : Int32), f_X6_bagsOf_L4 F s a1 n x1 x2 = some r → G E kX6_bagsOf 0 0 4 [(0, .ref (ad 0)), (1, .int a1), (2, .int x1), (3, .int x2)] [] (wO cs ad s) := by
  intro n
  induction n with
  | zero =>
    intro x1 x2 hf
    cases (show (none : Option Int32) = some r from hf)
  | succ n ih =>
    intro x1 x2 hf
    rw [f_X6_bagsOf_L4] at hf
    refine g_iload_n 3 dX6_bagsOf_4 rfl rfl ?_
    refine g_aload_n 0 dX6_bagsOf_5 rfl rfl ?_
    refine g_get (ci := 6) (T := TX6) (N := 29) 0 2 (.ref (ad 1)) dX6_bagsOf_6 iX6_bagsOf_X6 rfl jX6_bagsOf_7 (by decide) wlaO_0 rfl ?_
    refine g_iconst (v := (0 : Int32)) dX6_bagsOf_9 (by decide) ?_
    obtain ⟨h3, hf⟩ := ochi_some hf
    refine g_iald 1 0 dX6_bagsOf_10 wlaO_1 (tI hty) h3 ?_
    refine g_icmp_ge (tgt := 38) dX6_bagsOf_11 (by decide) (fun h4 => ?_) (fun h4 => ?_)
    · have hf := ift h4 hf
      refine g_iload_n 2 dX6_bagsOf_38 rfl rfl ?_
      obtain rfl := Option.some.inj hf
      exact hr _ _ dX6_bagsOf_39
    · have hf := iff_ h4 hf
      refine g_iload_n 2 dX6_bagsOf_14 rfl rfl ?_
      refine g_aload_n 0 dX6_bagsOf_15 rfl rfl ?_
      refine g_iload_n 3 dX6_bagsOf_16 rfl rfl ?_
      refine g_iconst (v := (0 : Int32)) dX6_bagsOf_17 (by decide) ?_
      obtain ⟨v5, hc6, hf⟩ := obd_some hf
      refine g_callVi (ci := 6) (As := [.int x2, .int (0 : Int32)]) (rest := [.int x1]) (w2 := (wO cs ad s)) 0 dX6_bagsOf_18 vX6_bagsOf_155 (c_X6_bag ad hty hc6) rfl (mid0 _) rfl rfl 0 wlaO_0 rfl (Nat.le_of_ble_eq_true rfl) ⟨Nat.zero_le _, Nat.zero_le _⟩ (mid2 _ _) ?_
      refine g_iload_n 1 dX6_bagsOf_21 rfl rfl ?_
      refine g_icmp_ne (tgt := 29) dX6_bagsOf_22 (by decide) (fun h7 => ?_) (fun h7 => ?_)
      · have hf := iff_ h7 hf
        refine g_iconst (v := (0 : Int32)) dX6_bagsOf_29 (by decide) ?_
        refine g_iadd dX6_bagsOf_30 ?_
        refine g_istore_n (lv2 := [(2, .int (x1 + (0 : Int32))), (0, .ref (ad 0)), (1, .int a1), (3, .int x2)]) dX6_bagsOf_31 rfl (by decide) rfl ?_
        refine g_iinc (lv2 := [(3, .int (x2 + 1)), (2, .int (x1 + (0 : Int32))), (0, .ref (ad 0)), (1, .int a1)]) 3 dX6_bagsOf_32 rfl (ii1 _) (by decide) rfl ?_
        refine g_goto (tgt := 4) dX6_bagsOf_35 (by decide) ?_
        exact g_sub [2, 3, 1, 0] rfl (ih (x1 + (0 : Int32)) (x2 + 1) hf)
      · have hf := ift h7 hf
        refine g_iconst (v := (1 : Int32)) dX6_bagsOf_25 (by decide) ?_
        refine g_goto (tgt := 30) dX6_bagsOf_26 (by decide) ?_
        refine g_iadd dX6_bagsOf_30 ?_
        refine g_istore_n (lv2 := [(2, .int (x1 + (1 : Int32))), (0, .ref (ad 0)), (1, .int a1), (3, .int x2)]) dX6_bagsOf_31 rfl (by decide) rfl ?_
        refine g_iinc (lv2 := [(3, .int (x2 + 1)), (2, .int (x1 + (1 : Int32))), (0, .ref (ad 0)), (1, .int a1)]) 3 dX6_bagsOf_32 rfl (ii1 _) (by decide) rfl ?_
        refine g_goto (tgt := 4) dX6_bagsOf_35 (by decide) ?_
        exact g_sub [2, 3, 1, 0] rfl (ih (x1 + (1 : Int32)) (x2 + 1) hf)

set_option maxHeartbeats 4000000 in
set_option maxRecDepth 100000 in
theorem c_X6_bagsOf {l : Launch} {D : va_G} {tys : List (ClassId × FieldType)} {X : XT} {cs : CS} (ad : Nat → Nat) {F : Nat} {s : SO} {a1 : Int32} {r : Int32} (htyM : tys = tyA cs) (hf : f_X6_bagsOf F s a1 = some r) : Ci l D tys X yX6_bagsOf wsX6_bagsOf rmX6_bagsOf [.ref (ad 0), .int a1] (wO cs ad s) r (wO cs ad s) := by
  refine Ci_ofG (by decide +kernel) rfl (Nat.le_of_ble_eq_true rfl) .int rfl (vp_nar_int _) (fun E _ _ hty0 hX0 hr => ?_)
  have hty := hty0.trans htyM
  have hr : Ri E kX6_bagsOf r (wO cs ad s) := hr
  show G E kX6_bagsOf 0 0 0 [(0, .ref (ad 0)), (1, .int a1)] [] (wO cs ad s)
  unfold f_X6_bagsOf at hf
  refine g_iconst (v := (0 : Int32)) dX6_bagsOf_0 (by decide) ?_
  refine g_istore_n (lv2 := [(2, .int (0 : Int32)), (0, .ref (ad 0)), (1, .int a1)]) dX6_bagsOf_1 rfl (by decide) rfl ?_
  refine g_iconst (v := (0 : Int32)) dX6_bagsOf_2 (by decide) ?_
  refine g_istore_n (lv2 := [(3, .int (0 : Int32)), (2, .int (0 : Int32)), (0, .ref (ad 0)), (1, .int a1)]) dX6_bagsOf_3 rfl (by decide) rfl ?_
  exact g_sub [2, 3, 1, 0] rfl (w_X6_bagsOf_L4 hty hr F (0 : Int32) (0 : Int32) hf)

-- ThumbScaleModel trialsOf (I)I
def rmX6_trialsOf : Room := { frames := 0, cells := 0, slots := 0, locals := 0 }
def kX6_trialsOf : MK := (cX6_trialsOf, 4, RX6, wsX6_trialsOf, (some .int), rmX6_trialsOf)

set_option maxRecDepth 20000 in
theorem jX6_trialsOf_7 : Cond.fieldLink RX6 7 (TX6 2).1 (TX6 2).2.1 (TX6 2).2.2.1 ∈ wsX6_trialsOf := by decide +kernel
set_option maxRecDepth 20000 in
theorem iX6_trialsOf_X6 : ∀ x ∈ u_ws RX6 TX6 29, x ∈ wsX6_trialsOf := by decide +kernel
def f_X6_trialsOf_L4 (F : Nat) (s : SO) (a1 : Int32) : Nat → Int32 → Int32 → Option Int32
  | 0, _, _ => none
  | n + 1, x1, x2 =>
    ochi (181 : Int32) 264 (
    (if ((O_s s) (Int32.toNatClampNeg (181 : Int32))) ≤ x2 then
    some x1
    else
    ochi ((182 : Int32) + ((4 : Int32) * x2)) 264 (
    (if ((O_s s) (Int32.toNatClampNeg ((182 : Int32) + ((4 : Int32) * x2)))) = a1 then
    f_X6_trialsOf_L4 F s a1 n (x1 + (1 : Int32)) (x2 + 1)
    else
    f_X6_trialsOf_L4 F s a1 n (x1 + (0 : Int32)) (x2 + 1)))))

def f_X6_trialsOf (F : Nat) (s : SO) (a1 : Int32) : Option Int32 :=
    f_X6_trialsOf_L4 F s a1 F (0 : Int32) (0 : Int32)

set_option maxHeartbeats 4000000 in
set_option maxRecDepth 100000 in
theorem w_X6_trialsOf_L4 {E : GE} {cs : CS} {ad : Nat → Nat} {F : Nat} {s : SO} {a1 : Int32} {r : Int32} (hty : eT E = tyA cs) (hr : Ri E kX6_trialsOf r (wO cs ad s)) : ∀ (n : Nat) (x1 : Int32) (x2 : Int32), f_X6_trialsOf_L4 F s a1 n x1 x2 = some r → G E kX6_trialsOf 0 0 4 [(0, .ref (ad 0)), (1, .int a1), (2, .int x1), (3, .int x2)] [] (wO cs ad s) := by
  intro n
  induction n with
  | zero =>
    intro x1 x2 hf
    cases (show (none : Option Int32) = some r from hf)
  | succ n ih =>
    intro x1 x2 hf
    rw [f_X6_trialsOf_L4] at hf
    refine g_iload_n 3 dX6_trialsOf_4 rfl rfl ?_
    refine g_aload_n 0 dX6_trialsOf_5 rfl rfl ?_
    refine g_get (ci := 6) (T := TX6) (N := 29) 0 2 (.ref (ad 1)) dX6_trialsOf_6 iX6_trialsOf_X6 rfl jX6_trialsOf_7 (by decide) wlaO_0 rfl ?_
    refine g_sipush (v := (181 : Int32)) dX6_trialsOf_9 (by decide) ?_
    obtain ⟨h3, hf⟩ := ochi_some hf
    refine g_iald 1 0 dX6_trialsOf_12 wlaO_1 (tI hty) h3 ?_
    refine g_icmp_ge (tgt := 46) dX6_trialsOf_13 (by decide) (fun h4 => ?_) (fun h4 => ?_)
    · have hf := ift h4 hf
      refine g_iload_n 2 dX6_trialsOf_46 rfl rfl ?_
      obtain rfl := Option.some.inj hf
      exact hr _ _ dX6_trialsOf_47
    · have hf := iff_ h4 hf
      refine g_iload_n 2 dX6_trialsOf_16 rfl rfl ?_
      refine g_aload_n 0 dX6_trialsOf_17 rfl rfl ?_
      refine g_get (ci := 6) (T := TX6) (N := 29) 0 2 (.ref (ad 1)) dX6_trialsOf_18 iX6_trialsOf_X6 rfl jX6_trialsOf_7 (by decide) wlaO_0 rfl ?_
      refine g_sipush (v := (182 : Int32)) dX6_trialsOf_21 (by decide) ?_
      refine g_iconst (v := (4 : Int32)) dX6_trialsOf_24 (by decide) ?_
      refine g_iload_n 3 dX6_trialsOf_25 rfl rfl ?_
      refine g_imul dX6_trialsOf_26 ?_
      refine g_iadd dX6_trialsOf_27 ?_
      obtain ⟨h5, hf⟩ := ochi_some hf
      refine g_iald 1 0 dX6_trialsOf_28 wlaO_1 (tI hty) h5 ?_
      refine g_iload_n 1 dX6_trialsOf_29 rfl rfl ?_
      refine g_icmp_ne (tgt := 37) dX6_trialsOf_30 (by decide) (fun h6 => ?_) (fun h6 => ?_)
      · have hf := iff_ h6 hf
        refine g_iconst (v := (0 : Int32)) dX6_trialsOf_37 (by decide) ?_
        refine g_iadd dX6_trialsOf_38 ?_
        refine g_istore_n (lv2 := [(2, .int (x1 + (0 : Int32))), (0, .ref (ad 0)), (1, .int a1), (3, .int x2)]) dX6_trialsOf_39 rfl (by decide) rfl ?_
        refine g_iinc (lv2 := [(3, .int (x2 + 1)), (2, .int (x1 + (0 : Int32))), (0, .ref (ad 0)), (1, .int a1)]) 3 dX6_trialsOf_40 rfl (ii1 _) (by decide) rfl ?_
        refine g_goto (tgt := 4) dX6_trialsOf_43 (by decide) ?_
        exact g_sub [2, 3, 1, 0] rfl (ih (x1 + (0 : Int32)) (x2 + 1) hf)
      · have hf := ift h6 hf
        refine g_iconst (v := (1 : Int32)) dX6_trialsOf_33 (by decide) ?_
        refine g_goto (tgt := 38) dX6_trialsOf_34 (by decide) ?_
        refine g_iadd dX6_trialsOf_38 ?_
        refine g_istore_n (lv2 := [(2, .int (x1 + (1 : Int32))), (0, .ref (ad 0)), (1, .int a1), (3, .int x2)]) dX6_trialsOf_39 rfl (by decide) rfl ?_
        refine g_iinc (lv2 := [(3, .int (x2 + 1)), (2, .int (x1 + (1 : Int32))), (0, .ref (ad 0)), (1, .int a1)]) 3 dX6_trialsOf_40 rfl (ii1 _) (by decide) rfl ?_
        refine g_goto (tgt := 4) dX6_trialsOf_43 (by decide) ?_
        exact g_sub [2, 3, 1, 0] rfl (ih (x1 + (1 : Int32)) (x2 + 1) hf)

set_option maxHeartbeats 4000000 in
set_option maxRecDepth 100000 in
theorem c_X6_trialsOf {l : Launch} {D : va_G} {tys : List (ClassId × FieldType)} {X : XT} {cs : CS} (ad : Nat → Nat) {F : Nat} {s : SO} {a1 : Int32} {r : Int32} (htyM : tys = tyA cs) (hf : f_X6_trialsOf F s a1 = some r) : Ci l D tys X yX6_trialsOf wsX6_trialsOf rmX6_trialsOf [.ref (ad 0), .int a1] (wO cs ad s) r (wO cs ad s) := by
  refine Ci_ofG (by decide +kernel) rfl (Nat.le_of_ble_eq_true rfl) .int rfl (vp_nar_int _) (fun E _ _ hty0 hX0 hr => ?_)
  have hty := hty0.trans htyM
  have hr : Ri E kX6_trialsOf r (wO cs ad s) := hr
  show G E kX6_trialsOf 0 0 0 [(0, .ref (ad 0)), (1, .int a1)] [] (wO cs ad s)
  unfold f_X6_trialsOf at hf
  refine g_iconst (v := (0 : Int32)) dX6_trialsOf_0 (by decide) ?_
  refine g_istore_n (lv2 := [(2, .int (0 : Int32)), (0, .ref (ad 0)), (1, .int a1)]) dX6_trialsOf_1 rfl (by decide) rfl ?_
  refine g_iconst (v := (0 : Int32)) dX6_trialsOf_2 (by decide) ?_
  refine g_istore_n (lv2 := [(3, .int (0 : Int32)), (2, .int (0 : Int32)), (0, .ref (ad 0)), (1, .int a1)]) dX6_trialsOf_3 rfl (by decide) rfl ?_
  exact g_sub [2, 3, 1, 0] rfl (w_X6_trialsOf_L4 hty hr F (0 : Int32) (0 : Int32) hf)

-- ThumbScaleModel honest (I)I
def rmX6_honest : Room := { frames := 1, cells := 0, slots := 0, locals := 22 }
def kX6_honest : MK := (cX6_honest, 2, RX6, wsX6_honest, (some .int), rmX6_honest)

set_option maxRecDepth 20000 in
theorem vX6_honest_61 : KS kX6_honest 61 yX6_in wsX6_in rmX6_in 3 := ⟨_, _, _, _, gX6_honest_X6_in, rfl, rfl, rfl, by decide +kernel, ⟨by decide, by decide⟩⟩
set_option maxRecDepth 20000 in
theorem jX6_honest_27 : Cond.fieldLink RX6 27 (TX6 13).1 (TX6 13).2.1 (TX6 13).2.2.1 ∈ wsX6_honest := by decide +kernel
set_option maxRecDepth 20000 in
theorem iX6_honest_X6 : ∀ x ∈ u_ws RX6 TX6 29, x ∈ wsX6_honest := by decide +kernel
def f_X6_honest (F : Nat) (s : SO) (a1 : Int32) : Option Int32 :=
    obd (f_X6_in F a1 (-1 : Int32) (1 : Int32)) (fun v1 =>
    (if v1 = 0 then
    some (0 : Int32)
    else
    ochi (a1 + (1 : Int32)) 6 (
    some ((60 : Int32) * ((O_luck s) (Int32.toNatClampNeg (a1 + (1 : Int32))))))))

set_option maxHeartbeats 4000000 in
set_option maxRecDepth 100000 in
theorem c_X6_honest {l : Launch} {D : va_G} {tys : List (ClassId × FieldType)} {X : XT} {cs : CS} (ad : Nat → Nat) {F : Nat} {s : SO} {a1 : Int32} {r : Int32} (htyM : tys = tyA cs) (hf : f_X6_honest F s a1 = some r) : Ci l D tys X yX6_honest wsX6_honest rmX6_honest [.ref (ad 0), .int a1] (wO cs ad s) r (wO cs ad s) := by
  refine Ci_ofG (by decide +kernel) rfl (Nat.le_of_ble_eq_true rfl) .int rfl (vp_nar_int _) (fun E _ _ hty0 hX0 hr => ?_)
  have hty := hty0.trans htyM
  have hr : Ri E kX6_honest r (wO cs ad s) := hr
  show G E kX6_honest 0 0 0 [(0, .ref (ad 0)), (1, .int a1)] [] (wO cs ad s)
  unfold f_X6_honest at hf
  refine g_iload_n 1 dX6_honest_0 rfl rfl ?_
  refine g_iconst (v := (-1 : Int32)) dX6_honest_1 (by decide) ?_
  refine g_iconst (v := (1 : Int32)) dX6_honest_2 (by decide) ?_
  obtain ⟨v1, hc2, hf⟩ := obd_some hf
  refine g_callSi (As := [.int a1, .int (-1 : Int32), .int (1 : Int32)]) (rest := []) (w2 := (wO cs ad s)) 0 dX6_honest_3 vX6_honest_61 (c_X6_in hty hc2) rfl (midm _) rfl (Nat.le_of_ble_eq_true rfl) ⟨Nat.zero_le _, Nat.zero_le _⟩ (midn _) ?_
  refine g_if_eq (tgt := 23) dX6_honest_6 (by decide) (fun h3 => ?_) (fun h3 => ?_)
  · have hf := ift h3 hf
    refine g_iconst (v := (0 : Int32)) dX6_honest_23 (by decide) ?_
    obtain rfl := Option.some.inj hf
    exact hr _ _ dX6_honest_24
  · have hf := iff_ h3 hf
    refine g_bipush (v := (60 : Int32)) dX6_honest_9 (by decide) ?_
    refine g_aload_n 0 dX6_honest_11 rfl rfl ?_
    refine g_get (ci := 6) (T := TX6) (N := 29) 0 13 (.ref (ad 6)) dX6_honest_12 iX6_honest_X6 rfl jX6_honest_27 (by decide) wlaO_0 rfl ?_
    refine g_iload_n 1 dX6_honest_15 rfl rfl ?_
    refine g_iconst (v := (1 : Int32)) dX6_honest_16 (by decide) ?_
    refine g_iadd dX6_honest_17 ?_
    obtain ⟨h4, hf⟩ := ochi_some hf
    refine g_iald 6 0 dX6_honest_18 wlaO_6 (tI hty) h4 ?_
    refine g_imul dX6_honest_19 ?_
    refine g_goto (tgt := 24) dX6_honest_20 (by decide) ?_
    obtain rfl := Option.some.inj hf
    exact hr _ _ dX6_honest_24

-- ThumbScaleModel oftenOf (IIII)I
def rmX6_oftenOf : Room := { frames := 2, cells := 0, slots := 0, locals := 43 }
def kX6_oftenOf : MK := (cX6_oftenOf, 9, RX6, wsX6_oftenOf, (some .int), rmX6_oftenOf)

set_option maxRecDepth 20000 in
theorem vX6_oftenOf_61 : KS kX6_oftenOf 61 yX6_in wsX6_in rmX6_in 3 := ⟨_, _, _, _, gX6_oftenOf_X6_in, rfl, rfl, rfl, by decide +kernel, ⟨by decide, by decide⟩⟩
set_option maxRecDepth 20000 in
theorem jX6_oftenOf_33 : Cond.fieldLink RX6 33 (TX6 15).1 (TX6 15).2.1 (TX6 15).2.2.1 ∈ wsX6_oftenOf := by decide +kernel
set_option maxRecDepth 20000 in
theorem iX6_oftenOf_X6 : ∀ x ∈ u_ws RX6 TX6 29, x ∈ wsX6_oftenOf := by decide +kernel
set_option maxRecDepth 20000 in
theorem jX6_oftenOf_30 : Cond.fieldLink RX6 30 (TX6 14).1 (TX6 14).2.1 (TX6 14).2.2.1 ∈ wsX6_oftenOf := by decide +kernel
set_option maxRecDepth 20000 in
theorem vX6_oftenOf_170 : KV kX6_oftenOf 170 RX6 yX6_honest wsX6_honest rmX6_honest 1 := ⟨_, _, _, _, gX6_oftenOf_X6_honest, rfl, rfl, rfl, by decide +kernel, ⟨by decide, by decide⟩⟩
def f_X6_oftenOf (F : Nat) (s : SO) (a1 : Int32) (a2 : Int32) (a3 : Int32) (a4 : Int32) : Option Int32 :=
    obd (f_X6_in F a4 (-1 : Int32) (100 : Int32)) (fun v1 =>
    (if v1 = 0 then
    some (0 : Int32)
    else
    ochi ((4 : Int32) * a1) 48 (
    olt ((O_way s) (Int32.toNatClampNeg ((4 : Int32) * a1))) (fun z5 =>
    ochi (((4 : Int32) * a1) + (1 : Int32)) 48 (
    ochi ((3 : Int32) * a2) 36 (
    ochi ((3 : Int32) * a2) 36 (
    ochk (¬ ((O_stall s) (Int32.toNatClampNeg ((3 : Int32) * a2))) = 0) (
    olt (((((O_way s) (Int32.toNatClampNeg (((4 : Int32) * a1) + (1 : Int32)))) + ((O_stall s) (Int32.toNatClampNeg ((3 : Int32) * a2)))) - (1 : Int32)) / ((O_stall s) (Int32.toNatClampNeg ((3 : Int32) * a2)))) (fun z10 =>
    ochi (((4 : Int32) * a1) + (2 : Int32)) 48 (
    olt ((O_way s) (Int32.toNatClampNeg (((4 : Int32) * a1) + (2 : Int32)))) (fun z12 =>
    ochi (((4 : Int32) * a1) + (3 : Int32)) 48 (
    obd ((if ((((O_way s) (Int32.toNatClampNeg (((4 : Int32) * a1) + (3 : Int32)))) >>> (a3 &&& 31)) &&& (1 : Int32)) = (1 : Int32) then
    some (1 : Int32)
    else
    some (0 : Int32))) (fun v15 =>
    (if z5 = (3 : Int32) then
    (if a4 = 0 then
    obd (f_X6_honest F s (-1 : Int32)) (fun v38 =>
    obd (f_X6_honest F s (0 : Int32)) (fun v40 =>
    some (v38 + v40)))
    else
    (if a4 = (1 : Int32) then
    obd (f_X6_honest F s (1 : Int32)) (fun v36 =>
    some v36)
    else
    some (0 : Int32)))
    else
    olt (obd (f_X6_honest F s a4) (fun v18 =>
    some v18)) (fun k20 =>
    (if z5 = 0 then
    k20
    else
    olt ((if z5 = (1 : Int32) then
    obd (f_X6_honest F s (a4 - z10)) (fun v29 =>
    some v29)
    else
    obd (f_X6_honest F s (a4 - z10)) (fun v23 =>
    ochk (¬ z12 = 0) (
    obd (f_X6_honest F s a4) (fun v26 =>
    ochk (¬ z12 = 0) (
    some ((v23 / z12) + ((v26 / z12) * (z12 - (1 : Int32)))))))))) (fun k31 =>
    (if z5 = (2 : Int32) then
    (if v15 = 0 then
    k20
    else
    k31)
    else
    k31))))))))))))))))))

set_option maxHeartbeats 4000000 in
set_option maxRecDepth 100000 in
theorem c_X6_oftenOf {l : Launch} {D : va_G} {tys : List (ClassId × FieldType)} {X : XT} {cs : CS} (ad : Nat → Nat) {F : Nat} {s : SO} {a1 : Int32} {a2 : Int32} {a3 : Int32} {a4 : Int32} {r : Int32} (htyM : tys = tyA cs) (hf : f_X6_oftenOf F s a1 a2 a3 a4 = some r) : Ci l D tys X yX6_oftenOf wsX6_oftenOf rmX6_oftenOf [.ref (ad 0), .int a1, .int a2, .int a3, .int a4] (wO cs ad s) r (wO cs ad s) := by
  refine Ci_ofG (by decide +kernel) rfl (Nat.le_of_ble_eq_true rfl) .int rfl (vp_nar_int _) (fun E _ _ hty0 hX0 hr => ?_)
  have hty := hty0.trans htyM
  have hr : Ri E kX6_oftenOf r (wO cs ad s) := hr
  show G E kX6_oftenOf 0 0 0 [(0, .ref (ad 0)), (1, .int a1), (2, .int a2), (3, .int a3), (4, .int a4)] [] (wO cs ad s)
  unfold f_X6_oftenOf at hf
  refine g_iload 4 dX6_oftenOf_0 rfl ?_
  refine g_iconst (v := (-1 : Int32)) dX6_oftenOf_2 (by decide) ?_
  refine g_bipush (v := (100 : Int32)) dX6_oftenOf_3 (by decide) ?_
  obtain ⟨v1, hc2, hf⟩ := obd_some hf
  refine g_callSi (As := [.int a4, .int (-1 : Int32), .int (100 : Int32)]) (rest := []) (w2 := (wO cs ad s)) 0 dX6_oftenOf_5 vX6_oftenOf_61 (c_X6_in hty hc2) rfl (midm _) rfl (Nat.le_of_ble_eq_true rfl) ⟨Nat.zero_le _, Nat.zero_le _⟩ (midn _) ?_
  refine g_if_ne (tgt := 13) dX6_oftenOf_8 (by decide) (fun h3 => ?_) (fun h3 => ?_)
  · have hf := iff_ h3 hf
    refine g_aload_n 0 dX6_oftenOf_13 rfl rfl ?_
    refine g_get (ci := 6) (T := TX6) (N := 29) 0 15 (.ref (ad 8)) dX6_oftenOf_14 iX6_oftenOf_X6 rfl jX6_oftenOf_33 (by decide) wlaO_0 rfl ?_
    refine g_iconst (v := (4 : Int32)) dX6_oftenOf_17 (by decide) ?_
    refine g_iload_n 1 dX6_oftenOf_18 rfl rfl ?_
    refine g_imul dX6_oftenOf_19 ?_
    obtain ⟨h4, hf⟩ := ochi_some hf
    refine g_iald 8 0 dX6_oftenOf_20 wlaO_8 (tI hty) h4 ?_
    obtain ⟨z5, e_z5, hf⟩ := olt_some hf
    refine g_cast rfl rfl (congrArg (fun q => Value.int q :: []) e_z5) rfl ?_
    refine g_istore (lv2 := [(5, .int z5), (0, .ref (ad 0)), (1, .int a1), (2, .int a2), (3, .int a3), (4, .int a4)]) dX6_oftenOf_21 (by decide) rfl ?_
    refine g_aload_n 1 dX6_oftenOf_23 rfl rfl ?_
    refine g_get (ci := 6) (T := TX6) (N := 29) 0 15 (.ref (ad 8)) dX6_oftenOf_24 iX6_oftenOf_X6 rfl jX6_oftenOf_33 (by decide) wlaO_0 rfl ?_
    refine g_iconst (v := (4 : Int32)) dX6_oftenOf_27 (by decide) ?_
    refine g_iload_n 2 dX6_oftenOf_28 rfl rfl ?_
    refine g_imul dX6_oftenOf_29 ?_
    refine g_iconst (v := (1 : Int32)) dX6_oftenOf_30 (by decide) ?_
    refine g_iadd dX6_oftenOf_31 ?_
    obtain ⟨h6, hf⟩ := ochi_some hf
    refine g_iald 8 0 dX6_oftenOf_32 wlaO_8 (tI hty) h6 ?_
    refine g_aload_n 1 dX6_oftenOf_33 rfl rfl ?_
    refine g_get (ci := 6) (T := TX6) (N := 29) 0 14 (.ref (ad 7)) dX6_oftenOf_34 iX6_oftenOf_X6 rfl jX6_oftenOf_30 (by decide) wlaO_0 rfl ?_
    refine g_iconst (v := (3 : Int32)) dX6_oftenOf_37 (by decide) ?_
    refine g_iload_n 3 dX6_oftenOf_38 rfl rfl ?_
    refine g_imul dX6_oftenOf_39 ?_
    obtain ⟨h7, hf⟩ := ochi_some hf
    refine g_iald 7 0 dX6_oftenOf_40 wlaO_7 (tI hty) h7 ?_
    refine g_iadd dX6_oftenOf_41 ?_
    refine g_iconst (v := (1 : Int32)) dX6_oftenOf_42 (by decide) ?_
    refine g_isub dX6_oftenOf_43 ?_
    refine g_aload_n 1 dX6_oftenOf_44 rfl rfl ?_
    refine g_get (ci := 6) (T := TX6) (N := 29) 0 14 (.ref (ad 7)) dX6_oftenOf_45 iX6_oftenOf_X6 rfl jX6_oftenOf_30 (by decide) wlaO_0 rfl ?_
    refine g_iconst (v := (3 : Int32)) dX6_oftenOf_48 (by decide) ?_
    refine g_iload_n 3 dX6_oftenOf_49 rfl rfl ?_
    refine g_imul dX6_oftenOf_50 ?_
    obtain ⟨h8, hf⟩ := ochi_some hf
    refine g_iald 7 0 dX6_oftenOf_51 wlaO_7 (tI hty) h8 ?_
    obtain ⟨h9, hf⟩ := ochk_some hf
    refine g_idiv dX6_oftenOf_52 h9 ?_
    obtain ⟨z10, e_z10, hf⟩ := olt_some hf
    refine g_cast rfl rfl (congrArg (fun q => Value.int q :: []) e_z10) rfl ?_
    refine g_istore (lv2 := [(6, .int z10), (5, .int z5), (0, .ref (ad 0)), (1, .int a1), (2, .int a2), (3, .int a3), (4, .int a4)]) dX6_oftenOf_53 (by decide) rfl ?_
    refine g_aload_n 2 dX6_oftenOf_55 rfl rfl ?_
    refine g_get (ci := 6) (T := TX6) (N := 29) 0 15 (.ref (ad 8)) dX6_oftenOf_56 iX6_oftenOf_X6 rfl jX6_oftenOf_33 (by decide) wlaO_0 rfl ?_
    refine g_iconst (v := (4 : Int32)) dX6_oftenOf_59 (by decide) ?_
    refine g_iload_n 3 dX6_oftenOf_60 rfl rfl ?_
    refine g_imul dX6_oftenOf_61 ?_
    refine g_iconst (v := (2 : Int32)) dX6_oftenOf_62 (by decide) ?_
    refine g_iadd dX6_oftenOf_63 ?_
    obtain ⟨h11, hf⟩ := ochi_some hf
    refine g_iald 8 0 dX6_oftenOf_64 wlaO_8 (tI hty) h11 ?_
    obtain ⟨z12, e_z12, hf⟩ := olt_some hf
    refine g_cast rfl rfl (congrArg (fun q => Value.int q :: []) e_z12) rfl ?_
    refine g_istore (lv2 := [(7, .int z12), (6, .int z10), (5, .int z5), (0, .ref (ad 0)), (1, .int a1), (2, .int a2), (3, .int a3), (4, .int a4)]) dX6_oftenOf_65 (by decide) rfl ?_
    refine g_aload_n 3 dX6_oftenOf_67 rfl rfl ?_
    refine g_get (ci := 6) (T := TX6) (N := 29) 0 15 (.ref (ad 8)) dX6_oftenOf_68 iX6_oftenOf_X6 rfl jX6_oftenOf_33 (by decide) wlaO_0 rfl ?_
    refine g_iconst (v := (4 : Int32)) dX6_oftenOf_71 (by decide) ?_
    refine g_iload_n 4 dX6_oftenOf_72 rfl rfl ?_
    refine g_imul dX6_oftenOf_73 ?_
    refine g_iconst (v := (3 : Int32)) dX6_oftenOf_74 (by decide) ?_
    refine g_iadd dX6_oftenOf_75 ?_
    obtain ⟨h13, hf⟩ := ochi_some hf
    refine g_iald 8 0 dX6_oftenOf_76 wlaO_8 (tI hty) h13 ?_
    refine g_iload_n 6 dX6_oftenOf_77 rfl rfl ?_
    refine g_ishr dX6_oftenOf_78 ?_
    refine g_iconst (v := (1 : Int32)) dX6_oftenOf_79 (by decide) ?_
    refine g_iand dX6_oftenOf_80 ?_
    refine g_iconst (v := (1 : Int32)) dX6_oftenOf_81 (by decide) ?_
    obtain ⟨v15, hE_v15, hf⟩ := obd_some hf
    have J_v15 : G E kX6_oftenOf 0 0 90 [(0, .ref (ad 0)), (1, .int a1), (2, .int a2), (3, .int a3), (4, .int a4), (5, .int z5), (6, .int z10), (7, .int z12)] [.int v15] (wO cs ad s) := by
      refine g_istore (lv2 := [(8, .int v15), (0, .ref (ad 0)), (1, .int a1), (2, .int a2), (3, .int a3), (4, .int a4), (5, .int z5), (6, .int z10), (7, .int z12)]) dX6_oftenOf_90 (by decide) rfl ?_
      refine g_iload 6 dX6_oftenOf_92 rfl ?_
      refine g_iconst (v := (3 : Int32)) dX6_oftenOf_94 (by decide) ?_
      refine g_icmp_ne (tgt := 133) dX6_oftenOf_95 (by decide) (fun h17 => ?_) (fun h17 => ?_)
      · have hf := iff_ h17 hf
        refine g_iload 6 dX6_oftenOf_133 rfl ?_
        obtain ⟨k20, e_k20, hf⟩ := olt_some hf
        have K_k20 : k20 = some r → G E kX6_oftenOf 0 0 149 [(0, .ref (ad 0)), (4, .int a4)] [] (wO cs ad s) := by
          intro hf
          rw [← e_k20] at hf
          refine g_aload_n 0 dX6_oftenOf_149 rfl rfl ?_
          refine g_iload 1 dX6_oftenOf_150 rfl ?_
          obtain ⟨v18, hc19, hf⟩ := obd_some hf
          refine g_callVi (ci := 6) (As := [.int a4]) (rest := []) (w2 := (wO cs ad s)) 0 dX6_oftenOf_152 vX6_oftenOf_170 (c_X6_honest ad hty hc19) rfl (mid0 _) rfl rfl 0 wlaO_0 rfl (Nat.le_of_ble_eq_true rfl) ⟨Nat.zero_le _, Nat.zero_le _⟩ (mid2 _ _) ?_
          refine g_goto (tgt := 203) dX6_oftenOf_155 (by decide) ?_
          obtain rfl := Option.some.inj hf
          exact hr _ _ dX6_oftenOf_203
        refine g_if_eq (tgt := 149) dX6_oftenOf_135 (by decide) (fun h21 => ?_) (fun h21 => ?_)
        · have hf := ift h21 hf
          exact g_sub [1, 5] rfl (K_k20 hf)
        · have hf := iff_ h21 hf
          refine g_iload 6 dX6_oftenOf_138 rfl ?_
          refine g_iconst (v := (2 : Int32)) dX6_oftenOf_140 (by decide) ?_
          obtain ⟨k31, e_k31, hf⟩ := olt_some hf
          have K_k31 : k31 = some r → G E kX6_oftenOf 0 0 158 [(0, .ref (ad 0)), (4, .int a4), (5, .int z5), (6, .int z10), (7, .int z12)] [] (wO cs ad s) := by
            intro hf
            rw [← e_k31] at hf
            refine g_iload 2 dX6_oftenOf_158 rfl ?_
            refine g_iconst (v := (1 : Int32)) dX6_oftenOf_160 (by decide) ?_
            refine g_icmp_ne (tgt := 176) dX6_oftenOf_161 (by decide) (fun h22 => ?_) (fun h22 => ?_)
            · have hf := iff_ h22 hf
              refine g_aload_n 0 dX6_oftenOf_176 rfl rfl ?_
              refine g_iload 1 dX6_oftenOf_177 rfl ?_
              refine g_iload 3 dX6_oftenOf_179 rfl ?_
              refine g_isub dX6_oftenOf_181 ?_
              obtain ⟨v23, hc24, hf⟩ := obd_some hf
              refine g_callVi (ci := 6) (As := [.int (a4 - z10)]) (rest := []) (w2 := (wO cs ad s)) 0 dX6_oftenOf_182 vX6_oftenOf_170 (c_X6_honest ad hty hc24) rfl (mid0 _) rfl rfl 0 wlaO_0 rfl (Nat.le_of_ble_eq_true rfl) ⟨Nat.zero_le _, Nat.zero_le _⟩ (mid2 _ _) ?_
              refine g_iload 4 dX6_oftenOf_185 rfl ?_
              obtain ⟨h25, hf⟩ := ochk_some hf
              refine g_idiv dX6_oftenOf_187 h25 ?_
              refine g_aload_n 0 dX6_oftenOf_188 rfl rfl ?_
              refine g_iload 1 dX6_oftenOf_189 rfl ?_
              obtain ⟨v26, hc27, hf⟩ := obd_some hf
              refine g_callVi (ci := 6) (As := [.int a4]) (rest := [.int (v23 / z12)]) (w2 := (wO cs ad s)) 0 dX6_oftenOf_191 vX6_oftenOf_170 (c_X6_honest ad hty hc27) rfl (mid0 _) rfl rfl 0 wlaO_0 rfl (Nat.le_of_ble_eq_true rfl) ⟨Nat.zero_le _, Nat.zero_le _⟩ (mid2 _ _) ?_
              refine g_iload 4 dX6_oftenOf_194 rfl ?_
              obtain ⟨h28, hf⟩ := ochk_some hf
              refine g_idiv dX6_oftenOf_196 h28 ?_
              refine g_iload 4 dX6_oftenOf_197 rfl ?_
              refine g_iconst (v := (1 : Int32)) dX6_oftenOf_199 (by decide) ?_
              refine g_isub dX6_oftenOf_200 ?_
              refine g_imul dX6_oftenOf_201 ?_
              refine g_iadd dX6_oftenOf_202 ?_
              obtain rfl := Option.some.inj hf
              exact hr _ _ dX6_oftenOf_203
            · have hf := ift h22 hf
              refine g_aload_n 0 dX6_oftenOf_164 rfl rfl ?_
              refine g_iload 1 dX6_oftenOf_165 rfl ?_
              refine g_iload 3 dX6_oftenOf_167 rfl ?_
              refine g_isub dX6_oftenOf_169 ?_
              obtain ⟨v29, hc30, hf⟩ := obd_some hf
              refine g_callVi (ci := 6) (As := [.int (a4 - z10)]) (rest := []) (w2 := (wO cs ad s)) 0 dX6_oftenOf_170 vX6_oftenOf_170 (c_X6_honest ad hty hc30) rfl (mid0 _) rfl rfl 0 wlaO_0 rfl (Nat.le_of_ble_eq_true rfl) ⟨Nat.zero_le _, Nat.zero_le _⟩ (mid2 _ _) ?_
              refine g_goto (tgt := 203) dX6_oftenOf_173 (by decide) ?_
              obtain rfl := Option.some.inj hf
              exact hr _ _ dX6_oftenOf_203
          refine g_icmp_ne (tgt := 158) dX6_oftenOf_141 (by decide) (fun h32 => ?_) (fun h32 => ?_)
          · have hf := iff_ h32 hf
            exact g_sub [1, 5, 6, 7, 8] rfl (K_k31 hf)
          · have hf := ift h32 hf
            refine g_iload 0 dX6_oftenOf_144 rfl ?_
            refine g_if_ne (tgt := 158) dX6_oftenOf_146 (by decide) (fun h33 => ?_) (fun h33 => ?_)
            · have hf := iff_ h33 hf
              exact g_sub [1, 5, 6, 7, 8] rfl (K_k31 hf)
            · have hf := ift h33 hf
              exact g_sub [1, 5] rfl (K_k20 hf)
      · have hf := ift h17 hf
        refine g_iload 5 dX6_oftenOf_98 rfl ?_
        refine g_if_ne (tgt := 117) dX6_oftenOf_100 (by decide) (fun h34 => ?_) (fun h34 => ?_)
        · have hf := iff_ h34 hf
          refine g_iload 5 dX6_oftenOf_117 rfl ?_
          refine g_iconst (v := (1 : Int32)) dX6_oftenOf_119 (by decide) ?_
          refine g_icmp_ne (tgt := 131) dX6_oftenOf_120 (by decide) (fun h35 => ?_) (fun h35 => ?_)
          · have hf := iff_ h35 hf
            refine g_iconst (v := (0 : Int32)) dX6_oftenOf_131 (by decide) ?_
            obtain rfl := Option.some.inj hf
            exact hr _ _ dX6_oftenOf_132
          · have hf := ift h35 hf
            refine g_aload_n 1 dX6_oftenOf_123 rfl rfl ?_
            refine g_iconst (v := (1 : Int32)) dX6_oftenOf_124 (by decide) ?_
            obtain ⟨v36, hc37, hf⟩ := obd_some hf
            refine g_callVi (ci := 6) (As := [.int (1 : Int32)]) (rest := []) (w2 := (wO cs ad s)) 0 dX6_oftenOf_125 vX6_oftenOf_170 (c_X6_honest ad hty hc37) rfl (mid0 _) rfl rfl 0 wlaO_0 rfl (Nat.le_of_ble_eq_true rfl) ⟨Nat.zero_le _, Nat.zero_le _⟩ (mid2 _ _) ?_
            refine g_goto (tgt := 132) dX6_oftenOf_128 (by decide) ?_
            obtain rfl := Option.some.inj hf
            exact hr _ _ dX6_oftenOf_132
        · have hf := ift h34 hf
          refine g_aload_n 1 dX6_oftenOf_103 rfl rfl ?_
          refine g_iconst (v := (-1 : Int32)) dX6_oftenOf_104 (by decide) ?_
          obtain ⟨v38, hc39, hf⟩ := obd_some hf
          refine g_callVi (ci := 6) (As := [.int (-1 : Int32)]) (rest := []) (w2 := (wO cs ad s)) 0 dX6_oftenOf_105 vX6_oftenOf_170 (c_X6_honest ad hty hc39) rfl (mid0 _) rfl rfl 0 wlaO_0 rfl (Nat.le_of_ble_eq_true rfl) ⟨Nat.zero_le _, Nat.zero_le _⟩ (mid2 _ _) ?_
          refine g_aload_n 1 dX6_oftenOf_108 rfl rfl ?_
          refine g_iconst (v := (0 : Int32)) dX6_oftenOf_109 (by decide) ?_
          obtain ⟨v40, hc41, hf⟩ := obd_some hf
          refine g_callVi (ci := 6) (As := [.int (0 : Int32)]) (rest := [.int v38]) (w2 := (wO cs ad s)) 0 dX6_oftenOf_110 vX6_oftenOf_170 (c_X6_honest ad hty hc41) rfl (mid0 _) rfl rfl 0 wlaO_0 rfl (Nat.le_of_ble_eq_true rfl) ⟨Nat.zero_le _, Nat.zero_le _⟩ (mid2 _ _) ?_
          refine g_iadd dX6_oftenOf_113 ?_
          refine g_goto (tgt := 132) dX6_oftenOf_114 (by decide) ?_
          obtain rfl := Option.some.inj hf
          exact hr _ _ dX6_oftenOf_132
    have hf := hE_v15
    refine g_icmp_ne (tgt := 89) dX6_oftenOf_82 (by decide) (fun h16 => ?_) (fun h16 => ?_)
    · have hf := iff_ h16 hf
      refine g_iconst (v := (0 : Int32)) dX6_oftenOf_89 (by decide) ?_
      obtain rfl := Option.some.inj hf
      exact g_sub [3, 4, 5, 6, 7, 2, 1, 0] rfl J_v15
    · have hf := ift h16 hf
      refine g_iconst (v := (1 : Int32)) dX6_oftenOf_85 (by decide) ?_
      refine g_goto (tgt := 90) dX6_oftenOf_86 (by decide) ?_
      obtain rfl := Option.some.inj hf
      exact g_sub [3, 4, 5, 6, 7, 2, 1, 0] rfl J_v15
  · have hf := ift h3 hf
    refine g_iconst (v := (0 : Int32)) dX6_oftenOf_11 (by decide) ?_
    obtain rfl := Option.some.inj hf
    exact hr _ _ dX6_oftenOf_12

-- ThumbScaleModel shortOf (I)I
def rmX6_shortOf : Room := { frames := 1, cells := 0, slots := 0, locals := 22 }
def kX6_shortOf : MK := (cX6_shortOf, 2, RX6, wsX6_shortOf, (some .int), rmX6_shortOf)

set_option maxRecDepth 20000 in
theorem vX6_shortOf_155 : KV kX6_shortOf 155 RX6 yX6_bag wsX6_bag rmX6_bag 2 := ⟨_, _, _, _, gX6_shortOf_X6_bag, rfl, rfl, rfl, by decide +kernel, ⟨by decide, by decide⟩⟩
set_option maxRecDepth 20000 in
theorem jX6_shortOf_30 : Cond.fieldLink RX6 30 (TX6 14).1 (TX6 14).2.1 (TX6 14).2.2.1 ∈ wsX6_shortOf := by decide +kernel
set_option maxRecDepth 20000 in
theorem iX6_shortOf_X6 : ∀ x ∈ u_ws RX6 TX6 29, x ∈ wsX6_shortOf := by decide +kernel
def f_X6_shortOf (F : Nat) (s : SO) (a1 : Int32) : Option Int32 :=
    obd (f_X6_bag F s a1 (3 : Int32)) (fun v1 =>
    obd (f_X6_bag F s a1 (4 : Int32)) (fun v3 =>
    obd (f_X6_bag F s a1 (0 : Int32)) (fun v5 =>
    ochi (((3 : Int32) * v5) + (1 : Int32)) 36 (
    obd (f_X6_bag F s a1 (5 : Int32)) (fun v8 =>
    ochk (¬ (10 : Int32) = 0) (
    some ((v1 - v3) - ((((O_stall s) (Int32.toNatClampNeg (((3 : Int32) * v5) + (1 : Int32)))) * v8) / (10 : Int32)))))))))

set_option maxHeartbeats 4000000 in
set_option maxRecDepth 100000 in
theorem c_X6_shortOf {l : Launch} {D : va_G} {tys : List (ClassId × FieldType)} {X : XT} {cs : CS} (ad : Nat → Nat) {F : Nat} {s : SO} {a1 : Int32} {r : Int32} (htyM : tys = tyA cs) (hf : f_X6_shortOf F s a1 = some r) : Ci l D tys X yX6_shortOf wsX6_shortOf rmX6_shortOf [.ref (ad 0), .int a1] (wO cs ad s) r (wO cs ad s) := by
  refine Ci_ofG (by decide +kernel) rfl (Nat.le_of_ble_eq_true rfl) .int rfl (vp_nar_int _) (fun E _ _ hty0 hX0 hr => ?_)
  have hty := hty0.trans htyM
  have hr : Ri E kX6_shortOf r (wO cs ad s) := hr
  show G E kX6_shortOf 0 0 0 [(0, .ref (ad 0)), (1, .int a1)] [] (wO cs ad s)
  unfold f_X6_shortOf at hf
  refine g_aload_n 0 dX6_shortOf_0 rfl rfl ?_
  refine g_iload_n 1 dX6_shortOf_1 rfl rfl ?_
  refine g_iconst (v := (3 : Int32)) dX6_shortOf_2 (by decide) ?_
  obtain ⟨v1, hc2, hf⟩ := obd_some hf
  refine g_callVi (ci := 6) (As := [.int a1, .int (3 : Int32)]) (rest := []) (w2 := (wO cs ad s)) 0 dX6_shortOf_3 vX6_shortOf_155 (c_X6_bag ad hty hc2) rfl (mid0 _) rfl rfl 0 wlaO_0 rfl (Nat.le_of_ble_eq_true rfl) ⟨Nat.zero_le _, Nat.zero_le _⟩ (mid2 _ _) ?_
  refine g_aload_n 0 dX6_shortOf_6 rfl rfl ?_
  refine g_iload_n 1 dX6_shortOf_7 rfl rfl ?_
  refine g_iconst (v := (4 : Int32)) dX6_shortOf_8 (by decide) ?_
  obtain ⟨v3, hc4, hf⟩ := obd_some hf
  refine g_callVi (ci := 6) (As := [.int a1, .int (4 : Int32)]) (rest := [.int v1]) (w2 := (wO cs ad s)) 0 dX6_shortOf_9 vX6_shortOf_155 (c_X6_bag ad hty hc4) rfl (mid0 _) rfl rfl 0 wlaO_0 rfl (Nat.le_of_ble_eq_true rfl) ⟨Nat.zero_le _, Nat.zero_le _⟩ (mid2 _ _) ?_
  refine g_isub dX6_shortOf_12 ?_
  refine g_aload_n 0 dX6_shortOf_13 rfl rfl ?_
  refine g_get (ci := 6) (T := TX6) (N := 29) 0 14 (.ref (ad 7)) dX6_shortOf_14 iX6_shortOf_X6 rfl jX6_shortOf_30 (by decide) wlaO_0 rfl ?_
  refine g_iconst (v := (3 : Int32)) dX6_shortOf_17 (by decide) ?_
  refine g_aload_n 0 dX6_shortOf_18 rfl rfl ?_
  refine g_iload_n 1 dX6_shortOf_19 rfl rfl ?_
  refine g_iconst (v := (0 : Int32)) dX6_shortOf_20 (by decide) ?_
  obtain ⟨v5, hc6, hf⟩ := obd_some hf
  refine g_callVi (ci := 6) (As := [.int a1, .int (0 : Int32)]) (rest := [.int (3 : Int32), .ref (ad 7), .int (v1 - v3)]) (w2 := (wO cs ad s)) 0 dX6_shortOf_21 vX6_shortOf_155 (c_X6_bag ad hty hc6) rfl (mid0 _) rfl rfl 0 wlaO_0 rfl (Nat.le_of_ble_eq_true rfl) ⟨Nat.zero_le _, Nat.zero_le _⟩ (mid2 _ _) ?_
  refine g_imul dX6_shortOf_24 ?_
  refine g_iconst (v := (1 : Int32)) dX6_shortOf_25 (by decide) ?_
  refine g_iadd dX6_shortOf_26 ?_
  obtain ⟨h7, hf⟩ := ochi_some hf
  refine g_iald 7 0 dX6_shortOf_27 wlaO_7 (tI hty) h7 ?_
  refine g_aload_n 0 dX6_shortOf_28 rfl rfl ?_
  refine g_iload_n 1 dX6_shortOf_29 rfl rfl ?_
  refine g_iconst (v := (5 : Int32)) dX6_shortOf_30 (by decide) ?_
  obtain ⟨v8, hc9, hf⟩ := obd_some hf
  refine g_callVi (ci := 6) (As := [.int a1, .int (5 : Int32)]) (rest := [.int ((O_stall s) (Int32.toNatClampNeg (((3 : Int32) * v5) + (1 : Int32)))), .int (v1 - v3)]) (w2 := (wO cs ad s)) 0 dX6_shortOf_31 vX6_shortOf_155 (c_X6_bag ad hty hc9) rfl (mid0 _) rfl rfl 0 wlaO_0 rfl (Nat.le_of_ble_eq_true rfl) ⟨Nat.zero_le _, Nat.zero_le _⟩ (mid2 _ _) ?_
  refine g_imul dX6_shortOf_34 ?_
  refine g_bipush (v := (10 : Int32)) dX6_shortOf_35 (by decide) ?_
  obtain ⟨h10, hf⟩ := ochk_some hf
  refine g_idiv dX6_shortOf_37 h10 ?_
  refine g_isub dX6_shortOf_38 ?_
  obtain rfl := Option.some.inj hf
  exact hr _ _ dX6_shortOf_39

-- ThumbScaleModel stepsOf (I)I
def rmX6_stepsOf : Room := { frames := 2, cells := 0, slots := 0, locals := 43 }
def kX6_stepsOf : MK := (cX6_stepsOf, 3, RX6, wsX6_stepsOf, (some .int), rmX6_stepsOf)

set_option maxRecDepth 20000 in
theorem jX6_stepsOf_30 : Cond.fieldLink RX6 30 (TX6 14).1 (TX6 14).2.1 (TX6 14).2.2.1 ∈ wsX6_stepsOf := by decide +kernel
set_option maxRecDepth 20000 in
theorem iX6_stepsOf_X6 : ∀ x ∈ u_ws RX6 TX6 29, x ∈ wsX6_stepsOf := by decide +kernel
set_option maxRecDepth 20000 in
theorem vX6_stepsOf_155 : KV kX6_stepsOf 155 RX6 yX6_bag wsX6_bag rmX6_bag 2 := ⟨_, _, _, _, gX6_stepsOf_X6_bag, rfl, rfl, rfl, by decide +kernel, ⟨by decide, by decide⟩⟩
set_option maxRecDepth 20000 in
theorem vX6_stepsOf_180 : KV kX6_stepsOf 180 RX6 yX6_shortOf wsX6_shortOf rmX6_shortOf 1 := ⟨_, _, _, _, gX6_stepsOf_X6_shortOf, rfl, rfl, rfl, by decide +kernel, ⟨by decide, by decide⟩⟩
set_option maxRecDepth 20000 in
theorem vX6_stepsOf_183 : KS kX6_stepsOf 183 yX6_floor wsX6_floor rmX6_floor 2 := ⟨_, _, _, _, gX6_stepsOf_X6_floor, rfl, rfl, rfl, by decide +kernel, ⟨by decide, by decide⟩⟩
def f_X6_stepsOf (F : Nat) (s : SO) (a1 : Int32) : Option Int32 :=
    obd (f_X6_bag F s a1 (0 : Int32)) (fun v1 =>
    ochi ((3 : Int32) * v1) 36 (
    olt ((O_stall s) (Int32.toNatClampNeg ((3 : Int32) * v1))) (fun z4 =>
    obd (f_X6_shortOf F s a1) (fun v5 =>
    obd (f_X6_floor F (((2 : Int32) * v5) + z4) ((2 : Int32) * z4)) (fun v7 =>
    some v7)))))

set_option maxHeartbeats 4000000 in
set_option maxRecDepth 100000 in
theorem c_X6_stepsOf {l : Launch} {D : va_G} {tys : List (ClassId × FieldType)} {X : XT} {cs : CS} (ad : Nat → Nat) {F : Nat} {s : SO} {a1 : Int32} {r : Int32} (htyM : tys = tyA cs) (hf : f_X6_stepsOf F s a1 = some r) : Ci l D tys X yX6_stepsOf wsX6_stepsOf rmX6_stepsOf [.ref (ad 0), .int a1] (wO cs ad s) r (wO cs ad s) := by
  refine Ci_ofG (by decide +kernel) rfl (Nat.le_of_ble_eq_true rfl) .int rfl (vp_nar_int _) (fun E _ _ hty0 hX0 hr => ?_)
  have hty := hty0.trans htyM
  have hr : Ri E kX6_stepsOf r (wO cs ad s) := hr
  show G E kX6_stepsOf 0 0 0 [(0, .ref (ad 0)), (1, .int a1)] [] (wO cs ad s)
  unfold f_X6_stepsOf at hf
  refine g_aload_n 0 dX6_stepsOf_0 rfl rfl ?_
  refine g_get (ci := 6) (T := TX6) (N := 29) 0 14 (.ref (ad 7)) dX6_stepsOf_1 iX6_stepsOf_X6 rfl jX6_stepsOf_30 (by decide) wlaO_0 rfl ?_
  refine g_iconst (v := (3 : Int32)) dX6_stepsOf_4 (by decide) ?_
  refine g_aload_n 0 dX6_stepsOf_5 rfl rfl ?_
  refine g_iload_n 1 dX6_stepsOf_6 rfl rfl ?_
  refine g_iconst (v := (0 : Int32)) dX6_stepsOf_7 (by decide) ?_
  obtain ⟨v1, hc2, hf⟩ := obd_some hf
  refine g_callVi (ci := 6) (As := [.int a1, .int (0 : Int32)]) (rest := [.int (3 : Int32), .ref (ad 7)]) (w2 := (wO cs ad s)) 0 dX6_stepsOf_8 vX6_stepsOf_155 (c_X6_bag ad hty hc2) rfl (mid0 _) rfl rfl 0 wlaO_0 rfl (Nat.le_of_ble_eq_true rfl) ⟨Nat.zero_le _, Nat.zero_le _⟩ (mid2 _ _) ?_
  refine g_imul dX6_stepsOf_11 ?_
  obtain ⟨h3, hf⟩ := ochi_some hf
  refine g_iald 7 0 dX6_stepsOf_12 wlaO_7 (tI hty) h3 ?_
  obtain ⟨z4, e_z4, hf⟩ := olt_some hf
  refine g_cast rfl rfl (congrArg (fun q => Value.int q :: []) e_z4) rfl ?_
  refine g_istore_n (lv2 := [(2, .int z4), (0, .ref (ad 0)), (1, .int a1)]) dX6_stepsOf_13 rfl (by decide) rfl ?_
  refine g_iconst (v := (2 : Int32)) dX6_stepsOf_14 (by decide) ?_
  refine g_aload_n 1 dX6_stepsOf_15 rfl rfl ?_
  refine g_iload_n 2 dX6_stepsOf_16 rfl rfl ?_
  obtain ⟨v5, hc6, hf⟩ := obd_some hf
  refine g_callVi (ci := 6) (As := [.int a1]) (rest := [.int (2 : Int32)]) (w2 := (wO cs ad s)) 0 dX6_stepsOf_17 vX6_stepsOf_180 (c_X6_shortOf ad hty hc6) rfl (mid0 _) rfl rfl 0 wlaO_0 rfl (Nat.le_of_ble_eq_true rfl) ⟨Nat.zero_le _, Nat.zero_le _⟩ (mid2 _ _) ?_
  refine g_imul dX6_stepsOf_20 ?_
  refine g_iload_n 0 dX6_stepsOf_21 rfl rfl ?_
  refine g_iadd dX6_stepsOf_22 ?_
  refine g_iconst (v := (2 : Int32)) dX6_stepsOf_23 (by decide) ?_
  refine g_iload_n 0 dX6_stepsOf_24 rfl rfl ?_
  refine g_imul dX6_stepsOf_25 ?_
  obtain ⟨v7, hc8, hf⟩ := obd_some hf
  refine g_callSi (As := [.int (((2 : Int32) * v5) + z4), .int ((2 : Int32) * z4)]) (rest := []) (w2 := (wO cs ad s)) 0 dX6_stepsOf_26 vX6_stepsOf_183 (c_X6_floor hty hc8) rfl (midm _) rfl (Nat.le_of_ble_eq_true rfl) ⟨Nat.zero_le _, Nat.zero_le _⟩ (midn _) ?_
  obtain rfl := Option.some.inj hf
  exact hr _ _ dX6_stepsOf_29

-- ThumbScaleModel isBag (I)Z
def rmX6_isBag : Room := { frames := 1, cells := 0, slots := 0, locals := 22 }
def kX6_isBag : MK := (cX6_isBag, 2, RX6, wsX6_isBag, (some .boolean), rmX6_isBag)

set_option maxRecDepth 20000 in
theorem jX6_isBag_7 : Cond.fieldLink RX6 7 (TX6 2).1 (TX6 2).2.1 (TX6 2).2.2.1 ∈ wsX6_isBag := by decide +kernel
set_option maxRecDepth 20000 in
theorem iX6_isBag_X6 : ∀ x ∈ u_ws RX6 TX6 29, x ∈ wsX6_isBag := by decide +kernel
set_option maxRecDepth 20000 in
theorem vX6_isBag_61 : KS kX6_isBag 61 yX6_in wsX6_in rmX6_in 3 := ⟨_, _, _, _, gX6_isBag_X6_in, rfl, rfl, rfl, by decide +kernel, ⟨by decide, by decide⟩⟩
def f_X6_isBag (F : Nat) (s : SO) (a1 : Int32) : Option Int32 :=
    ochi (0 : Int32) 264 (
    obd (f_X6_in F a1 (0 : Int32) (((O_s s) (Int32.toNatClampNeg (0 : Int32))) - (1 : Int32))) (fun v2 =>
    ochk (v2 = 0 ∨ v2 = 1) (some v2)))

set_option maxHeartbeats 4000000 in
set_option maxRecDepth 100000 in
theorem c_X6_isBag {l : Launch} {D : va_G} {tys : List (ClassId × FieldType)} {X : XT} {cs : CS} (ad : Nat → Nat) {F : Nat} {s : SO} {a1 : Int32} {r : Int32} (htyM : tys = tyA cs) (hf : f_X6_isBag F s a1 = some r) : Ci l D tys X yX6_isBag wsX6_isBag rmX6_isBag [.ref (ad 0), .int a1] (wO cs ad s) r (wO cs ad s) := by
  refine Cz_ofG (by decide +kernel) rfl (Nat.le_of_ble_eq_true rfl) (fun E _ _ hty0 hX0 hr => ?_)
  have hty := hty0.trans htyM
  have hr : Rz E kX6_isBag r (wO cs ad s) := hr
  show G E kX6_isBag 0 0 0 [(0, .ref (ad 0)), (1, .int a1)] [] (wO cs ad s)
  unfold f_X6_isBag at hf
  refine g_iload_n 1 dX6_isBag_0 rfl rfl ?_
  refine g_iconst (v := (0 : Int32)) dX6_isBag_1 (by decide) ?_
  refine g_aload_n 0 dX6_isBag_2 rfl rfl ?_
  refine g_get (ci := 6) (T := TX6) (N := 29) 0 2 (.ref (ad 1)) dX6_isBag_3 iX6_isBag_X6 rfl jX6_isBag_7 (by decide) wlaO_0 rfl ?_
  refine g_iconst (v := (0 : Int32)) dX6_isBag_6 (by decide) ?_
  obtain ⟨h1, hf⟩ := ochi_some hf
  refine g_iald 1 0 dX6_isBag_7 wlaO_1 (tI hty) h1 ?_
  refine g_iconst (v := (1 : Int32)) dX6_isBag_8 (by decide) ?_
  refine g_isub dX6_isBag_9 ?_
  obtain ⟨v2, hc3, hf⟩ := obd_some hf
  refine g_callSi (As := [.int a1, .int (0 : Int32), .int (((O_s s) (Int32.toNatClampNeg (0 : Int32))) - (1 : Int32))]) (rest := []) (w2 := (wO cs ad s)) 0 dX6_isBag_10 vX6_isBag_61 (c_X6_in hty hc3) rfl (midm _) rfl (Nat.le_of_ble_eq_true rfl) ⟨Nat.zero_le _, Nat.zero_le _⟩ (midn _) ?_
  obtain ⟨h4, hf⟩ := ochk_some hf
  obtain rfl := Option.some.inj hf
  exact hr _ _ dX6_isBag_13 h4

-- ThumbScaleModel isLook (IIII)Z
def rmX6_isLook : Room := { frames := 2, cells := 0, slots := 0, locals := 43 }
def kX6_isLook : MK := (cX6_isLook, 5, RX6, wsX6_isLook, (some .boolean), rmX6_isLook)

set_option maxRecDepth 20000 in
theorem vX6_isLook_61 : KS kX6_isLook 61 yX6_in wsX6_in rmX6_in 3 := ⟨_, _, _, _, gX6_isLook_X6_in, rfl, rfl, rfl, by decide +kernel, ⟨by decide, by decide⟩⟩
set_option maxRecDepth 20000 in
theorem vX6_isLook_158 : KV kX6_isLook 158 RX6 yX6_isStall wsX6_isStall rmX6_isStall 1 := ⟨_, _, _, _, gX6_isLook_X6_isStall, rfl, rfl, rfl, by decide +kernel, ⟨by decide, by decide⟩⟩
def f_X6_isLook (F : Nat) (s : SO) (a1 : Int32) (a2 : Int32) (a3 : Int32) (a4 : Int32) : Option Int32 :=
    olt (obd (f_X6_in F a2 (0 : Int32) (11 : Int32)) (fun v1 =>
    (if v1 = 0 then
    some (0 : Int32)
    else
    obd (f_X6_in F a3 (0 : Int32) (11 : Int32)) (fun v4 =>
    (if v4 = 0 then
    some (0 : Int32)
    else
    obd (f_X6_in F a4 (0 : Int32) (15 : Int32)) (fun v7 =>
    (if v7 = 0 then
    some (0 : Int32)
    else
    some (1 : Int32)))))))) (fun k10 =>
    (if a1 = (-1 : Int32) then
    k10
    else
    obd (f_X6_isStall F s a1) (fun v12 =>
    (if v12 = 0 then
    some (0 : Int32)
    else
    k10))))

set_option maxHeartbeats 4000000 in
set_option maxRecDepth 100000 in
theorem c_X6_isLook {l : Launch} {D : va_G} {tys : List (ClassId × FieldType)} {X : XT} {cs : CS} (ad : Nat → Nat) {F : Nat} {s : SO} {a1 : Int32} {a2 : Int32} {a3 : Int32} {a4 : Int32} {r : Int32} (htyM : tys = tyA cs) (hf : f_X6_isLook F s a1 a2 a3 a4 = some r) : Ci l D tys X yX6_isLook wsX6_isLook rmX6_isLook [.ref (ad 0), .int a1, .int a2, .int a3, .int a4] (wO cs ad s) r (wO cs ad s) := by
  refine Cz_ofG (by decide +kernel) rfl (Nat.le_of_ble_eq_true rfl) (fun E _ _ hty0 hX0 hr => ?_)
  have hty := hty0.trans htyM
  have hr : Rz E kX6_isLook r (wO cs ad s) := hr
  show G E kX6_isLook 0 0 0 [(0, .ref (ad 0)), (1, .int a1), (2, .int a2), (3, .int a3), (4, .int a4)] [] (wO cs ad s)
  unfold f_X6_isLook at hf
  refine g_iload_n 1 dX6_isLook_0 rfl rfl ?_
  refine g_iconst (v := (-1 : Int32)) dX6_isLook_1 (by decide) ?_
  obtain ⟨k10, e_k10, hf⟩ := olt_some hf
  have K_k10 : k10 = some r → G E kX6_isLook 0 0 13 [(2, .int a2), (3, .int a3), (4, .int a4)] [] (wO cs ad s) := by
    intro hf
    rw [← e_k10] at hf
    refine g_iload_n 0 dX6_isLook_13 rfl rfl ?_
    refine g_iconst (v := (0 : Int32)) dX6_isLook_14 (by decide) ?_
    refine g_bipush (v := (11 : Int32)) dX6_isLook_15 (by decide) ?_
    obtain ⟨v1, hc2, hf⟩ := obd_some hf
    refine g_callSi (As := [.int a2, .int (0 : Int32), .int (11 : Int32)]) (rest := []) (w2 := (wO cs ad s)) 0 dX6_isLook_17 vX6_isLook_61 (c_X6_in hty hc2) rfl (midm _) rfl (Nat.le_of_ble_eq_true rfl) ⟨Nat.zero_le _, Nat.zero_le _⟩ (midn _) ?_
    refine g_if_eq (tgt := 48) dX6_isLook_20 (by decide) (fun h3 => ?_) (fun h3 => ?_)
    · have hf := ift h3 hf
      refine g_iconst (v := (0 : Int32)) dX6_isLook_48 (by decide) ?_
      obtain rfl := Option.some.inj hf
      exact hr _ _ dX6_isLook_49 (Or.inl rfl)
    · have hf := iff_ h3 hf
      refine g_iload_n 1 dX6_isLook_23 rfl rfl ?_
      refine g_iconst (v := (0 : Int32)) dX6_isLook_24 (by decide) ?_
      refine g_bipush (v := (11 : Int32)) dX6_isLook_25 (by decide) ?_
      obtain ⟨v4, hc5, hf⟩ := obd_some hf
      refine g_callSi (As := [.int a3, .int (0 : Int32), .int (11 : Int32)]) (rest := []) (w2 := (wO cs ad s)) 0 dX6_isLook_27 vX6_isLook_61 (c_X6_in hty hc5) rfl (midm _) rfl (Nat.le_of_ble_eq_true rfl) ⟨Nat.zero_le _, Nat.zero_le _⟩ (midn _) ?_
      refine g_if_eq (tgt := 48) dX6_isLook_30 (by decide) (fun h6 => ?_) (fun h6 => ?_)
      · have hf := ift h6 hf
        refine g_iconst (v := (0 : Int32)) dX6_isLook_48 (by decide) ?_
        obtain rfl := Option.some.inj hf
        exact hr _ _ dX6_isLook_49 (Or.inl rfl)
      · have hf := iff_ h6 hf
        refine g_iload 2 dX6_isLook_33 rfl ?_
        refine g_iconst (v := (0 : Int32)) dX6_isLook_35 (by decide) ?_
        refine g_bipush (v := (15 : Int32)) dX6_isLook_36 (by decide) ?_
        obtain ⟨v7, hc8, hf⟩ := obd_some hf
        refine g_callSi (As := [.int a4, .int (0 : Int32), .int (15 : Int32)]) (rest := []) (w2 := (wO cs ad s)) 0 dX6_isLook_38 vX6_isLook_61 (c_X6_in hty hc8) rfl (midm _) rfl (Nat.le_of_ble_eq_true rfl) ⟨Nat.zero_le _, Nat.zero_le _⟩ (midn _) ?_
        refine g_if_eq (tgt := 48) dX6_isLook_41 (by decide) (fun h9 => ?_) (fun h9 => ?_)
        · have hf := ift h9 hf
          refine g_iconst (v := (0 : Int32)) dX6_isLook_48 (by decide) ?_
          obtain rfl := Option.some.inj hf
          exact hr _ _ dX6_isLook_49 (Or.inl rfl)
        · have hf := iff_ h9 hf
          refine g_iconst (v := (1 : Int32)) dX6_isLook_44 (by decide) ?_
          refine g_goto (tgt := 49) dX6_isLook_45 (by decide) ?_
          obtain rfl := Option.some.inj hf
          exact hr _ _ dX6_isLook_49 (Or.inr rfl)
  refine g_icmp_eq (tgt := 13) dX6_isLook_2 (by decide) (fun h11 => ?_) (fun h11 => ?_)
  · have hf := ift h11 hf
    exact g_sub [2, 3, 4] rfl (K_k10 hf)
  · have hf := iff_ h11 hf
    refine g_aload_n 0 dX6_isLook_5 rfl rfl ?_
    refine g_iload_n 1 dX6_isLook_6 rfl rfl ?_
    obtain ⟨v12, hc13, hf⟩ := obd_some hf
    refine g_callVi (ci := 6) (As := [.int a1]) (rest := []) (w2 := (wO cs ad s)) 0 dX6_isLook_7 vX6_isLook_158 (c_X6_isStall ad hty hc13) rfl (mid0 _) rfl rfl 0 wlaO_0 rfl (Nat.le_of_ble_eq_true rfl) ⟨Nat.zero_le _, Nat.zero_le _⟩ (mid2 _ _) ?_
    refine g_if_eq (tgt := 48) dX6_isLook_10 (by decide) (fun h14 => ?_) (fun h14 => ?_)
    · have hf := ift h14 hf
      refine g_iconst (v := (0 : Int32)) dX6_isLook_48 (by decide) ?_
      obtain rfl := Option.some.inj hf
      exact hr _ _ dX6_isLook_49 (Or.inl rfl)
    · have hf := iff_ h14 hf
      exact g_sub [2, 3, 4] rfl (K_k10 hf)

-- ThumbScaleModel looked (IIIIIZ)I
def rmX6_looked : Room := { frames := 3, cells := 0, slots := 0, locals := 65 }
def kX6_looked : MK := (cX6_looked, 10, RX6, wsX6_looked, (some .int), rmX6_looked)

set_option maxRecDepth 20000 in
theorem jX6_looked_7 : Cond.fieldLink RX6 7 (TX6 2).1 (TX6 2).2.1 (TX6 2).2.2.1 ∈ wsX6_looked := by decide +kernel
set_option maxRecDepth 20000 in
theorem iX6_looked_X6 : ∀ x ∈ u_ws RX6 TX6 29, x ∈ wsX6_looked := by decide +kernel
set_option maxRecDepth 20000 in
theorem vX6_looked_155 : KV kX6_looked 155 RX6 yX6_bag wsX6_bag rmX6_bag 2 := ⟨_, _, _, _, gX6_looked_X6_bag, rfl, rfl, rfl, by decide +kernel, ⟨by decide, by decide⟩⟩
set_option maxRecDepth 20000 in
theorem vX6_looked_61 : KS kX6_looked 61 yX6_in wsX6_in rmX6_in 3 := ⟨_, _, _, _, gX6_looked_X6_in, rfl, rfl, rfl, by decide +kernel, ⟨by decide, by decide⟩⟩
set_option maxRecDepth 20000 in
theorem vX6_looked_191 : KV kX6_looked 191 RX6 yX6_stepsOf wsX6_stepsOf rmX6_stepsOf 1 := ⟨_, _, _, _, gX6_looked_X6_stepsOf, rfl, rfl, rfl, by decide +kernel, ⟨by decide, by decide⟩⟩
def f_X6_looked_L6 (F : Nat) (s : SO) (a1 : Int32) (a2 : Int32) (a3 : Int32) (a4 : Int32) (a5 : Int32) (a6 : Int32) : Nat → Int32 → Int32 → Option Int32
  | 0, _, _ => none
  | n + 1, x1, x2 =>
    ochi (0 : Int32) 264 (
    (if ((O_s s) (Int32.toNatClampNeg (0 : Int32))) ≤ x2 then
    some x1
    else
    obd (olt (obd (f_X6_bag F s x2 (1 : Int32)) (fun v19 =>
    obd (f_X6_in F v19 a2 a3) (fun v21 =>
    (if v21 = 0 then
    some (0 : Int32)
    else
    obd (f_X6_bag F s x2 (2 : Int32)) (fun v24 =>
    (if ((a4 >>> (v24 &&& 31)) &&& (1 : Int32)) = (1 : Int32) then
    some (1 : Int32)
    else
    some (0 : Int32))))))) (fun k27 =>
    (if a1 = (-1 : Int32) then
    k27
    else
    obd (f_X6_bag F s x2 (0 : Int32)) (fun v29 =>
    (if v29 = a1 then
    k27
    else
    some (0 : Int32)))))) (fun v18 =>
    (if v18 = 0 then
    f_X6_looked_L6 F s a1 a2 a3 a4 a5 a6 n (x1 + (0 : Int32)) (x2 + 1)
    else
    (if a6 = 0 then
    f_X6_looked_L6 F s a1 a2 a3 a4 a5 a6 n (x1 + (1 : Int32)) (x2 + 1)
    else
    obd (f_X6_stepsOf F s x2) (fun v34 =>
    (if v34 < a5 then
    f_X6_looked_L6 F s a1 a2 a3 a4 a5 a6 n (x1 + (0 : Int32)) (x2 + 1)
    else
    f_X6_looked_L6 F s a1 a2 a3 a4 a5 a6 n (x1 + (1 : Int32)) (x2 + 1))))))))

def f_X6_looked (F : Nat) (s : SO) (a1 : Int32) (a2 : Int32) (a3 : Int32) (a4 : Int32) (a5 : Int32) (a6 : Int32) : Option Int32 :=
    f_X6_looked_L6 F s a1 a2 a3 a4 a5 a6 F (0 : Int32) (0 : Int32)

set_option maxHeartbeats 4000000 in
set_option maxRecDepth 100000 in
theorem w_X6_looked_L6 {E : GE} {cs : CS} {ad : Nat → Nat} {F : Nat} {s : SO} {a1 : Int32} {a2 : Int32} {a3 : Int32} {a4 : Int32} {a5 : Int32} {a6 : Int32} {r : Int32} (hty : eT E = tyA cs) (hr : Ri E kX6_looked r (wO cs ad s)) : ∀ (n : Nat) (x1 : Int32) (x2 : Int32), f_X6_looked_L6 F s a1 a2 a3 a4 a5 a6 n x1 x2 = some r → G E kX6_looked 0 0 6 [(0, .ref (ad 0)), (1, .int a1), (2, .int a2), (3, .int a3), (4, .int a4), (5, .int a5), (6, .int a6), (7, .int x1), (8, .int x2)] [] (wO cs ad s) := by
  intro n
  induction n with
  | zero =>
    intro x1 x2 hf
    cases (show (none : Option Int32) = some r from hf)
  | succ n ih =>
    intro x1 x2 hf
    rw [f_X6_looked_L6] at hf
    refine g_iload 8 dX6_looked_6 rfl ?_
    refine g_aload_n 0 dX6_looked_8 rfl rfl ?_
    refine g_get (ci := 6) (T := TX6) (N := 29) 0 2 (.ref (ad 1)) dX6_looked_9 iX6_looked_X6 rfl jX6_looked_7 (by decide) wlaO_0 rfl ?_
    refine g_iconst (v := (0 : Int32)) dX6_looked_12 (by decide) ?_
    obtain ⟨h3, hf⟩ := ochi_some hf
    refine g_iald 1 0 dX6_looked_13 wlaO_1 (tI hty) h3 ?_
    refine g_icmp_ge (tgt := 108) dX6_looked_14 (by decide) (fun h4 => ?_) (fun h4 => ?_)
    · have hf := ift h4 hf
      refine g_iload 7 dX6_looked_108 rfl ?_
      obtain rfl := Option.some.inj hf
      exact hr _ _ dX6_looked_110
    · have hf := iff_ h4 hf
      refine g_iload_n 1 dX6_looked_17 rfl rfl ?_
      refine g_iconst (v := (-1 : Int32)) dX6_looked_18 (by decide) ?_
      obtain ⟨v18, hE_v18, hf⟩ := obd_some hf
      have J_v18 : G E kX6_looked 0 0 69 [(0, .ref (ad 0)), (1, .int a1), (2, .int a2), (3, .int a3), (4, .int a4), (5, .int a5), (6, .int a6), (7, .int x1), (8, .int x2)] [.int v18] (wO cs ad s) := by
        refine g_istore (lv2 := [(9, .int v18), (0, .ref (ad 0)), (1, .int a1), (2, .int a2), (3, .int a3), (4, .int a4), (5, .int a5), (6, .int a6), (7, .int x1), (8, .int x2)]) dX6_looked_69 (by decide) rfl ?_
        refine g_iload 8 dX6_looked_71 rfl ?_
        refine g_iload 0 dX6_looked_73 rfl ?_
        refine g_if_eq (tgt := 98) dX6_looked_75 (by decide) (fun h32 => ?_) (fun h32 => ?_)
        · have hf := ift h32 hf
          refine g_iconst (v := (0 : Int32)) dX6_looked_98 (by decide) ?_
          refine g_iadd dX6_looked_99 ?_
          refine g_istore (lv2 := [(7, .int (x1 + (0 : Int32))), (9, .int v18), (0, .ref (ad 0)), (1, .int a1), (2, .int a2), (3, .int a3), (4, .int a4), (5, .int a5), (6, .int a6), (8, .int x2)]) dX6_looked_100 (by decide) rfl ?_
          refine g_iinc (lv2 := [(8, .int (x2 + 1)), (7, .int (x1 + (0 : Int32))), (9, .int v18), (0, .ref (ad 0)), (1, .int a1), (2, .int a2), (3, .int a3), (4, .int a4), (5, .int a5), (6, .int a6)]) 9 dX6_looked_102 rfl (ii1 _) (by decide) rfl ?_
          refine g_goto (tgt := 6) dX6_looked_105 (by decide) ?_
          exact g_sub [3, 4, 5, 6, 7, 8, 9, 1, 0] rfl (ih (x1 + (0 : Int32)) (x2 + 1) hf)
        · have hf := iff_ h32 hf
          refine g_iload 7 dX6_looked_78 rfl ?_
          refine g_if_eq (tgt := 94) dX6_looked_80 (by decide) (fun h33 => ?_) (fun h33 => ?_)
          · have hf := ift h33 hf
            refine g_iconst (v := (1 : Int32)) dX6_looked_94 (by decide) ?_
            refine g_goto (tgt := 99) dX6_looked_95 (by decide) ?_
            refine g_iadd dX6_looked_99 ?_
            refine g_istore (lv2 := [(7, .int (x1 + (1 : Int32))), (9, .int v18), (0, .ref (ad 0)), (1, .int a1), (2, .int a2), (3, .int a3), (4, .int a4), (5, .int a5), (6, .int a6), (8, .int x2)]) dX6_looked_100 (by decide) rfl ?_
            refine g_iinc (lv2 := [(8, .int (x2 + 1)), (7, .int (x1 + (1 : Int32))), (9, .int v18), (0, .ref (ad 0)), (1, .int a1), (2, .int a2), (3, .int a3), (4, .int a4), (5, .int a5), (6, .int a6)]) 9 dX6_looked_102 rfl (ii1 _) (by decide) rfl ?_
            refine g_goto (tgt := 6) dX6_looked_105 (by decide) ?_
            exact g_sub [3, 4, 5, 6, 7, 8, 9, 1, 0] rfl (ih (x1 + (1 : Int32)) (x2 + 1) hf)
          · have hf := iff_ h33 hf
            refine g_aload_n 1 dX6_looked_83 rfl rfl ?_
            refine g_iload 9 dX6_looked_84 rfl ?_
            obtain ⟨v34, hc35, hf⟩ := obd_some hf
            refine g_callVi (ci := 6) (As := [.int x2]) (rest := [.int x1]) (w2 := (wO cs ad s)) 0 dX6_looked_86 vX6_looked_191 (c_X6_stepsOf ad hty hc35) rfl (mid0 _) rfl rfl 0 wlaO_0 rfl (Nat.le_of_ble_eq_true rfl) ⟨Nat.zero_le _, Nat.zero_le _⟩ (mid2 _ _) ?_
            refine g_iload 6 dX6_looked_89 rfl ?_
            refine g_icmp_lt (tgt := 98) dX6_looked_91 (by decide) (fun h36 => ?_) (fun h36 => ?_)
            · have hf := ift h36 hf
              refine g_iconst (v := (0 : Int32)) dX6_looked_98 (by decide) ?_
              refine g_iadd dX6_looked_99 ?_
              refine g_istore (lv2 := [(7, .int (x1 + (0 : Int32))), (9, .int v18), (0, .ref (ad 0)), (1, .int a1), (2, .int a2), (3, .int a3), (4, .int a4), (5, .int a5), (6, .int a6), (8, .int x2)]) dX6_looked_100 (by decide) rfl ?_
              refine g_iinc (lv2 := [(8, .int (x2 + 1)), (7, .int (x1 + (0 : Int32))), (9, .int v18), (0, .ref (ad 0)), (1, .int a1), (2, .int a2), (3, .int a3), (4, .int a4), (5, .int a5), (6, .int a6)]) 9 dX6_looked_102 rfl (ii1 _) (by decide) rfl ?_
              refine g_goto (tgt := 6) dX6_looked_105 (by decide) ?_
              exact g_sub [3, 4, 5, 6, 7, 8, 9, 1, 0] rfl (ih (x1 + (0 : Int32)) (x2 + 1) hf)
            · have hf := iff_ h36 hf
              refine g_iconst (v := (1 : Int32)) dX6_looked_94 (by decide) ?_
              refine g_goto (tgt := 99) dX6_looked_95 (by decide) ?_
              refine g_iadd dX6_looked_99 ?_
              refine g_istore (lv2 := [(7, .int (x1 + (1 : Int32))), (9, .int v18), (0, .ref (ad 0)), (1, .int a1), (2, .int a2), (3, .int a3), (4, .int a4), (5, .int a5), (6, .int a6), (8, .int x2)]) dX6_looked_100 (by decide) rfl ?_
              refine g_iinc (lv2 := [(8, .int (x2 + 1)), (7, .int (x1 + (1 : Int32))), (9, .int v18), (0, .ref (ad 0)), (1, .int a1), (2, .int a2), (3, .int a3), (4, .int a4), (5, .int a5), (6, .int a6)]) 9 dX6_looked_102 rfl (ii1 _) (by decide) rfl ?_
              refine g_goto (tgt := 6) dX6_looked_105 (by decide) ?_
              exact g_sub [3, 4, 5, 6, 7, 8, 9, 1, 0] rfl (ih (x1 + (1 : Int32)) (x2 + 1) hf)
      have hf := hE_v18
      obtain ⟨k27, e_k27, hf⟩ := olt_some hf
      have K_k27 : k27 = some v18 → G E kX6_looked 0 0 33 [(0, .ref (ad 0)), (1, .int a1), (2, .int a2), (3, .int a3), (4, .int a4), (5, .int a5), (6, .int a6), (7, .int x1), (8, .int x2)] [] (wO cs ad s) := by
        intro hf
        rw [← e_k27] at hf
        refine g_aload_n 0 dX6_looked_33 rfl rfl ?_
        refine g_iload 8 dX6_looked_34 rfl ?_
        refine g_iconst (v := (1 : Int32)) dX6_looked_36 (by decide) ?_
        obtain ⟨v19, hc20, hf⟩ := obd_some hf
        refine g_callVi (ci := 6) (As := [.int x2, .int (1 : Int32)]) (rest := []) (w2 := (wO cs ad s)) 0 dX6_looked_37 vX6_looked_155 (c_X6_bag ad hty hc20) rfl (mid0 _) rfl rfl 0 wlaO_0 rfl (Nat.le_of_ble_eq_true rfl) ⟨Nat.zero_le _, Nat.zero_le _⟩ (mid2 _ _) ?_
        refine g_iload_n 2 dX6_looked_40 rfl rfl ?_
        refine g_iload_n 3 dX6_looked_41 rfl rfl ?_
        obtain ⟨v21, hc22, hf⟩ := obd_some hf
        refine g_callSi (As := [.int v19, .int a2, .int a3]) (rest := []) (w2 := (wO cs ad s)) 0 dX6_looked_42 vX6_looked_61 (c_X6_in hty hc22) rfl (midm _) rfl (Nat.le_of_ble_eq_true rfl) ⟨Nat.zero_le _, Nat.zero_le _⟩ (midn _) ?_
        refine g_if_eq (tgt := 68) dX6_looked_45 (by decide) (fun h23 => ?_) (fun h23 => ?_)
        · have hf := ift h23 hf
          refine g_iconst (v := (0 : Int32)) dX6_looked_68 (by decide) ?_
          obtain rfl := Option.some.inj hf
          exact g_sub [0, 1, 2, 3, 4, 5, 6, 7, 8] rfl J_v18
        · have hf := iff_ h23 hf
          refine g_iload 4 dX6_looked_48 rfl ?_
          refine g_aload_n 0 dX6_looked_50 rfl rfl ?_
          refine g_iload 8 dX6_looked_51 rfl ?_
          refine g_iconst (v := (2 : Int32)) dX6_looked_53 (by decide) ?_
          obtain ⟨v24, hc25, hf⟩ := obd_some hf
          refine g_callVi (ci := 6) (As := [.int x2, .int (2 : Int32)]) (rest := [.int a4]) (w2 := (wO cs ad s)) 0 dX6_looked_54 vX6_looked_155 (c_X6_bag ad hty hc25) rfl (mid0 _) rfl rfl 0 wlaO_0 rfl (Nat.le_of_ble_eq_true rfl) ⟨Nat.zero_le _, Nat.zero_le _⟩ (mid2 _ _) ?_
          refine g_ishr dX6_looked_57 ?_
          refine g_iconst (v := (1 : Int32)) dX6_looked_58 (by decide) ?_
          refine g_iand dX6_looked_59 ?_
          refine g_iconst (v := (1 : Int32)) dX6_looked_60 (by decide) ?_
          refine g_icmp_ne (tgt := 68) dX6_looked_61 (by decide) (fun h26 => ?_) (fun h26 => ?_)
          · have hf := iff_ h26 hf
            refine g_iconst (v := (0 : Int32)) dX6_looked_68 (by decide) ?_
            obtain rfl := Option.some.inj hf
            exact g_sub [0, 1, 2, 3, 4, 5, 6, 7, 8] rfl J_v18
          · have hf := ift h26 hf
            refine g_iconst (v := (1 : Int32)) dX6_looked_64 (by decide) ?_
            refine g_goto (tgt := 69) dX6_looked_65 (by decide) ?_
            obtain rfl := Option.some.inj hf
            exact g_sub [0, 1, 2, 3, 4, 5, 6, 7, 8] rfl J_v18
      refine g_icmp_eq (tgt := 33) dX6_looked_19 (by decide) (fun h28 => ?_) (fun h28 => ?_)
      · have hf := ift h28 hf
        exact g_sub [0, 1, 2, 3, 4, 5, 6, 7, 8] rfl (K_k27 hf)
      · have hf := iff_ h28 hf
        refine g_aload_n 0 dX6_looked_22 rfl rfl ?_
        refine g_iload 8 dX6_looked_23 rfl ?_
        refine g_iconst (v := (0 : Int32)) dX6_looked_25 (by decide) ?_
        obtain ⟨v29, hc30, hf⟩ := obd_some hf
        refine g_callVi (ci := 6) (As := [.int x2, .int (0 : Int32)]) (rest := []) (w2 := (wO cs ad s)) 0 dX6_looked_26 vX6_looked_155 (c_X6_bag ad hty hc30) rfl (mid0 _) rfl rfl 0 wlaO_0 rfl (Nat.le_of_ble_eq_true rfl) ⟨Nat.zero_le _, Nat.zero_le _⟩ (mid2 _ _) ?_
        refine g_iload_n 1 dX6_looked_29 rfl rfl ?_
        refine g_icmp_ne (tgt := 68) dX6_looked_30 (by decide) (fun h31 => ?_) (fun h31 => ?_)
        · have hf := iff_ h31 hf
          refine g_iconst (v := (0 : Int32)) dX6_looked_68 (by decide) ?_
          obtain rfl := Option.some.inj hf
          exact g_sub [0, 1, 2, 3, 4, 5, 6, 7, 8] rfl J_v18
        · have hf := ift h31 hf
          exact g_sub [0, 1, 2, 3, 4, 5, 6, 7, 8] rfl (K_k27 hf)

set_option maxHeartbeats 4000000 in
set_option maxRecDepth 100000 in
theorem c_X6_looked {l : Launch} {D : va_G} {tys : List (ClassId × FieldType)} {X : XT} {cs : CS} (ad : Nat → Nat) {F : Nat} {s : SO} {a1 : Int32} {a2 : Int32} {a3 : Int32} {a4 : Int32} {a5 : Int32} {a6 : Int32} {r : Int32} (htyM : tys = tyA cs) (hf : f_X6_looked F s a1 a2 a3 a4 a5 a6 = some r) : Ci l D tys X yX6_looked wsX6_looked rmX6_looked [.ref (ad 0), .int a1, .int a2, .int a3, .int a4, .int a5, .int a6] (wO cs ad s) r (wO cs ad s) := by
  refine Ci_ofG (by decide +kernel) rfl (Nat.le_of_ble_eq_true rfl) .int rfl (vp_nar_int _) (fun E _ _ hty0 hX0 hr => ?_)
  have hty := hty0.trans htyM
  have hr : Ri E kX6_looked r (wO cs ad s) := hr
  show G E kX6_looked 0 0 0 [(0, .ref (ad 0)), (1, .int a1), (2, .int a2), (3, .int a3), (4, .int a4), (5, .int a5), (6, .int a6)] [] (wO cs ad s)
  unfold f_X6_looked at hf
  refine g_iconst (v := (0 : Int32)) dX6_looked_0 (by decide) ?_
  refine g_istore (lv2 := [(7, .int (0 : Int32)), (0, .ref (ad 0)), (1, .int a1), (2, .int a2), (3, .int a3), (4, .int a4), (5, .int a5), (6, .int a6)]) dX6_looked_1 (by decide) rfl ?_
  refine g_iconst (v := (0 : Int32)) dX6_looked_3 (by decide) ?_
  refine g_istore (lv2 := [(8, .int (0 : Int32)), (7, .int (0 : Int32)), (0, .ref (ad 0)), (1, .int a1), (2, .int a2), (3, .int a3), (4, .int a4), (5, .int a5), (6, .int a6)]) dX6_looked_4 (by decide) rfl ?_
  exact g_sub [2, 3, 4, 5, 6, 7, 8, 1, 0] rfl (w_X6_looked_L6 hty hr F (0 : Int32) (0 : Int32) hf)

-- ThumbScaleModel rows (III)J
def rmX6_rows : Room := { frames := 1, cells := 0, slots := 0, locals := 25 }
def kX6_rows : MK := (cX6_rows, 7, RX6, wsX6_rows, (some .long), rmX6_rows)

set_option maxRecDepth 20000 in
theorem jX6_rows_42 : Cond.fieldLink RX6 42 (TX6 22).1 (TX6 22).2.1 (TX6 22).2.2.1 ∈ wsX6_rows := by decide +kernel
set_option maxRecDepth 20000 in
theorem iX6_rows_X6 : ∀ x ∈ u_ws RX6 TX6 29, x ∈ wsX6_rows := by decide +kernel
set_option maxRecDepth 20000 in
theorem vX6_rows_202 : KS kX6_rows 202 yX6_power wsX6_power rmX6_power 2 := ⟨_, _, _, _, gX6_rows_X6_power, rfl, rfl, rfl, by decide +kernel, ⟨by decide, by decide⟩⟩
def f_X6_rows_L6 (F : Nat) (s : SO) (a1 : Int32) (a2 : Int32) (a3 : Int32) : Nat → Int64 → Int32 → Option Int64
  | 0, _, _ => none
  | n + 1, x1, x2 =>
    (if a1 < x2 then
    some x1
    else
    ochi (((20 : Int32) * a1) + x2) 400 (
    obd (f_X6_power F (Int32.toInt64 a3) x2) (fun v5 =>
    obd (f_X6_power F (Int32.toInt64 ((10 : Int32) - a3)) (a1 - x2)) (fun v7 =>
    olt (x1 + ((((O_triangle s) (Int32.toNatClampNeg (((20 : Int32) * a1) + x2))) * v5) * v7)) (fun z9 =>
    f_X6_rows_L6 F s a1 a2 a3 n z9 (x2 + 1))))))

def f_X6_rows (F : Nat) (s : SO) (a1 : Int32) (a2 : Int32) (a3 : Int32) : Option Int64 :=
    f_X6_rows_L6 F s a1 a2 a3 F (0 : Int64) a2

set_option maxHeartbeats 4000000 in
set_option maxRecDepth 100000 in
theorem w_X6_rows_L6 {E : GE} {cs : CS} {ad : Nat → Nat} {F : Nat} {s : SO} {a1 : Int32} {a2 : Int32} {a3 : Int32} {r : Int64} (hty : eT E = tyA cs) (hr : Rl E kX6_rows r (wO cs ad s)) : ∀ (n : Nat) (x1 : Int64) (x2 : Int32), f_X6_rows_L6 F s a1 a2 a3 n x1 x2 = some r → G E kX6_rows 0 0 6 [(0, .ref (ad 0)), (1, .int a1), (3, .int a3), (4, .long x1), (6, .int x2)] [] (wO cs ad s) := by
  intro n
  induction n with
  | zero =>
    intro x1 x2 hf
    cases (show (none : Option Int64) = some r from hf)
  | succ n ih =>
    intro x1 x2 hf
    rw [f_X6_rows_L6] at hf
    refine g_iload 4 dX6_rows_6 rfl ?_
    refine g_iload_n 1 dX6_rows_8 rfl rfl ?_
    refine g_icmp_gt (tgt := 56) dX6_rows_9 (by decide) (fun h3 => ?_) (fun h3 => ?_)
    · have hf := ift h3 hf
      refine g_lload 3 dX6_rows_56 rfl ?_
      obtain rfl := Option.some.inj hf
      exact hr _ _ dX6_rows_58
    · have hf := iff_ h3 hf
      refine g_lload 3 dX6_rows_12 rfl ?_
      refine g_aload_n 0 dX6_rows_14 rfl rfl ?_
      refine g_get (ci := 6) (T := TX6) (N := 29) 0 22 (.ref (ad 11)) dX6_rows_15 iX6_rows_X6 rfl jX6_rows_42 (by decide) wlaO_0 rfl ?_
      refine g_bipush (v := (20 : Int32)) dX6_rows_18 (by decide) ?_
      refine g_iload_n 1 dX6_rows_20 rfl rfl ?_
      refine g_imul dX6_rows_21 ?_
      refine g_iload 4 dX6_rows_22 rfl ?_
      refine g_iadd dX6_rows_24 ?_
      obtain ⟨h4, hf⟩ := ochi_some hf
      refine g_lald 11 1 dX6_rows_25 wlaO_11 (tJ hty) h4 ?_
      refine g_iload_n 2 dX6_rows_26 rfl rfl ?_
      refine g_i2l dX6_rows_27 ?_
      refine g_iload 4 dX6_rows_28 rfl ?_
      obtain ⟨v5, hc6, hf⟩ := obd_some hf
      refine g_callSl (As := [.long (Int32.toInt64 a3), .int x2]) (rest := [.long ((O_triangle s) (Int32.toNatClampNeg (((20 : Int32) * a1) + x2))), .long x1]) (w2 := (wO cs ad s)) 0 dX6_rows_30 vX6_rows_202 (c_X6_power hty hc6) rfl (midm _) rfl (Nat.le_of_ble_eq_true rfl) ⟨Nat.zero_le _, Nat.zero_le _⟩ (midn _) ?_
      refine g_lmul dX6_rows_33 ?_
      refine g_bipush (v := (10 : Int32)) dX6_rows_34 (by decide) ?_
      refine g_iload_n 2 dX6_rows_36 rfl rfl ?_
      refine g_isub dX6_rows_37 ?_
      refine g_i2l dX6_rows_38 ?_
      refine g_iload_n 1 dX6_rows_39 rfl rfl ?_
      refine g_iload 4 dX6_rows_40 rfl ?_
      refine g_isub dX6_rows_42 ?_
      obtain ⟨v7, hc8, hf⟩ := obd_some hf
      refine g_callSl (As := [.long (Int32.toInt64 ((10 : Int32) - a3)), .int (a1 - x2)]) (rest := [.long (((O_triangle s) (Int32.toNatClampNeg (((20 : Int32) * a1) + x2))) * v5), .long x1]) (w2 := (wO cs ad s)) 0 dX6_rows_43 vX6_rows_202 (c_X6_power hty hc8) rfl (midm _) rfl (Nat.le_of_ble_eq_true rfl) ⟨Nat.zero_le _, Nat.zero_le _⟩ (midn _) ?_
      refine g_lmul dX6_rows_46 ?_
      refine g_ladd dX6_rows_47 ?_
      obtain ⟨z9, e_z9, hf⟩ := olt_some hf
      refine g_cast rfl rfl (congrArg (fun q => Value.long q :: []) e_z9) rfl ?_
      refine g_lstore (lv2 := [(4, .long z9), (0, .ref (ad 0)), (1, .int a1), (3, .int a3), (6, .int x2)]) dX6_rows_48 (by decide) rfl ?_
      refine g_iinc (lv2 := [(6, .int (x2 + 1)), (4, .long z9), (0, .ref (ad 0)), (1, .int a1), (3, .int a3)]) 4 dX6_rows_50 rfl (ii1 _) (by decide) rfl ?_
      refine g_goto (tgt := 6) dX6_rows_53 (by decide) ?_
      exact g_sub [2, 3, 4, 1, 0] rfl (ih z9 (x2 + 1) hf)

set_option maxHeartbeats 4000000 in
set_option maxRecDepth 100000 in
theorem c_X6_rows {l : Launch} {D : va_G} {tys : List (ClassId × FieldType)} {X : XT} {cs : CS} (ad : Nat → Nat) {F : Nat} {s : SO} {a1 : Int32} {a2 : Int32} {a3 : Int32} {r : Int64} (htyM : tys = tyA cs) (hf : f_X6_rows F s a1 a2 a3 = some r) : Cl l D tys X yX6_rows wsX6_rows rmX6_rows [.ref (ad 0), .int a1, .int a2, .int a3] (wO cs ad s) r (wO cs ad s) := by
  refine Cl_ofG (by decide +kernel) rfl (Nat.le_of_ble_eq_true rfl) (fun E _ _ hty0 hX0 hr => ?_)
  have hty := hty0.trans htyM
  have hr : Rl E kX6_rows r (wO cs ad s) := hr
  show G E kX6_rows 0 0 0 [(0, .ref (ad 0)), (1, .int a1), (2, .int a2), (3, .int a3)] [] (wO cs ad s)
  unfold f_X6_rows at hf
  refine g_lconst (v := (0 : Int64)) dX6_rows_0 (by decide) ?_
  refine g_lstore (lv2 := [(4, .long (0 : Int64)), (0, .ref (ad 0)), (1, .int a1), (2, .int a2), (3, .int a3)]) dX6_rows_1 (by decide) rfl ?_
  refine g_iload_n 3 dX6_rows_3 rfl rfl ?_
  refine g_istore (lv2 := [(6, .int a2), (4, .long (0 : Int64)), (0, .ref (ad 0)), (1, .int a1), (2, .int a2), (3, .int a3)]) dX6_rows_4 (by decide) rfl ?_
  exact g_sub [2, 3, 5, 1, 0] rfl (w_X6_rows_L6 hty hr F (0 : Int64) a2 hf)

-- ThumbScaleModel made (II)J
def rmX6_made : Room := { frames := 3, cells := 0, slots := 0, locals := 71 }
def kX6_made : MK := (cX6_made, 6, RX6, wsX6_made, (some .long), rmX6_made)

set_option maxRecDepth 20000 in
theorem jX6_made_7 : Cond.fieldLink RX6 7 (TX6 2).1 (TX6 2).2.1 (TX6 2).2.2.1 ∈ wsX6_made := by decide +kernel
set_option maxRecDepth 20000 in
theorem iX6_made_X6 : ∀ x ∈ u_ws RX6 TX6 29, x ∈ wsX6_made := by decide +kernel
set_option maxRecDepth 20000 in
theorem vX6_made_155 : KV kX6_made 155 RX6 yX6_bag wsX6_bag rmX6_bag 2 := ⟨_, _, _, _, gX6_made_X6_bag, rfl, rfl, rfl, by decide +kernel, ⟨by decide, by decide⟩⟩
set_option maxRecDepth 20000 in
theorem vX6_made_191 : KV kX6_made 191 RX6 yX6_stepsOf wsX6_stepsOf rmX6_stepsOf 1 := ⟨_, _, _, _, gX6_made_X6_stepsOf, rfl, rfl, rfl, by decide +kernel, ⟨by decide, by decide⟩⟩
set_option maxRecDepth 20000 in
theorem vX6_made_176 : KV kX6_made 176 RX6 yX6_oftenOf wsX6_oftenOf rmX6_oftenOf 4 := ⟨_, _, _, _, gX6_made_X6_oftenOf, rfl, rfl, rfl, by decide +kernel, ⟨by decide, by decide⟩⟩
def f_X6_made_L5 (F : Nat) (s : SO) (a1 : Int32) (a2 : Int32) : Nat → Int64 → Int32 → Option Int64
  | 0, _, _ => none
  | n + 1, x1, x2 =>
    ochi (0 : Int32) 264 (
    (if ((O_s s) (Int32.toNatClampNeg (0 : Int32))) ≤ x2 then
    some x1
    else
    obd (f_X6_bag F s x2 (0 : Int32)) (fun v5 =>
    (if v5 = a2 then
    obd (f_X6_bag F s x2 (2 : Int32)) (fun v8 =>
    obd (f_X6_stepsOf F s x2) (fun v10 =>
    obd (f_X6_oftenOf F s a1 a2 v8 v10) (fun v12 =>
    f_X6_made_L5 F s a1 a2 n (x1 * (Int32.toInt64 v12)) (x2 + 1))))
    else
    f_X6_made_L5 F s a1 a2 n (x1 * (1 : Int64)) (x2 + 1)))))

def f_X6_made (F : Nat) (s : SO) (a1 : Int32) (a2 : Int32) : Option Int64 :=
    f_X6_made_L5 F s a1 a2 F (1 : Int64) (0 : Int32)

set_option maxHeartbeats 4000000 in
set_option maxRecDepth 100000 in
theorem w_X6_made_L5 {E : GE} {cs : CS} {ad : Nat → Nat} {F : Nat} {s : SO} {a1 : Int32} {a2 : Int32} {r : Int64} (hty : eT E = tyA cs) (hr : Rl E kX6_made r (wO cs ad s)) : ∀ (n : Nat) (x1 : Int64) (x2 : Int32), f_X6_made_L5 F s a1 a2 n x1 x2 = some r → G E kX6_made 0 0 5 [(0, .ref (ad 0)), (1, .int a1), (2, .int a2), (3, .long x1), (5, .int x2)] [] (wO cs ad s) := by
  intro n
  induction n with
  | zero =>
    intro x1 x2 hf
    cases (show (none : Option Int64) = some r from hf)
  | succ n ih =>
    intro x1 x2 hf
    rw [f_X6_made_L5] at hf
    refine g_iload 4 dX6_made_5 rfl ?_
    refine g_aload_n 0 dX6_made_7 rfl rfl ?_
    refine g_get (ci := 6) (T := TX6) (N := 29) 0 2 (.ref (ad 1)) dX6_made_8 iX6_made_X6 rfl jX6_made_7 (by decide) wlaO_0 rfl ?_
    refine g_iconst (v := (0 : Int32)) dX6_made_11 (by decide) ?_
    obtain ⟨h3, hf⟩ := ochi_some hf
    refine g_iald 1 0 dX6_made_12 wlaO_1 (tI hty) h3 ?_
    refine g_icmp_ge (tgt := 60) dX6_made_13 (by decide) (fun h4 => ?_) (fun h4 => ?_)
    · have hf := ift h4 hf
      refine g_lload_n 3 dX6_made_60 rfl rfl ?_
      obtain rfl := Option.some.inj hf
      exact hr _ _ dX6_made_61
    · have hf := iff_ h4 hf
      refine g_lload_n 3 dX6_made_16 rfl rfl ?_
      refine g_aload_n 0 dX6_made_17 rfl rfl ?_
      refine g_iload 4 dX6_made_18 rfl ?_
      refine g_iconst (v := (0 : Int32)) dX6_made_20 (by decide) ?_
      obtain ⟨v5, hc6, hf⟩ := obd_some hf
      refine g_callVi (ci := 6) (As := [.int x2, .int (0 : Int32)]) (rest := [.long x1]) (w2 := (wO cs ad s)) 0 dX6_made_21 vX6_made_155 (c_X6_bag ad hty hc6) rfl (mid0 _) rfl rfl 0 wlaO_0 rfl (Nat.le_of_ble_eq_true rfl) ⟨Nat.zero_le _, Nat.zero_le _⟩ (mid2 _ _) ?_
      refine g_iload_n 2 dX6_made_24 rfl rfl ?_
      refine g_icmp_ne (tgt := 51) dX6_made_25 (by decide) (fun h7 => ?_) (fun h7 => ?_)
      · have hf := iff_ h7 hf
        refine g_lconst (v := (1 : Int64)) dX6_made_51 (by decide) ?_
        refine g_lmul dX6_made_52 ?_
        refine g_lstore_n (lv2 := [(3, .long (x1 * (1 : Int64))), (0, .ref (ad 0)), (1, .int a1), (2, .int a2), (5, .int x2)]) dX6_made_53 rfl (by decide) rfl ?_
        refine g_iinc (lv2 := [(5, .int (x2 + 1)), (3, .long (x1 * (1 : Int64))), (0, .ref (ad 0)), (1, .int a1), (2, .int a2)]) 4 dX6_made_54 rfl (ii1 _) (by decide) rfl ?_
        refine g_goto (tgt := 5) dX6_made_57 (by decide) ?_
        exact g_sub [2, 3, 4, 1, 0] rfl (ih (x1 * (1 : Int64)) (x2 + 1) hf)
      · have hf := ift h7 hf
        refine g_aload_n 0 dX6_made_28 rfl rfl ?_
        refine g_iload_n 1 dX6_made_29 rfl rfl ?_
        refine g_iload_n 2 dX6_made_30 rfl rfl ?_
        refine g_aload_n 0 dX6_made_31 rfl rfl ?_
        refine g_iload 4 dX6_made_32 rfl ?_
        refine g_iconst (v := (2 : Int32)) dX6_made_34 (by decide) ?_
        obtain ⟨v8, hc9, hf⟩ := obd_some hf
        refine g_callVi (ci := 6) (As := [.int x2, .int (2 : Int32)]) (rest := [.int a2, .int a1, .ref (ad 0), .long x1]) (w2 := (wO cs ad s)) 0 dX6_made_35 vX6_made_155 (c_X6_bag ad hty hc9) rfl (mid0 _) rfl rfl 0 wlaO_0 rfl (Nat.le_of_ble_eq_true rfl) ⟨Nat.zero_le _, Nat.zero_le _⟩ (mid2 _ _) ?_
        refine g_aload_n 0 dX6_made_38 rfl rfl ?_
        refine g_iload 4 dX6_made_39 rfl ?_
        obtain ⟨v10, hc11, hf⟩ := obd_some hf
        refine g_callVi (ci := 6) (As := [.int x2]) (rest := [.int v8, .int a2, .int a1, .ref (ad 0), .long x1]) (w2 := (wO cs ad s)) 0 dX6_made_41 vX6_made_191 (c_X6_stepsOf ad hty hc11) rfl (mid0 _) rfl rfl 0 wlaO_0 rfl (Nat.le_of_ble_eq_true rfl) ⟨Nat.zero_le _, Nat.zero_le _⟩ (mid2 _ _) ?_
        obtain ⟨v12, hc13, hf⟩ := obd_some hf
        refine g_callVi (ci := 6) (As := [.int a1, .int a2, .int v8, .int v10]) (rest := [.long x1]) (w2 := (wO cs ad s)) 0 dX6_made_44 vX6_made_176 (c_X6_oftenOf ad hty hc13) rfl (mid0 _) rfl rfl 0 wlaO_0 rfl (Nat.le_of_ble_eq_true rfl) ⟨Nat.zero_le _, Nat.zero_le _⟩ (mid2 _ _) ?_
        refine g_i2l dX6_made_47 ?_
        refine g_goto (tgt := 52) dX6_made_48 (by decide) ?_
        refine g_lmul dX6_made_52 ?_
        refine g_lstore_n (lv2 := [(3, .long (x1 * (Int32.toInt64 v12))), (0, .ref (ad 0)), (1, .int a1), (2, .int a2), (5, .int x2)]) dX6_made_53 rfl (by decide) rfl ?_
        refine g_iinc (lv2 := [(5, .int (x2 + 1)), (3, .long (x1 * (Int32.toInt64 v12))), (0, .ref (ad 0)), (1, .int a1), (2, .int a2)]) 4 dX6_made_54 rfl (ii1 _) (by decide) rfl ?_
        refine g_goto (tgt := 5) dX6_made_57 (by decide) ?_
        exact g_sub [2, 3, 4, 1, 0] rfl (ih (x1 * (Int32.toInt64 v12)) (x2 + 1) hf)

set_option maxHeartbeats 4000000 in
set_option maxRecDepth 100000 in
theorem c_X6_made {l : Launch} {D : va_G} {tys : List (ClassId × FieldType)} {X : XT} {cs : CS} (ad : Nat → Nat) {F : Nat} {s : SO} {a1 : Int32} {a2 : Int32} {r : Int64} (htyM : tys = tyA cs) (hf : f_X6_made F s a1 a2 = some r) : Cl l D tys X yX6_made wsX6_made rmX6_made [.ref (ad 0), .int a1, .int a2] (wO cs ad s) r (wO cs ad s) := by
  refine Cl_ofG (by decide +kernel) rfl (Nat.le_of_ble_eq_true rfl) (fun E _ _ hty0 hX0 hr => ?_)
  have hty := hty0.trans htyM
  have hr : Rl E kX6_made r (wO cs ad s) := hr
  show G E kX6_made 0 0 0 [(0, .ref (ad 0)), (1, .int a1), (2, .int a2)] [] (wO cs ad s)
  unfold f_X6_made at hf
  refine g_lconst (v := (1 : Int64)) dX6_made_0 (by decide) ?_
  refine g_lstore_n (lv2 := [(3, .long (1 : Int64)), (0, .ref (ad 0)), (1, .int a1), (2, .int a2)]) dX6_made_1 rfl (by decide) rfl ?_
  refine g_iconst (v := (0 : Int32)) dX6_made_2 (by decide) ?_
  refine g_istore (lv2 := [(5, .int (0 : Int32)), (3, .long (1 : Int64)), (0, .ref (ad 0)), (1, .int a1), (2, .int a2)]) dX6_made_3 (by decide) rfl ?_
  exact g_sub [2, 3, 4, 1, 0] rfl (w_X6_made_L5 hty hr F (1 : Int64) (0 : Int32) hf)

-- ThumbScaleModel believedAll (I)J
def rmX6_believedAll : Room := { frames := 4, cells := 0, slots := 0, locals := 96 }
def kX6_believedAll : MK := (cX6_believedAll, 5, RX6, wsX6_believedAll, (some .long), rmX6_believedAll)

set_option maxRecDepth 20000 in
theorem jX6_believedAll_65 : Cond.fieldLink RX6 65 (TX6 17).1 (TX6 17).2.1 (TX6 17).2.2.1 ∈ wsX6_believedAll := by decide +kernel
set_option maxRecDepth 20000 in
theorem iX6_believedAll_X6 : ∀ x ∈ u_ws RX6 TX6 29, x ∈ wsX6_believedAll := by decide +kernel
set_option maxRecDepth 20000 in
theorem jX6_believedAll_36 : Cond.fieldLink RX6 36 (TX6 20).1 (TX6 20).2.1 (TX6 20).2.2.1 ∈ wsX6_believedAll := by decide +kernel
set_option maxRecDepth 20000 in
theorem vX6_believedAll_215 : KV kX6_believedAll 215 RX6 yX6_made wsX6_made rmX6_made 2 := ⟨_, _, _, _, gX6_believedAll_X6_made, rfl, rfl, rfl, by decide +kernel, ⟨by decide, by decide⟩⟩
def f_X6_believedAll_L5 (F : Nat) (s : SO) (a1 : Int32) : Nat → Int64 → Int32 → Option Int64
  | 0, _, _ => none
  | n + 1, x1, x2 =>
    (if (O_ways s) ≤ x2 then
    some x1
    else
    ochi x2 6 (
    obd (f_X6_made F s x2 a1) (fun v5 =>
    olt (x1 + ((Int32.toInt64 ((O_beliefs s) (Int32.toNatClampNeg x2))) * v5)) (fun z7 =>
    f_X6_believedAll_L5 F s a1 n z7 (x2 + 1)))))

def f_X6_believedAll (F : Nat) (s : SO) (a1 : Int32) : Option Int64 :=
    f_X6_believedAll_L5 F s a1 F (0 : Int64) (0 : Int32)

set_option maxHeartbeats 4000000 in
set_option maxRecDepth 100000 in
theorem w_X6_believedAll_L5 {E : GE} {cs : CS} {ad : Nat → Nat} {F : Nat} {s : SO} {a1 : Int32} {r : Int64} (hty : eT E = tyA cs) (hr : Rl E kX6_believedAll r (wO cs ad s)) : ∀ (n : Nat) (x1 : Int64) (x2 : Int32), f_X6_believedAll_L5 F s a1 n x1 x2 = some r → G E kX6_believedAll 0 0 5 [(0, .ref (ad 0)), (1, .int a1), (2, .long x1), (4, .int x2)] [] (wO cs ad s) := by
  intro n
  induction n with
  | zero =>
    intro x1 x2 hf
    cases (show (none : Option Int64) = some r from hf)
  | succ n ih =>
    intro x1 x2 hf
    rw [f_X6_believedAll_L5] at hf
    refine g_iload 3 dX6_believedAll_5 rfl ?_
    refine g_aload_n 0 dX6_believedAll_7 rfl rfl ?_
    refine g_get (ci := 6) (T := TX6) (N := 29) 0 17 (.int (O_ways s)) dX6_believedAll_8 iX6_believedAll_X6 rfl jX6_believedAll_65 (by decide) wlaO_0 rfl ?_
    refine g_icmp_ge (tgt := 39) dX6_believedAll_11 (by decide) (fun h3 => ?_) (fun h3 => ?_)
    · have hf := ift h3 hf
      refine g_lload_n 2 dX6_believedAll_39 rfl rfl ?_
      obtain rfl := Option.some.inj hf
      exact hr _ _ dX6_believedAll_40
    · have hf := iff_ h3 hf
      refine g_lload_n 2 dX6_believedAll_14 rfl rfl ?_
      refine g_aload_n 0 dX6_believedAll_15 rfl rfl ?_
      refine g_get (ci := 6) (T := TX6) (N := 29) 0 20 (.ref (ad 9)) dX6_believedAll_16 iX6_believedAll_X6 rfl jX6_believedAll_36 (by decide) wlaO_0 rfl ?_
      refine g_iload 3 dX6_believedAll_19 rfl ?_
      obtain ⟨h4, hf⟩ := ochi_some hf
      refine g_iald 9 0 dX6_believedAll_21 wlaO_9 (tI hty) h4 ?_
      refine g_i2l dX6_believedAll_22 ?_
      refine g_aload_n 0 dX6_believedAll_23 rfl rfl ?_
      refine g_iload 3 dX6_believedAll_24 rfl ?_
      refine g_iload_n 1 dX6_believedAll_26 rfl rfl ?_
      obtain ⟨v5, hc6, hf⟩ := obd_some hf
      refine g_callVl (ci := 6) (As := [.int x2, .int a1]) (rest := [.long (Int32.toInt64 ((O_beliefs s) (Int32.toNatClampNeg x2))), .long x1]) (w2 := (wO cs ad s)) 0 dX6_believedAll_27 vX6_believedAll_215 (c_X6_made ad hty hc6) rfl (mid0 _) rfl rfl 0 wlaO_0 rfl (Nat.le_of_ble_eq_true rfl) ⟨Nat.zero_le _, Nat.zero_le _⟩ (mid2 _ _) ?_
      refine g_lmul dX6_believedAll_30 ?_
      refine g_ladd dX6_believedAll_31 ?_
      obtain ⟨z7, e_z7, hf⟩ := olt_some hf
      refine g_cast rfl rfl (congrArg (fun q => Value.long q :: []) e_z7) rfl ?_
      refine g_lstore_n (lv2 := [(2, .long z7), (0, .ref (ad 0)), (1, .int a1), (4, .int x2)]) dX6_believedAll_32 rfl (by decide) rfl ?_
      refine g_iinc (lv2 := [(4, .int (x2 + 1)), (2, .long z7), (0, .ref (ad 0)), (1, .int a1)]) 3 dX6_believedAll_33 rfl (ii1 _) (by decide) rfl ?_
      refine g_goto (tgt := 5) dX6_believedAll_36 (by decide) ?_
      exact g_sub [2, 3, 1, 0] rfl (ih z7 (x2 + 1) hf)

set_option maxHeartbeats 4000000 in
set_option maxRecDepth 100000 in
theorem c_X6_believedAll {l : Launch} {D : va_G} {tys : List (ClassId × FieldType)} {X : XT} {cs : CS} (ad : Nat → Nat) {F : Nat} {s : SO} {a1 : Int32} {r : Int64} (htyM : tys = tyA cs) (hf : f_X6_believedAll F s a1 = some r) : Cl l D tys X yX6_believedAll wsX6_believedAll rmX6_believedAll [.ref (ad 0), .int a1] (wO cs ad s) r (wO cs ad s) := by
  refine Cl_ofG (by decide +kernel) rfl (Nat.le_of_ble_eq_true rfl) (fun E _ _ hty0 hX0 hr => ?_)
  have hty := hty0.trans htyM
  have hr : Rl E kX6_believedAll r (wO cs ad s) := hr
  show G E kX6_believedAll 0 0 0 [(0, .ref (ad 0)), (1, .int a1)] [] (wO cs ad s)
  unfold f_X6_believedAll at hf
  refine g_lconst (v := (0 : Int64)) dX6_believedAll_0 (by decide) ?_
  refine g_lstore_n (lv2 := [(2, .long (0 : Int64)), (0, .ref (ad 0)), (1, .int a1)]) dX6_believedAll_1 rfl (by decide) rfl ?_
  refine g_iconst (v := (0 : Int32)) dX6_believedAll_2 (by decide) ?_
  refine g_istore (lv2 := [(4, .int (0 : Int32)), (2, .long (0 : Int64)), (0, .ref (ad 0)), (1, .int a1)]) dX6_believedAll_3 (by decide) rfl ?_
  exact g_sub [2, 3, 1, 0] rfl (w_X6_believedAll_L5 hty hr F (0 : Int64) (0 : Int32) hf)

-- ThumbScaleModel apartOf (IIII)I
def rmX6_apartOf : Room := { frames := 3, cells := 0, slots := 0, locals := 71 }
def kX6_apartOf : MK := (cX6_apartOf, 7, RX6, wsX6_apartOf, (some .int), rmX6_apartOf)

set_option maxRecDepth 20000 in
theorem vX6_apartOf_176 : KV kX6_apartOf 176 RX6 yX6_oftenOf wsX6_oftenOf rmX6_oftenOf 4 := ⟨_, _, _, _, gX6_apartOf_X6_oftenOf, rfl, rfl, rfl, by decide +kernel, ⟨by decide, by decide⟩⟩
set_option maxRecDepth 20000 in
theorem vX6_apartOf_68 : KS kX6_apartOf 68 yX6_size wsX6_size rmX6_size 1 := ⟨_, _, _, _, gX6_apartOf_X6_size, rfl, rfl, rfl, by decide +kernel, ⟨by decide, by decide⟩⟩
def f_X6_apartOf_L6 (F : Nat) (s : SO) (a1 : Int32) (a2 : Int32) (a3 : Int32) (a4 : Int32) : Nat → Int32 → Int32 → Option Int32
  | 0, _, _ => none
  | n + 1, x1, x2 =>
    (if (101 : Int32) ≤ x2 then
    some x1
    else
    obd (f_X6_oftenOf F s a1 a3 a4 x2) (fun v4 =>
    obd (f_X6_oftenOf F s a2 a3 a4 x2) (fun v6 =>
    obd (f_X6_size F (Int32.toInt64 (v4 - v6))) (fun v8 =>
    f_X6_apartOf_L6 F s a1 a2 a3 a4 n (x1 + (Int64.toInt32 v8)) (x2 + 1)))))

def f_X6_apartOf (F : Nat) (s : SO) (a1 : Int32) (a2 : Int32) (a3 : Int32) (a4 : Int32) : Option Int32 :=
    f_X6_apartOf_L6 F s a1 a2 a3 a4 F (0 : Int32) (-1 : Int32)

set_option maxHeartbeats 4000000 in
set_option maxRecDepth 100000 in
theorem w_X6_apartOf_L6 {E : GE} {cs : CS} {ad : Nat → Nat} {F : Nat} {s : SO} {a1 : Int32} {a2 : Int32} {a3 : Int32} {a4 : Int32} {r : Int32} (hty : eT E = tyA cs) (hr : Ri E kX6_apartOf r (wO cs ad s)) : ∀ (n : Nat) (x1 : Int32) (x2 : Int32), f_X6_apartOf_L6 F s a1 a2 a3 a4 n x1 x2 = some r → G E kX6_apartOf 0 0 6 [(0, .ref (ad 0)), (1, .int a1), (2, .int a2), (3, .int a3), (4, .int a4), (5, .int x1), (6, .int x2)] [] (wO cs ad s) := by
  intro n
  induction n with
  | zero =>
    intro x1 x2 hf
    cases (show (none : Option Int32) = some r from hf)
  | succ n ih =>
    intro x1 x2 hf
    rw [f_X6_apartOf_L6] at hf
    refine g_iload 6 dX6_apartOf_6 rfl ?_
    refine g_bipush (v := (101 : Int32)) dX6_apartOf_8 (by decide) ?_
    refine g_icmp_ge (tgt := 50) dX6_apartOf_10 (by decide) (fun h3 => ?_) (fun h3 => ?_)
    · have hf := ift h3 hf
      refine g_iload 5 dX6_apartOf_50 rfl ?_
      obtain rfl := Option.some.inj hf
      exact hr _ _ dX6_apartOf_52
    · have hf := iff_ h3 hf
      refine g_iload 5 dX6_apartOf_13 rfl ?_
      refine g_aload_n 0 dX6_apartOf_15 rfl rfl ?_
      refine g_iload_n 1 dX6_apartOf_16 rfl rfl ?_
      refine g_iload_n 3 dX6_apartOf_17 rfl rfl ?_
      refine g_iload 4 dX6_apartOf_18 rfl ?_
      refine g_iload 6 dX6_apartOf_20 rfl ?_
      obtain ⟨v4, hc5, hf⟩ := obd_some hf
      refine g_callVi (ci := 6) (As := [.int a1, .int a3, .int a4, .int x2]) (rest := [.int x1]) (w2 := (wO cs ad s)) 0 dX6_apartOf_22 vX6_apartOf_176 (c_X6_oftenOf ad hty hc5) rfl (mid0 _) rfl rfl 0 wlaO_0 rfl (Nat.le_of_ble_eq_true rfl) ⟨Nat.zero_le _, Nat.zero_le _⟩ (mid2 _ _) ?_
      refine g_aload_n 0 dX6_apartOf_25 rfl rfl ?_
      refine g_iload_n 2 dX6_apartOf_26 rfl rfl ?_
      refine g_iload_n 3 dX6_apartOf_27 rfl rfl ?_
      refine g_iload 4 dX6_apartOf_28 rfl ?_
      refine g_iload 6 dX6_apartOf_30 rfl ?_
      obtain ⟨v6, hc7, hf⟩ := obd_some hf
      refine g_callVi (ci := 6) (As := [.int a2, .int a3, .int a4, .int x2]) (rest := [.int v4, .int x1]) (w2 := (wO cs ad s)) 0 dX6_apartOf_32 vX6_apartOf_176 (c_X6_oftenOf ad hty hc7) rfl (mid0 _) rfl rfl 0 wlaO_0 rfl (Nat.le_of_ble_eq_true rfl) ⟨Nat.zero_le _, Nat.zero_le _⟩ (mid2 _ _) ?_
      refine g_isub dX6_apartOf_35 ?_
      refine g_i2l dX6_apartOf_36 ?_
      obtain ⟨v8, hc9, hf⟩ := obd_some hf
      refine g_callSl (As := [.long (Int32.toInt64 (v4 - v6))]) (rest := [.int x1]) (w2 := (wO cs ad s)) 0 dX6_apartOf_37 vX6_apartOf_68 (c_X6_size hty hc9) rfl (midm _) rfl (Nat.le_of_ble_eq_true rfl) ⟨Nat.zero_le _, Nat.zero_le _⟩ (midn _) ?_
      refine g_l2i dX6_apartOf_40 ?_
      refine g_iadd dX6_apartOf_41 ?_
      refine g_istore (lv2 := [(5, .int (x1 + (Int64.toInt32 v8))), (0, .ref (ad 0)), (1, .int a1), (2, .int a2), (3, .int a3), (4, .int a4), (6, .int x2)]) dX6_apartOf_42 (by decide) rfl ?_
      refine g_iinc (lv2 := [(6, .int (x2 + 1)), (5, .int (x1 + (Int64.toInt32 v8))), (0, .ref (ad 0)), (1, .int a1), (2, .int a2), (3, .int a3), (4, .int a4)]) 6 dX6_apartOf_44 rfl (ii1 _) (by decide) rfl ?_
      refine g_goto (tgt := 6) dX6_apartOf_47 (by decide) ?_
      exact g_sub [2, 3, 4, 5, 6, 1, 0] rfl (ih (x1 + (Int64.toInt32 v8)) (x2 + 1) hf)

set_option maxHeartbeats 4000000 in
set_option maxRecDepth 100000 in
theorem c_X6_apartOf {l : Launch} {D : va_G} {tys : List (ClassId × FieldType)} {X : XT} {cs : CS} (ad : Nat → Nat) {F : Nat} {s : SO} {a1 : Int32} {a2 : Int32} {a3 : Int32} {a4 : Int32} {r : Int32} (htyM : tys = tyA cs) (hf : f_X6_apartOf F s a1 a2 a3 a4 = some r) : Ci l D tys X yX6_apartOf wsX6_apartOf rmX6_apartOf [.ref (ad 0), .int a1, .int a2, .int a3, .int a4] (wO cs ad s) r (wO cs ad s) := by
  refine Ci_ofG (by decide +kernel) rfl (Nat.le_of_ble_eq_true rfl) .int rfl (vp_nar_int _) (fun E _ _ hty0 hX0 hr => ?_)
  have hty := hty0.trans htyM
  have hr : Ri E kX6_apartOf r (wO cs ad s) := hr
  show G E kX6_apartOf 0 0 0 [(0, .ref (ad 0)), (1, .int a1), (2, .int a2), (3, .int a3), (4, .int a4)] [] (wO cs ad s)
  unfold f_X6_apartOf at hf
  refine g_iconst (v := (0 : Int32)) dX6_apartOf_0 (by decide) ?_
  refine g_istore (lv2 := [(5, .int (0 : Int32)), (0, .ref (ad 0)), (1, .int a1), (2, .int a2), (3, .int a3), (4, .int a4)]) dX6_apartOf_1 (by decide) rfl ?_
  refine g_iconst (v := (-1 : Int32)) dX6_apartOf_3 (by decide) ?_
  refine g_istore (lv2 := [(6, .int (-1 : Int32)), (5, .int (0 : Int32)), (0, .ref (ad 0)), (1, .int a1), (2, .int a2), (3, .int a3), (4, .int a4)]) dX6_apartOf_4 (by decide) rfl ?_
  exact g_sub [2, 3, 4, 5, 6, 1, 0] rfl (w_X6_apartOf_L6 hty hr F (0 : Int32) (-1 : Int32) hf)

-- ThumbScaleModel weighsAll ()V
def rmX6_weighsAll : Room := { frames := 1, cells := 0, slots := 0, locals := 25 }
def kX6_weighsAll : MK := (cX6_weighsAll, 17, RX6, wsX6_weighsAll, none, rmX6_weighsAll)

set_option maxRecDepth 20000 in
theorem jX6_weighsAll_39 : Cond.fieldLink RX6 39 (TX6 21).1 (TX6 21).2.1 (TX6 21).2.2.1 ∈ wsX6_weighsAll := by decide +kernel
set_option maxRecDepth 20000 in
theorem iX6_weighsAll_X6 : ∀ x ∈ u_ws RX6 TX6 29, x ∈ wsX6_weighsAll := by decide +kernel
set_option maxRecDepth 20000 in
theorem qX6_weighsAll_213 : Cond.constantLong RX6 213 (10 : Int64) ∈ wsX6_weighsAll := by decide +kernel
set_option maxRecDepth 20000 in
theorem vX6_weighsAll_202 : KS kX6_weighsAll 202 yX6_power wsX6_power rmX6_power 2 := ⟨_, _, _, _, gX6_weighsAll_X6_power, rfl, rfl, rfl, by decide +kernel, ⟨by decide, by decide⟩⟩
set_option maxRecDepth 20000 in
theorem jX6_weighsAll_45 : Cond.fieldLink RX6 45 (TX6 23).1 (TX6 23).2.1 (TX6 23).2.2.1 ∈ wsX6_weighsAll := by decide +kernel
set_option maxRecDepth 20000 in
theorem jX6_weighsAll_48 : Cond.fieldLink RX6 48 (TX6 24).1 (TX6 24).2.1 (TX6 24).2.2.1 ∈ wsX6_weighsAll := by decide +kernel
def f_X6_weighsAll_L27 (F : Nat) (x12 : Int32) (x13 : Int64) (k10_ : Int32 → SO → Option SO) : Nat → Int32 → Int32 → SO → Option SO
  | 0, _, _, _ => none
  | n + 1, x9, x10, s11 =>
    (if x9 < x10 then
    k10_ (x9 + (-1)) s11
    else
    ochi (2 : Int32) 8 (
    ochi (0 : Int32) 8 (
    obd (f_X6_power F (Int32.toInt64 ((O_bars s11) (Int32.toNatClampNeg (0 : Int32)))) x10) (fun v17 =>
    ochi (0 : Int32) 8 (
    obd (f_X6_power F (Int32.toInt64 ((10 : Int32) - ((O_bars s11) (Int32.toNatClampNeg (0 : Int32))))) (x9 - x10)) (fun v20 =>
    olt (((Int32.toInt64 ((O_bars s11) (Int32.toNatClampNeg (2 : Int32)))) * v17) * v20) (fun z22 =>
    ochi (3 : Int32) 8 (
    ochi (1 : Int32) 8 (
    obd (f_X6_power F (Int32.toInt64 ((O_bars s11) (Int32.toNatClampNeg (1 : Int32)))) x10) (fun v25 =>
    ochi (1 : Int32) 8 (
    obd (f_X6_power F (Int32.toInt64 ((10 : Int32) - ((O_bars s11) (Int32.toNatClampNeg (1 : Int32))))) (x9 - x10)) (fun v28 =>
    olt (((Int32.toInt64 ((O_bars s11) (Int32.toNatClampNeg (3 : Int32)))) * v25) * v28) (fun z30 =>
    ochi (4 : Int32) 8 (
    olt (((Int32.toInt64 ((O_bars s11) (Int32.toNatClampNeg (4 : Int32)))) * z22) * x13) (fun z32 =>
    ochi (5 : Int32) 8 (
    olt (((Int32.toInt64 ((O_bars s11) (Int32.toNatClampNeg (5 : Int32)))) * z30) * x13) (fun z34 =>
    obd ((if 0 ≤ (lg_cmp z34 z32) then
    some (z32, (0 : Int32))
    else
    some (z34, (1 : Int32)))) (fun v36 =>
    obd ((if x12 ≤ x9 then
    some (v36.1, v36.2)
    else
    ochi (6 : Int32) 8 (
    ochi ((((10 : Int32) * (x9 + (1 : Int32))) + x10) + (1 : Int32)) 100 (
    ochi (((10 : Int32) * (x9 + (1 : Int32))) + x10) 100 (
    olt (((((Int32.toInt64 ((O_bars s11) (Int32.toNatClampNeg (6 : Int32)))) * (z22 + z30)) * x13) + ((O_costs s11) (Int32.toNatClampNeg ((((10 : Int32) * (x9 + (1 : Int32))) + x10) + (1 : Int32))))) + ((O_costs s11) (Int32.toNatClampNeg (((10 : Int32) * (x9 + (1 : Int32))) + x10)))) (fun z52 =>
    obd ((if 0 ≤ (lg_cmp z52 v36.1) then
    some v36.2
    else
    some (2 : Int32))) (fun v54 =>
    (if 0 ≤ (lg_cmp z52 v36.1) then
    some (v36.1, v54)
    else
    some (z52, v54))))))))) (fun v47 =>
    ochi (((10 : Int32) * x9) + x10) 100 (olt (uO_costs s11 (vp_updL (O_costs s11) (Int32.toNatClampNeg (((10 : Int32) * x9) + x10)) v47.1)) (fun s58 =>
    ochi (((10 : Int32) * x9) + x10) 100 (olt (uO_dones s58 (upd (O_dones s58) (Int32.toNatClampNeg (((10 : Int32) * x9) + x10)) v47.2)) (fun s60 =>
    f_X6_weighsAll_L27 F x12 x13 k10_ n x9 (x10 + 1) s60)))))))))))))))))))))))

def f_X6_weighsAll_L10 (F : Nat) (x5 : Int32) : Nat → Int32 → SO → Option SO
  | 0, _, _ => none
  | n + 1, x3, s4 =>
    (if x3 < 0 then
    some s4
    else
    obd (f_X6_power F (10 : Int64) (x5 - x3)) (fun v7 =>
    f_X6_weighsAll_L27 F x5 v7 (f_X6_weighsAll_L10 F x5 n) F x3 (0 : Int32) s4))

def f_X6_weighsAll (F : Nat) (s : SO) : Option SO :=
    ochi (7 : Int32) 8 (
    olt ((O_bars s) (Int32.toNatClampNeg (7 : Int32))) (fun z2 =>
    f_X6_weighsAll_L10 F z2 F z2 s))

set_option maxHeartbeats 4000000 in
set_option maxRecDepth 100000 in
theorem w_X6_weighsAll_L27 {E : GE} {cs : CS} {ad : Nat → Nat} {F : Nat} {x12 : Int32} {x13 : Int64} {k10_ : Int32 → SO → Option SO} {r : SO} (hty : eT E = tyA cs) (hr : Rv E kX6_weighsAll (wO cs ad r)) (K10_ : ∀ (x3 : Int32) (s4 : SO), k10_ x3 s4 = some r → G E kX6_weighsAll 0 0 10 [(0, .ref (ad 0)), (1, .int x12), (2, .int x3)] [] (wO cs ad s4)) : ∀ (n : Nat) (x9 : Int32) (x10 : Int32) (s11 : SO), f_X6_weighsAll_L27 F x12 x13 k10_ n x9 x10 s11 = some r → G E kX6_weighsAll 0 0 27 [(0, .ref (ad 0)), (1, .int x12), (2, .int x9), (3, .long x13), (5, .int x10)] [] (wO cs ad s11) := by
  intro n
  induction n with
  | zero =>
    intro x9 x10 s11 hf
    cases (show (none : Option SO) = some r from hf)
  | succ n ih =>
    intro x9 x10 s11 hf
    rw [f_X6_weighsAll_L27] at hf
    refine g_iload 4 dX6_weighsAll_27 rfl ?_
    refine g_iload_n 2 dX6_weighsAll_29 rfl rfl ?_
    refine g_icmp_gt (tgt := 281) dX6_weighsAll_30 (by decide) (fun h14 => ?_) (fun h14 => ?_)
    · have hf := ift h14 hf
      refine g_iinc (lv2 := [(2, .int (x9 + (-1))), (0, .ref (ad 0)), (1, .int x12), (3, .long x13), (5, .int x10)]) 2 dX6_weighsAll_281 rfl (iim1 _) (by decide) rfl ?_
      refine g_goto (tgt := 10) dX6_weighsAll_284 (by decide) ?_
      exact g_sub [1, 2, 0] rfl (K10_ (x9 + (-1)) s11 hf)
    · have hf := iff_ h14 hf
      refine g_aload_n 0 dX6_weighsAll_33 rfl rfl ?_
      refine g_get (ci := 6) (T := TX6) (N := 29) 0 21 (.ref (ad 10)) dX6_weighsAll_34 iX6_weighsAll_X6 rfl jX6_weighsAll_39 (by decide) wlaO_0 rfl ?_
      refine g_iconst (v := (2 : Int32)) dX6_weighsAll_37 (by decide) ?_
      obtain ⟨h15, hf⟩ := ochi_some hf
      refine g_iald 10 0 dX6_weighsAll_38 wlaO_10 (tI hty) h15 ?_
      refine g_i2l dX6_weighsAll_39 ?_
      refine g_aload_n 0 dX6_weighsAll_40 rfl rfl ?_
      refine g_get (ci := 6) (T := TX6) (N := 29) 0 21 (.ref (ad 10)) dX6_weighsAll_41 iX6_weighsAll_X6 rfl jX6_weighsAll_39 (by decide) wlaO_0 rfl ?_
      refine g_iconst (v := (0 : Int32)) dX6_weighsAll_44 (by decide) ?_
      obtain ⟨h16, hf⟩ := ochi_some hf
      refine g_iald 10 0 dX6_weighsAll_45 wlaO_10 (tI hty) h16 ?_
      refine g_i2l dX6_weighsAll_46 ?_
      refine g_iload 4 dX6_weighsAll_47 rfl ?_
      obtain ⟨v17, hc18, hf⟩ := obd_some hf
      refine g_callSl (As := [.long (Int32.toInt64 ((O_bars s11) (Int32.toNatClampNeg (0 : Int32)))), .int x10]) (rest := [.long (Int32.toInt64 ((O_bars s11) (Int32.toNatClampNeg (2 : Int32))))]) (w2 := (wO cs ad s11)) 0 dX6_weighsAll_49 vX6_weighsAll_202 (c_X6_power hty hc18) rfl (midm _) rfl (Nat.le_of_ble_eq_true rfl) ⟨Nat.zero_le _, Nat.zero_le _⟩ (midn _) ?_
      refine g_lmul dX6_weighsAll_52 ?_
      refine g_bipush (v := (10 : Int32)) dX6_weighsAll_53 (by decide) ?_
      refine g_aload_n 0 dX6_weighsAll_55 rfl rfl ?_
      refine g_get (ci := 6) (T := TX6) (N := 29) 0 21 (.ref (ad 10)) dX6_weighsAll_56 iX6_weighsAll_X6 rfl jX6_weighsAll_39 (by decide) wlaO_0 rfl ?_
      refine g_iconst (v := (0 : Int32)) dX6_weighsAll_59 (by decide) ?_
      obtain ⟨h19, hf⟩ := ochi_some hf
      refine g_iald 10 0 dX6_weighsAll_60 wlaO_10 (tI hty) h19 ?_
      refine g_isub dX6_weighsAll_61 ?_
      refine g_i2l dX6_weighsAll_62 ?_
      refine g_iload_n 2 dX6_weighsAll_63 rfl rfl ?_
      refine g_iload 4 dX6_weighsAll_64 rfl ?_
      refine g_isub dX6_weighsAll_66 ?_
      obtain ⟨v20, hc21, hf⟩ := obd_some hf
      refine g_callSl (As := [.long (Int32.toInt64 ((10 : Int32) - ((O_bars s11) (Int32.toNatClampNeg (0 : Int32))))), .int (x9 - x10)]) (rest := [.long ((Int32.toInt64 ((O_bars s11) (Int32.toNatClampNeg (2 : Int32)))) * v17)]) (w2 := (wO cs ad s11)) 0 dX6_weighsAll_67 vX6_weighsAll_202 (c_X6_power hty hc21) rfl (midm _) rfl (Nat.le_of_ble_eq_true rfl) ⟨Nat.zero_le _, Nat.zero_le _⟩ (midn _) ?_
      refine g_lmul dX6_weighsAll_70 ?_
      obtain ⟨z22, e_z22, hf⟩ := olt_some hf
      refine g_cast rfl rfl (congrArg (fun q => Value.long q :: []) e_z22) rfl ?_
      refine g_lstore (lv2 := [(6, .long z22), (0, .ref (ad 0)), (1, .int x12), (2, .int x9), (3, .long x13), (5, .int x10)]) dX6_weighsAll_71 (by decide) rfl ?_
      refine g_aload_n 1 dX6_weighsAll_73 rfl rfl ?_
      refine g_get (ci := 6) (T := TX6) (N := 29) 0 21 (.ref (ad 10)) dX6_weighsAll_74 iX6_weighsAll_X6 rfl jX6_weighsAll_39 (by decide) wlaO_0 rfl ?_
      refine g_iconst (v := (3 : Int32)) dX6_weighsAll_77 (by decide) ?_
      obtain ⟨h23, hf⟩ := ochi_some hf
      refine g_iald 10 0 dX6_weighsAll_78 wlaO_10 (tI hty) h23 ?_
      refine g_i2l dX6_weighsAll_79 ?_
      refine g_aload_n 1 dX6_weighsAll_80 rfl rfl ?_
      refine g_get (ci := 6) (T := TX6) (N := 29) 0 21 (.ref (ad 10)) dX6_weighsAll_81 iX6_weighsAll_X6 rfl jX6_weighsAll_39 (by decide) wlaO_0 rfl ?_
      refine g_iconst (v := (1 : Int32)) dX6_weighsAll_84 (by decide) ?_
      obtain ⟨h24, hf⟩ := ochi_some hf
      refine g_iald 10 0 dX6_weighsAll_85 wlaO_10 (tI hty) h24 ?_
      refine g_i2l dX6_weighsAll_86 ?_
      refine g_iload 5 dX6_weighsAll_87 rfl ?_
      obtain ⟨v25, hc26, hf⟩ := obd_some hf
      refine g_callSl (As := [.long (Int32.toInt64 ((O_bars s11) (Int32.toNatClampNeg (1 : Int32)))), .int x10]) (rest := [.long (Int32.toInt64 ((O_bars s11) (Int32.toNatClampNeg (3 : Int32))))]) (w2 := (wO cs ad s11)) 0 dX6_weighsAll_89 vX6_weighsAll_202 (c_X6_power hty hc26) rfl (midm _) rfl (Nat.le_of_ble_eq_true rfl) ⟨Nat.zero_le _, Nat.zero_le _⟩ (midn _) ?_
      refine g_lmul dX6_weighsAll_92 ?_
      refine g_bipush (v := (10 : Int32)) dX6_weighsAll_93 (by decide) ?_
      refine g_aload_n 1 dX6_weighsAll_95 rfl rfl ?_
      refine g_get (ci := 6) (T := TX6) (N := 29) 0 21 (.ref (ad 10)) dX6_weighsAll_96 iX6_weighsAll_X6 rfl jX6_weighsAll_39 (by decide) wlaO_0 rfl ?_
      refine g_iconst (v := (1 : Int32)) dX6_weighsAll_99 (by decide) ?_
      obtain ⟨h27, hf⟩ := ochi_some hf
      refine g_iald 10 0 dX6_weighsAll_100 wlaO_10 (tI hty) h27 ?_
      refine g_isub dX6_weighsAll_101 ?_
      refine g_i2l dX6_weighsAll_102 ?_
      refine g_iload_n 3 dX6_weighsAll_103 rfl rfl ?_
      refine g_iload 5 dX6_weighsAll_104 rfl ?_
      refine g_isub dX6_weighsAll_106 ?_
      obtain ⟨v28, hc29, hf⟩ := obd_some hf
      refine g_callSl (As := [.long (Int32.toInt64 ((10 : Int32) - ((O_bars s11) (Int32.toNatClampNeg (1 : Int32))))), .int (x9 - x10)]) (rest := [.long ((Int32.toInt64 ((O_bars s11) (Int32.toNatClampNeg (3 : Int32)))) * v25)]) (w2 := (wO cs ad s11)) 0 dX6_weighsAll_107 vX6_weighsAll_202 (c_X6_power hty hc29) rfl (midm _) rfl (Nat.le_of_ble_eq_true rfl) ⟨Nat.zero_le _, Nat.zero_le _⟩ (midn _) ?_
      refine g_lmul dX6_weighsAll_110 ?_
      obtain ⟨z30, e_z30, hf⟩ := olt_some hf
      refine g_cast rfl rfl (congrArg (fun q => Value.long q :: []) e_z30) rfl ?_
      refine g_lstore (lv2 := [(8, .long z30), (6, .long z22), (0, .ref (ad 0)), (1, .int x12), (2, .int x9), (3, .long x13), (5, .int x10)]) dX6_weighsAll_111 (by decide) rfl ?_
      refine g_aload_n 2 dX6_weighsAll_113 rfl rfl ?_
      refine g_get (ci := 6) (T := TX6) (N := 29) 0 21 (.ref (ad 10)) dX6_weighsAll_114 iX6_weighsAll_X6 rfl jX6_weighsAll_39 (by decide) wlaO_0 rfl ?_
      refine g_iconst (v := (4 : Int32)) dX6_weighsAll_117 (by decide) ?_
      obtain ⟨h31, hf⟩ := ochi_some hf
      refine g_iald 10 0 dX6_weighsAll_118 wlaO_10 (tI hty) h31 ?_
      refine g_i2l dX6_weighsAll_119 ?_
      refine g_lload 1 dX6_weighsAll_120 rfl ?_
      refine g_lmul dX6_weighsAll_122 ?_
      refine g_lload_n 5 dX6_weighsAll_123 rfl rfl ?_
      refine g_lmul dX6_weighsAll_124 ?_
      obtain ⟨z32, e_z32, hf⟩ := olt_some hf
      refine g_cast rfl rfl (congrArg (fun q => Value.long q :: []) e_z32) rfl ?_
      refine g_lstore (lv2 := [(10, .long z32), (8, .long z30), (6, .long z22), (0, .ref (ad 0)), (1, .int x12), (2, .int x9), (3, .long x13), (5, .int x10)]) dX6_weighsAll_125 (by decide) rfl ?_
      refine g_iconst (v := (0 : Int32)) dX6_weighsAll_127 (by decide) ?_
      refine g_istore (lv2 := [(12, .int (0 : Int32)), (10, .long z32), (8, .long z30), (6, .long z22), (0, .ref (ad 0)), (1, .int x12), (2, .int x9), (3, .long x13), (5, .int x10)]) dX6_weighsAll_128 (by decide) rfl ?_
      refine g_aload_n 4 dX6_weighsAll_130 rfl rfl ?_
      refine g_get (ci := 6) (T := TX6) (N := 29) 0 21 (.ref (ad 10)) dX6_weighsAll_131 iX6_weighsAll_X6 rfl jX6_weighsAll_39 (by decide) wlaO_0 rfl ?_
      refine g_iconst (v := (5 : Int32)) dX6_weighsAll_134 (by decide) ?_
      obtain ⟨h33, hf⟩ := ochi_some hf
      refine g_iald 10 0 dX6_weighsAll_135 wlaO_10 (tI hty) h33 ?_
      refine g_i2l dX6_weighsAll_136 ?_
      refine g_lload 2 dX6_weighsAll_137 rfl ?_
      refine g_lmul dX6_weighsAll_139 ?_
      refine g_lload_n 7 dX6_weighsAll_140 rfl rfl ?_
      refine g_lmul dX6_weighsAll_141 ?_
      obtain ⟨z34, e_z34, hf⟩ := olt_some hf
      refine g_cast rfl rfl (congrArg (fun q => Value.long q :: []) e_z34) rfl ?_
      refine g_lstore (lv2 := [(13, .long z34), (12, .int (0 : Int32)), (10, .long z32), (8, .long z30), (6, .long z22), (0, .ref (ad 0)), (1, .int x12), (2, .int x9), (3, .long x13), (5, .int x10)]) dX6_weighsAll_142 (by decide) rfl ?_
      refine g_lload 0 dX6_weighsAll_144 rfl ?_
      refine g_lload 2 dX6_weighsAll_146 rfl ?_
      refine g_lcmp dX6_weighsAll_148 ?_
      obtain ⟨v36, hE_v36, hf⟩ := obd_some hf
      have J_v36 : G E kX6_weighsAll 0 0 159 [(0, .ref (ad 0)), (1, .int x12), (2, .int x9), (3, .long x13), (5, .int x10), (6, .long z22), (8, .long z30), (10, .long v36.1), (12, .int v36.2)] [] (wO cs ad s11) := by
        refine g_iload_n 2 dX6_weighsAll_159 rfl rfl ?_
        refine g_iload_n 1 dX6_weighsAll_160 rfl rfl ?_
        obtain ⟨v47, hE_v47, hf⟩ := obd_some hf
        have J_v47 : G E kX6_weighsAll 0 0 247 [(0, .ref (ad 0)), (1, .int x12), (2, .int x9), (3, .long x13), (5, .int x10), (10, .long v47.1), (12, .int v47.2)] [] (wO cs ad s11) := by
          refine g_aload_n 0 dX6_weighsAll_247 rfl rfl ?_
          refine g_get (ci := 6) (T := TX6) (N := 29) 0 23 (.ref (ad 12)) dX6_weighsAll_248 iX6_weighsAll_X6 rfl jX6_weighsAll_45 (by decide) wlaO_0 rfl ?_
          refine g_bipush (v := (10 : Int32)) dX6_weighsAll_251 (by decide) ?_
          refine g_iload_n 2 dX6_weighsAll_253 rfl rfl ?_
          refine g_imul dX6_weighsAll_254 ?_
          refine g_iload 4 dX6_weighsAll_255 rfl ?_
          refine g_iadd dX6_weighsAll_257 ?_
          refine g_lload 5 dX6_weighsAll_258 rfl ?_
          obtain ⟨h57, hf⟩ := ochi_some hf
          obtain ⟨s58, e_s58, hf⟩ := olt_some hf
          refine g_last (w2 := (wO cs ad s58)) 12 1 dX6_weighsAll_260 wlaO_12 (tJ hty) h57 (wlsO_12.trans (congrArg (wO cs ad) e_s58)) ?_
          refine g_aload_n 0 dX6_weighsAll_261 rfl rfl ?_
          refine g_get (ci := 6) (T := TX6) (N := 29) 0 24 (.ref (ad 13)) dX6_weighsAll_262 iX6_weighsAll_X6 rfl jX6_weighsAll_48 (by decide) wlaO_0 rfl ?_
          refine g_bipush (v := (10 : Int32)) dX6_weighsAll_265 (by decide) ?_
          refine g_iload_n 2 dX6_weighsAll_267 rfl rfl ?_
          refine g_imul dX6_weighsAll_268 ?_
          refine g_iload 4 dX6_weighsAll_269 rfl ?_
          refine g_iadd dX6_weighsAll_271 ?_
          refine g_iload 6 dX6_weighsAll_272 rfl ?_
          obtain ⟨h59, hf⟩ := ochi_some hf
          obtain ⟨s60, e_s60, hf⟩ := olt_some hf
          refine g_iast (w2 := (wO cs ad s60)) 13 0 dX6_weighsAll_274 wlaO_13 (tI hty) h59 (wlsO_13.trans (congrArg (wO cs ad) e_s60)) ?_
          refine g_iinc (lv2 := [(5, .int (x10 + 1)), (0, .ref (ad 0)), (1, .int x12), (2, .int x9), (3, .long x13), (10, .long v47.1), (12, .int v47.2)]) 4 dX6_weighsAll_275 rfl (ii1 _) (by decide) rfl ?_
          refine g_goto (tgt := 27) dX6_weighsAll_278 (by decide) ?_
          exact g_sub [1, 2, 3, 4, 0] rfl (ih x9 (x10 + 1) s60 hf)
        have hf := hE_v47
        refine g_icmp_ge (tgt := 247) dX6_weighsAll_161 (by decide) (fun h48 => ?_) (fun h48 => ?_)
        · have hf := ift h48 hf
          obtain rfl := Option.some.inj hf
          exact g_sub [0, 1, 2, 3, 4, 7, 8] rfl J_v47
        · have hf := iff_ h48 hf
          refine g_aload_n 0 dX6_weighsAll_164 rfl rfl ?_
          refine g_get (ci := 6) (T := TX6) (N := 29) 0 21 (.ref (ad 10)) dX6_weighsAll_165 iX6_weighsAll_X6 rfl jX6_weighsAll_39 (by decide) wlaO_0 rfl ?_
          refine g_bipush (v := (6 : Int32)) dX6_weighsAll_168 (by decide) ?_
          obtain ⟨h49, hf⟩ := ochi_some hf
          refine g_iald 10 0 dX6_weighsAll_170 wlaO_10 (tI hty) h49 ?_
          refine g_i2l dX6_weighsAll_171 ?_
          refine g_lload 5 dX6_weighsAll_172 rfl ?_
          refine g_lload 6 dX6_weighsAll_174 rfl ?_
          refine g_ladd dX6_weighsAll_176 ?_
          refine g_lmul dX6_weighsAll_177 ?_
          refine g_lload_n 3 dX6_weighsAll_178 rfl rfl ?_
          refine g_lmul dX6_weighsAll_179 ?_
          refine g_aload_n 0 dX6_weighsAll_180 rfl rfl ?_
          refine g_get (ci := 6) (T := TX6) (N := 29) 0 23 (.ref (ad 12)) dX6_weighsAll_181 iX6_weighsAll_X6 rfl jX6_weighsAll_45 (by decide) wlaO_0 rfl ?_
          refine g_bipush (v := (10 : Int32)) dX6_weighsAll_184 (by decide) ?_
          refine g_iload_n 2 dX6_weighsAll_186 rfl rfl ?_
          refine g_iconst (v := (1 : Int32)) dX6_weighsAll_187 (by decide) ?_
          refine g_iadd dX6_weighsAll_188 ?_
          refine g_imul dX6_weighsAll_189 ?_
          refine g_iload 4 dX6_weighsAll_190 rfl ?_
          refine g_iadd dX6_weighsAll_192 ?_
          refine g_iconst (v := (1 : Int32)) dX6_weighsAll_193 (by decide) ?_
          refine g_iadd dX6_weighsAll_194 ?_
          obtain ⟨h50, hf⟩ := ochi_some hf
          refine g_lald 12 1 dX6_weighsAll_195 wlaO_12 (tJ hty) h50 ?_
          refine g_ladd dX6_weighsAll_196 ?_
          refine g_aload_n 0 dX6_weighsAll_197 rfl rfl ?_
          refine g_get (ci := 6) (T := TX6) (N := 29) 0 23 (.ref (ad 12)) dX6_weighsAll_198 iX6_weighsAll_X6 rfl jX6_weighsAll_45 (by decide) wlaO_0 rfl ?_
          refine g_bipush (v := (10 : Int32)) dX6_weighsAll_201 (by decide) ?_
          refine g_iload_n 2 dX6_weighsAll_203 rfl rfl ?_
          refine g_iconst (v := (1 : Int32)) dX6_weighsAll_204 (by decide) ?_
          refine g_iadd dX6_weighsAll_205 ?_
          refine g_imul dX6_weighsAll_206 ?_
          refine g_iload 4 dX6_weighsAll_207 rfl ?_
          refine g_iadd dX6_weighsAll_209 ?_
          obtain ⟨h51, hf⟩ := ochi_some hf
          refine g_lald 12 1 dX6_weighsAll_210 wlaO_12 (tJ hty) h51 ?_
          refine g_ladd dX6_weighsAll_211 ?_
          obtain ⟨z52, e_z52, hf⟩ := olt_some hf
          refine g_cast rfl rfl (congrArg (fun q => Value.long q :: []) e_z52) rfl ?_
          refine g_lstore (lv2 := [(15, .long z52), (0, .ref (ad 0)), (1, .int x12), (2, .int x9), (3, .long x13), (5, .int x10), (6, .long z22), (8, .long z30), (10, .long v36.1), (12, .int v36.2)]) dX6_weighsAll_212 (by decide) rfl ?_
          refine g_lload 0 dX6_weighsAll_214 rfl ?_
          refine g_lload 8 dX6_weighsAll_216 rfl ?_
          refine g_lcmp dX6_weighsAll_218 ?_
          obtain ⟨v54, hE_v54, hf⟩ := obd_some hf
          have J_v54 : G E kX6_weighsAll 0 0 228 [(0, .ref (ad 0)), (1, .int x12), (2, .int x9), (3, .long x13), (5, .int x10), (10, .long v36.1), (15, .long z52)] [.int v54] (wO cs ad s11) := by
            refine g_istore (lv2 := [(12, .int v54), (0, .ref (ad 0)), (1, .int x12), (2, .int x9), (3, .long x13), (5, .int x10), (10, .long v36.1), (15, .long z52)]) dX6_weighsAll_228 (by decide) rfl ?_
            refine g_lload 7 dX6_weighsAll_230 rfl ?_
            refine g_lload 6 dX6_weighsAll_232 rfl ?_
            refine g_lcmp dX6_weighsAll_234 ?_
            refine g_if_ge (tgt := 243) dX6_weighsAll_235 (by decide) (fun h56 => ?_) (fun h56 => ?_)
            · have hf := ift h56 hf
              refine g_lload 6 dX6_weighsAll_243 rfl ?_
              refine g_lstore (lv2 := [(10, .long v36.1), (12, .int v54), (0, .ref (ad 0)), (1, .int x12), (2, .int x9), (3, .long x13), (5, .int x10), (15, .long z52)]) dX6_weighsAll_245 (by decide) rfl ?_
              obtain rfl := Option.some.inj hf
              exact g_sub [2, 3, 4, 5, 6, 0, 1] rfl J_v47
            · have hf := iff_ h56 hf
              refine g_lload 7 dX6_weighsAll_238 rfl ?_
              refine g_goto (tgt := 245) dX6_weighsAll_240 (by decide) ?_
              refine g_lstore (lv2 := [(10, .long z52), (12, .int v54), (0, .ref (ad 0)), (1, .int x12), (2, .int x9), (3, .long x13), (5, .int x10), (15, .long z52)]) dX6_weighsAll_245 (by decide) rfl ?_
              obtain rfl := Option.some.inj hf
              exact g_sub [2, 3, 4, 5, 6, 0, 1] rfl J_v47
          have hf := hE_v54
          refine g_if_ge (tgt := 226) dX6_weighsAll_219 (by decide) (fun h55 => ?_) (fun h55 => ?_)
          · have hf := ift h55 hf
            refine g_iload 9 dX6_weighsAll_226 rfl ?_
            obtain rfl := Option.some.inj hf
            exact g_sub [1, 2, 3, 4, 5, 8, 0] rfl J_v54
          · have hf := iff_ h55 hf
            refine g_iconst (v := (2 : Int32)) dX6_weighsAll_222 (by decide) ?_
            refine g_goto (tgt := 228) dX6_weighsAll_223 (by decide) ?_
            obtain rfl := Option.some.inj hf
            exact g_sub [1, 2, 3, 4, 5, 8, 0] rfl J_v54
      have hf := hE_v36
      refine g_if_ge (tgt := 159) dX6_weighsAll_149 (by decide) (fun h37 => ?_) (fun h37 => ?_)
      · have hf := ift h37 hf
        obtain rfl := Option.some.inj hf
        exact g_sub [5, 6, 7, 8, 9, 4, 3, 2, 1] rfl J_v36
      · have hf := iff_ h37 hf
        refine g_lload 0 dX6_weighsAll_152 rfl ?_
        refine g_lstore (lv2 := [(10, .long z34), (13, .long z34), (12, .int (0 : Int32)), (8, .long z30), (6, .long z22), (0, .ref (ad 0)), (1, .int x12), (2, .int x9), (3, .long x13), (5, .int x10)]) dX6_weighsAll_154 (by decide) rfl ?_
        refine g_iconst (v := (1 : Int32)) dX6_weighsAll_156 (by decide) ?_
        refine g_istore (lv2 := [(12, .int (1 : Int32)), (10, .long z34), (13, .long z34), (8, .long z30), (6, .long z22), (0, .ref (ad 0)), (1, .int x12), (2, .int x9), (3, .long x13), (5, .int x10)]) dX6_weighsAll_157 (by decide) rfl ?_
        obtain rfl := Option.some.inj hf
        exact g_sub [5, 6, 7, 8, 9, 4, 3, 1, 0] rfl J_v36

set_option maxHeartbeats 4000000 in
set_option maxRecDepth 100000 in
theorem w_X6_weighsAll_L10 {E : GE} {cs : CS} {ad : Nat → Nat} {F : Nat} {x5 : Int32} {r : SO} (hty : eT E = tyA cs) (hr : Rv E kX6_weighsAll (wO cs ad r)) : ∀ (n : Nat) (x3 : Int32) (s4 : SO), f_X6_weighsAll_L10 F x5 n x3 s4 = some r → G E kX6_weighsAll 0 0 10 [(0, .ref (ad 0)), (1, .int x5), (2, .int x3)] [] (wO cs ad s4) := by
  intro n
  induction n with
  | zero =>
    intro x3 s4 hf
    cases (show (none : Option SO) = some r from hf)
  | succ n ih =>
    intro x3 s4 hf
    rw [f_X6_weighsAll_L10] at hf
    refine g_iload_n 2 dX6_weighsAll_10 rfl rfl ?_
    refine g_if_lt (tgt := 287) dX6_weighsAll_11 (by decide) (fun h6 => ?_) (fun h6 => ?_)
    · have hf := ift h6 hf
      obtain rfl := Option.some.inj hf
      exact hr _ _ dX6_weighsAll_287
    · have hf := iff_ h6 hf
      refine g_ldc2 (v := (10 : Int64)) dX6_weighsAll_14 qX6_weighsAll_213 ?_
      refine g_iload_n 1 dX6_weighsAll_17 rfl rfl ?_
      refine g_iload_n 2 dX6_weighsAll_18 rfl rfl ?_
      refine g_isub dX6_weighsAll_19 ?_
      obtain ⟨v7, hc8, hf⟩ := obd_some hf
      refine g_callSl (As := [.long (10 : Int64), .int (x5 - x3)]) (rest := []) (w2 := (wO cs ad s4)) 0 dX6_weighsAll_20 vX6_weighsAll_202 (c_X6_power hty hc8) rfl (midm _) rfl (Nat.le_of_ble_eq_true rfl) ⟨Nat.zero_le _, Nat.zero_le _⟩ (midn _) ?_
      refine g_lstore_n (lv2 := [(3, .long v7), (0, .ref (ad 0)), (1, .int x5), (2, .int x3)]) dX6_weighsAll_23 rfl (by decide) rfl ?_
      refine g_iconst (v := (0 : Int32)) dX6_weighsAll_24 (by decide) ?_
      refine g_istore (lv2 := [(5, .int (0 : Int32)), (3, .long v7), (0, .ref (ad 0)), (1, .int x5), (2, .int x3)]) dX6_weighsAll_25 (by decide) rfl ?_
      exact g_sub [2, 3, 4, 1, 0] rfl (w_X6_weighsAll_L27 hty hr ih F x3 (0 : Int32) s4 hf)

set_option maxHeartbeats 4000000 in
set_option maxRecDepth 100000 in
theorem c_X6_weighsAll {l : Launch} {D : va_G} {tys : List (ClassId × FieldType)} {X : XT} {cs : CS} (ad : Nat → Nat) {F : Nat} {s : SO} {r : SO} (htyM : tys = tyA cs) (hf : f_X6_weighsAll F s = some r) : Cv l D tys X yX6_weighsAll wsX6_weighsAll rmX6_weighsAll [.ref (ad 0)] (wO cs ad s) (wO cs ad r) := by
  refine Cv_ofG (by decide +kernel) rfl (Nat.le_of_ble_eq_true rfl) (fun E _ _ hty0 hX0 hr => ?_)
  have hty := hty0.trans htyM
  have hr : Rv E kX6_weighsAll (wO cs ad r) := hr
  show G E kX6_weighsAll 0 0 0 [(0, .ref (ad 0))] [] (wO cs ad s)
  unfold f_X6_weighsAll at hf
  refine g_aload_n 0 dX6_weighsAll_0 rfl rfl ?_
  refine g_get (ci := 6) (T := TX6) (N := 29) 0 21 (.ref (ad 10)) dX6_weighsAll_1 iX6_weighsAll_X6 rfl jX6_weighsAll_39 (by decide) wlaO_0 rfl ?_
  refine g_bipush (v := (7 : Int32)) dX6_weighsAll_4 (by decide) ?_
  obtain ⟨h1, hf⟩ := ochi_some hf
  refine g_iald 10 0 dX6_weighsAll_6 wlaO_10 (tI hty) h1 ?_
  obtain ⟨z2, e_z2, hf⟩ := olt_some hf
  refine g_cast rfl rfl (congrArg (fun q => Value.int q :: []) e_z2) rfl ?_
  refine g_istore_n (lv2 := [(1, .int z2), (0, .ref (ad 0))]) dX6_weighsAll_7 rfl (by decide) rfl ?_
  refine g_iload_n 0 dX6_weighsAll_8 rfl rfl ?_
  refine g_istore_n (lv2 := [(2, .int z2), (1, .int z2), (0, .ref (ad 0))]) dX6_weighsAll_9 rfl (by decide) rfl ?_
  exact g_sub [2, 1, 0] rfl (w_X6_weighsAll_L10 hty hr F z2 s hf)

-- ThumbScaleModel isBehind (II)Z
def rmX6_isBehind : Room := { frames := 1, cells := 0, slots := 0, locals := 22 }
def kX6_isBehind : MK := (cX6_isBehind, 3, RX6, wsX6_isBehind, (some .boolean), rmX6_isBehind)

set_option maxRecDepth 20000 in
theorem jX6_isBehind_39 : Cond.fieldLink RX6 39 (TX6 21).1 (TX6 21).2.1 (TX6 21).2.2.1 ∈ wsX6_isBehind := by decide +kernel
set_option maxRecDepth 20000 in
theorem iX6_isBehind_X6 : ∀ x ∈ u_ws RX6 TX6 29, x ∈ wsX6_isBehind := by decide +kernel
set_option maxRecDepth 20000 in
theorem vX6_isBehind_61 : KS kX6_isBehind 61 yX6_in wsX6_in rmX6_in 3 := ⟨_, _, _, _, gX6_isBehind_X6_in, rfl, rfl, rfl, by decide +kernel, ⟨by decide, by decide⟩⟩
def f_X6_isBehind (F : Nat) (s : SO) (a1 : Int32) (a2 : Int32) : Option Int32 :=
    ochi (7 : Int32) 8 (
    obd (f_X6_in F a1 (0 : Int32) ((O_bars s) (Int32.toNatClampNeg (7 : Int32)))) (fun v2 =>
    (if v2 = 0 then
    some (0 : Int32)
    else
    obd (f_X6_in F a2 (0 : Int32) a1) (fun v5 =>
    (if v5 = 0 then
    some (0 : Int32)
    else
    some (1 : Int32))))))

set_option maxHeartbeats 4000000 in
set_option maxRecDepth 100000 in
theorem c_X6_isBehind {l : Launch} {D : va_G} {tys : List (ClassId × FieldType)} {X : XT} {cs : CS} (ad : Nat → Nat) {F : Nat} {s : SO} {a1 : Int32} {a2 : Int32} {r : Int32} (htyM : tys = tyA cs) (hf : f_X6_isBehind F s a1 a2 = some r) : Ci l D tys X yX6_isBehind wsX6_isBehind rmX6_isBehind [.ref (ad 0), .int a1, .int a2] (wO cs ad s) r (wO cs ad s) := by
  refine Cz_ofG (by decide +kernel) rfl (Nat.le_of_ble_eq_true rfl) (fun E _ _ hty0 hX0 hr => ?_)
  have hty := hty0.trans htyM
  have hr : Rz E kX6_isBehind r (wO cs ad s) := hr
  show G E kX6_isBehind 0 0 0 [(0, .ref (ad 0)), (1, .int a1), (2, .int a2)] [] (wO cs ad s)
  unfold f_X6_isBehind at hf
  refine g_iload_n 1 dX6_isBehind_0 rfl rfl ?_
  refine g_iconst (v := (0 : Int32)) dX6_isBehind_1 (by decide) ?_
  refine g_aload_n 0 dX6_isBehind_2 rfl rfl ?_
  refine g_get (ci := 6) (T := TX6) (N := 29) 0 21 (.ref (ad 10)) dX6_isBehind_3 iX6_isBehind_X6 rfl jX6_isBehind_39 (by decide) wlaO_0 rfl ?_
  refine g_bipush (v := (7 : Int32)) dX6_isBehind_6 (by decide) ?_
  obtain ⟨h1, hf⟩ := ochi_some hf
  refine g_iald 10 0 dX6_isBehind_8 wlaO_10 (tI hty) h1 ?_
  obtain ⟨v2, hc3, hf⟩ := obd_some hf
  refine g_callSi (As := [.int a1, .int (0 : Int32), .int ((O_bars s) (Int32.toNatClampNeg (7 : Int32)))]) (rest := []) (w2 := (wO cs ad s)) 0 dX6_isBehind_9 vX6_isBehind_61 (c_X6_in hty hc3) rfl (midm _) rfl (Nat.le_of_ble_eq_true rfl) ⟨Nat.zero_le _, Nat.zero_le _⟩ (midn _) ?_
  refine g_if_eq (tgt := 28) dX6_isBehind_12 (by decide) (fun h4 => ?_) (fun h4 => ?_)
  · have hf := ift h4 hf
    refine g_iconst (v := (0 : Int32)) dX6_isBehind_28 (by decide) ?_
    obtain rfl := Option.some.inj hf
    exact hr _ _ dX6_isBehind_29 (Or.inl rfl)
  · have hf := iff_ h4 hf
    refine g_iload_n 2 dX6_isBehind_15 rfl rfl ?_
    refine g_iconst (v := (0 : Int32)) dX6_isBehind_16 (by decide) ?_
    refine g_iload_n 1 dX6_isBehind_17 rfl rfl ?_
    obtain ⟨v5, hc6, hf⟩ := obd_some hf
    refine g_callSi (As := [.int a2, .int (0 : Int32), .int a1]) (rest := []) (w2 := (wO cs ad s)) 0 dX6_isBehind_18 vX6_isBehind_61 (c_X6_in hty hc6) rfl (midm _) rfl (Nat.le_of_ble_eq_true rfl) ⟨Nat.zero_le _, Nat.zero_le _⟩ (midn _) ?_
    refine g_if_eq (tgt := 28) dX6_isBehind_21 (by decide) (fun h7 => ?_) (fun h7 => ?_)
    · have hf := ift h7 hf
      refine g_iconst (v := (0 : Int32)) dX6_isBehind_28 (by decide) ?_
      obtain rfl := Option.some.inj hf
      exact hr _ _ dX6_isBehind_29 (Or.inl rfl)
    · have hf := iff_ h7 hf
      refine g_iconst (v := (1 : Int32)) dX6_isBehind_24 (by decide) ?_
      refine g_goto (tgt := 29) dX6_isBehind_25 (by decide) ?_
      obtain rfl := Option.some.inj hf
      exact hr _ _ dX6_isBehind_29 (Or.inr rfl)

-- ThumbScaleModel isTrue (I)Z
def rmX6_isTrue : Room := { frames := 2, cells := 0, slots := 0, locals := 45 }
def kX6_isTrue : MK := (cX6_isTrue, 3, RX6, wsX6_isTrue, (some .boolean), rmX6_isTrue)

set_option maxRecDepth 20000 in
theorem jX6_isTrue_241 : Cond.fieldLink RX6 241 (TX6 26).1 (TX6 26).2.1 (TX6 26).2.2.1 ∈ wsX6_isTrue := by decide +kernel
set_option maxRecDepth 20000 in
theorem iX6_isTrue_X6 : ∀ x ∈ u_ws RX6 TX6 29, x ∈ wsX6_isTrue := by decide +kernel
set_option maxRecDepth 20000 in
theorem jX6_isTrue_245 : Cond.fieldLink RX6 245 (TX6 27).1 (TX6 27).2.1 (TX6 27).2.2.1 ∈ wsX6_isTrue := by decide +kernel
set_option maxRecDepth 20000 in
theorem jX6_isTrue_7 : Cond.fieldLink RX6 7 (TX6 2).1 (TX6 2).2.1 (TX6 2).2.2.1 ∈ wsX6_isTrue := by decide +kernel
set_option maxRecDepth 20000 in
theorem jX6_isTrue_30 : Cond.fieldLink RX6 30 (TX6 14).1 (TX6 14).2.1 (TX6 14).2.2.1 ∈ wsX6_isTrue := by decide +kernel
set_option maxRecDepth 20000 in
theorem vX6_isTrue_161 : KV kX6_isTrue 161 RX6 yX6_bagsOf wsX6_bagsOf rmX6_bagsOf 1 := ⟨_, _, _, _, gX6_isTrue_X6_bagsOf, rfl, rfl, rfl, by decide +kernel, ⟨by decide, by decide⟩⟩
set_option maxRecDepth 20000 in
theorem vX6_isTrue_155 : KV kX6_isTrue 155 RX6 yX6_bag wsX6_bag rmX6_bag 2 := ⟨_, _, _, _, gX6_isTrue_X6_bag, rfl, rfl, rfl, by decide +kernel, ⟨by decide, by decide⟩⟩
set_option maxRecDepth 20000 in
theorem vX6_isTrue_180 : KV kX6_isTrue 180 RX6 yX6_shortOf wsX6_shortOf rmX6_shortOf 1 := ⟨_, _, _, _, gX6_isTrue_X6_shortOf, rfl, rfl, rfl, by decide +kernel, ⟨by decide, by decide⟩⟩
def f_X6_isTrue_L12 (F : Nat) (a1 : Int32) : Nat → Int32 → SO → Option (Int32 × SO)
  | 0, _, _ => none
  | n + 1, x3, s4 =>
    ochi (0 : Int32) 264 (
    (if ((O_s s4) (Int32.toNatClampNeg (0 : Int32))) ≤ x3 then
    ochi (((3 : Int32) * a1) + (2 : Int32)) 36 (
    olt ((O_up s4) * (Int32.toInt64 ((O_stall s4) (Int32.toNatClampNeg (((3 : Int32) * a1) + (2 : Int32)))))) (fun z8 =>
    olt (uO_up s4 z8) (fun s9 =>
    obd (f_X6_bagsOf F s9 a1) (fun v10 =>
    (if v10 ≤ 0 then
    some ((0 : Int32), s9)
    else
    (if (lg_cmp (O_down s9) (0 : Int64)) ≤ 0 then
    some ((0 : Int32), s9)
    else
    some ((1 : Int32), s9)))))))
    else
    obd (f_X6_bag F s4 x3 (0 : Int32)) (fun v14 =>
    (if v14 = a1 then
    obd (f_X6_bag F s4 x3 (3 : Int32)) (fun v17 =>
    olt ((O_up s4) + (Int32.toInt64 v17)) (fun z19 =>
    olt (uO_up s4 z19) (fun s20 =>
    obd (f_X6_bag F s20 x3 (3 : Int32)) (fun v21 =>
    obd (f_X6_shortOf F s20 x3) (fun v23 =>
    olt ((O_down s20) + (Int32.toInt64 (v21 - v23))) (fun z25 =>
    olt (uO_down s20 z25) (fun s26 =>
    f_X6_isTrue_L12 F a1 n (x3 + 1) s26)))))))
    else
    f_X6_isTrue_L12 F a1 n (x3 + 1) s4))))

def f_X6_isTrue (F : Nat) (s : SO) (a1 : Int32) : Option (Int32 × SO) :=
    olt (uO_up s (0 : Int64)) (fun s1 =>
    olt (uO_down s1 (0 : Int64)) (fun s2 =>
    f_X6_isTrue_L12 F a1 F (0 : Int32) s2))

set_option maxHeartbeats 4000000 in
set_option maxRecDepth 100000 in
theorem w_X6_isTrue_L12 {E : GE} {cs : CS} {ad : Nat → Nat} {F : Nat} {a1 : Int32} {r : (Int32 × SO)} (hty : eT E = tyA cs) (hr : Rz E kX6_isTrue r.1 (wO cs ad r.2)) : ∀ (n : Nat) (x3 : Int32) (s4 : SO), f_X6_isTrue_L12 F a1 n x3 s4 = some r → G E kX6_isTrue 0 0 12 [(0, .ref (ad 0)), (1, .int a1), (2, .int x3)] [] (wO cs ad s4) := by
  intro n
  induction n with
  | zero =>
    intro x3 s4 hf
    cases (show (none : Option (Int32 × SO)) = some r from hf)
  | succ n ih =>
    intro x3 s4 hf
    rw [f_X6_isTrue_L12] at hf
    refine g_iload_n 2 dX6_isTrue_12 rfl rfl ?_
    refine g_aload_n 0 dX6_isTrue_13 rfl rfl ?_
    refine g_get (ci := 6) (T := TX6) (N := 29) 0 2 (.ref (ad 1)) dX6_isTrue_14 iX6_isTrue_X6 rfl jX6_isTrue_7 (by decide) wlaO_0 rfl ?_
    refine g_iconst (v := (0 : Int32)) dX6_isTrue_17 (by decide) ?_
    obtain ⟨h5, hf⟩ := ochi_some hf
    refine g_iald 1 0 dX6_isTrue_18 wlaO_1 (tI hty) h5 ?_
    refine g_icmp_ge (tgt := 76) dX6_isTrue_19 (by decide) (fun h6 => ?_) (fun h6 => ?_)
    · have hf := ift h6 hf
      refine g_aload_n 0 dX6_isTrue_76 rfl rfl ?_
      refine g_dup dX6_isTrue_77 rfl ?_
      refine g_get (ci := 6) (T := TX6) (N := 29) 0 26 (.long (O_up s4)) dX6_isTrue_78 iX6_isTrue_X6 rfl jX6_isTrue_241 (by decide) wlaO_0 rfl ?_
      refine g_aload_n 0 dX6_isTrue_81 rfl rfl ?_
      refine g_get (ci := 6) (T := TX6) (N := 29) 0 14 (.ref (ad 7)) dX6_isTrue_82 iX6_isTrue_X6 rfl jX6_isTrue_30 (by decide) wlaO_0 rfl ?_
      refine g_iconst (v := (3 : Int32)) dX6_isTrue_85 (by decide) ?_
      refine g_iload_n 1 dX6_isTrue_86 rfl rfl ?_
      refine g_imul dX6_isTrue_87 ?_
      refine g_iconst (v := (2 : Int32)) dX6_isTrue_88 (by decide) ?_
      refine g_iadd dX6_isTrue_89 ?_
      obtain ⟨h7, hf⟩ := ochi_some hf
      refine g_iald 7 0 dX6_isTrue_90 wlaO_7 (tI hty) h7 ?_
      refine g_i2l dX6_isTrue_91 ?_
      refine g_lmul dX6_isTrue_92 ?_
      obtain ⟨z8, e_z8, hf⟩ := olt_some hf
      refine g_cast rfl rfl (congrArg (fun q => Value.long q :: [.ref (ad 0)]) e_z8) rfl ?_
      obtain ⟨s9, e_s9, hf⟩ := olt_some hf
      refine g_put (ci := 6) (T := TX6) (N := 29) (ty := .long) (w2 := (wO cs ad s9)) 0 26 (.long z8) tyX6 dX6_isTrue_93 iX6_isTrue_X6 tyX6_ok nmX6 rfl jX6_isTrue_241 (by decide) rfl rfl rfl rfl wlaO_0 (Nat.le_of_ble_eq_true rfl) (wlpO_0_26.trans (congrArg (wO cs ad) e_s9)) ?_
      refine g_aload_n 0 dX6_isTrue_96 rfl rfl ?_
      refine g_iload_n 1 dX6_isTrue_97 rfl rfl ?_
      obtain ⟨v10, hc11, hf⟩ := obd_some hf
      refine g_callVi (ci := 6) (As := [.int a1]) (rest := []) (w2 := (wO cs ad s9)) 0 dX6_isTrue_98 vX6_isTrue_161 (c_X6_bagsOf ad hty hc11) rfl (mid0 _) rfl rfl 0 wlaO_0 rfl (Nat.le_of_ble_eq_true rfl) ⟨Nat.zero_le _, Nat.zero_le _⟩ (mid2 _ _) ?_
      refine g_if_le (tgt := 117) dX6_isTrue_101 (by decide) (fun h12 => ?_) (fun h12 => ?_)
      · have hf := ift h12 hf
        refine g_iconst (v := (0 : Int32)) dX6_isTrue_117 (by decide) ?_
        obtain rfl := Option.some.inj hf
        exact hr _ _ dX6_isTrue_118 (Or.inl rfl)
      · have hf := iff_ h12 hf
        refine g_aload_n 0 dX6_isTrue_104 rfl rfl ?_
        refine g_get (ci := 6) (T := TX6) (N := 29) 0 27 (.long (O_down s9)) dX6_isTrue_105 iX6_isTrue_X6 rfl jX6_isTrue_245 (by decide) wlaO_0 rfl ?_
        refine g_lconst (v := (0 : Int64)) dX6_isTrue_108 (by decide) ?_
        refine g_lcmp dX6_isTrue_109 ?_
        refine g_if_le (tgt := 117) dX6_isTrue_110 (by decide) (fun h13 => ?_) (fun h13 => ?_)
        · have hf := ift h13 hf
          refine g_iconst (v := (0 : Int32)) dX6_isTrue_117 (by decide) ?_
          obtain rfl := Option.some.inj hf
          exact hr _ _ dX6_isTrue_118 (Or.inl rfl)
        · have hf := iff_ h13 hf
          refine g_iconst (v := (1 : Int32)) dX6_isTrue_113 (by decide) ?_
          refine g_goto (tgt := 118) dX6_isTrue_114 (by decide) ?_
          obtain rfl := Option.some.inj hf
          exact hr _ _ dX6_isTrue_118 (Or.inr rfl)
    · have hf := iff_ h6 hf
      refine g_aload_n 0 dX6_isTrue_22 rfl rfl ?_
      refine g_iload_n 2 dX6_isTrue_23 rfl rfl ?_
      refine g_iconst (v := (0 : Int32)) dX6_isTrue_24 (by decide) ?_
      obtain ⟨v14, hc15, hf⟩ := obd_some hf
      refine g_callVi (ci := 6) (As := [.int x3, .int (0 : Int32)]) (rest := []) (w2 := (wO cs ad s4)) 0 dX6_isTrue_25 vX6_isTrue_155 (c_X6_bag ad hty hc15) rfl (mid0 _) rfl rfl 0 wlaO_0 rfl (Nat.le_of_ble_eq_true rfl) ⟨Nat.zero_le _, Nat.zero_le _⟩ (mid2 _ _) ?_
      refine g_iload_n 1 dX6_isTrue_28 rfl rfl ?_
      refine g_icmp_ne (tgt := 70) dX6_isTrue_29 (by decide) (fun h16 => ?_) (fun h16 => ?_)
      · have hf := iff_ h16 hf
        refine g_iinc (lv2 := [(2, .int (x3 + 1)), (0, .ref (ad 0)), (1, .int a1)]) 2 dX6_isTrue_70 rfl (ii1 _) (by decide) rfl ?_
        refine g_goto (tgt := 12) dX6_isTrue_73 (by decide) ?_
        exact g_sub [1, 2, 0] rfl (ih (x3 + 1) s4 hf)
      · have hf := ift h16 hf
        refine g_aload_n 0 dX6_isTrue_32 rfl rfl ?_
        refine g_dup dX6_isTrue_33 rfl ?_
        refine g_get (ci := 6) (T := TX6) (N := 29) 0 26 (.long (O_up s4)) dX6_isTrue_34 iX6_isTrue_X6 rfl jX6_isTrue_241 (by decide) wlaO_0 rfl ?_
        refine g_aload_n 0 dX6_isTrue_37 rfl rfl ?_
        refine g_iload_n 2 dX6_isTrue_38 rfl rfl ?_
        refine g_iconst (v := (3 : Int32)) dX6_isTrue_39 (by decide) ?_
        obtain ⟨v17, hc18, hf⟩ := obd_some hf
        refine g_callVi (ci := 6) (As := [.int x3, .int (3 : Int32)]) (rest := [.long (O_up s4), .ref (ad 0)]) (w2 := (wO cs ad s4)) 0 dX6_isTrue_40 vX6_isTrue_155 (c_X6_bag ad hty hc18) rfl (mid0 _) rfl rfl 0 wlaO_0 rfl (Nat.le_of_ble_eq_true rfl) ⟨Nat.zero_le _, Nat.zero_le _⟩ (mid2 _ _) ?_
        refine g_i2l dX6_isTrue_43 ?_
        refine g_ladd dX6_isTrue_44 ?_
        obtain ⟨z19, e_z19, hf⟩ := olt_some hf
        refine g_cast rfl rfl (congrArg (fun q => Value.long q :: [.ref (ad 0)]) e_z19) rfl ?_
        obtain ⟨s20, e_s20, hf⟩ := olt_some hf
        refine g_put (ci := 6) (T := TX6) (N := 29) (ty := .long) (w2 := (wO cs ad s20)) 0 26 (.long z19) tyX6 dX6_isTrue_45 iX6_isTrue_X6 tyX6_ok nmX6 rfl jX6_isTrue_241 (by decide) rfl rfl rfl rfl wlaO_0 (Nat.le_of_ble_eq_true rfl) (wlpO_0_26.trans (congrArg (wO cs ad) e_s20)) ?_
        refine g_aload_n 0 dX6_isTrue_48 rfl rfl ?_
        refine g_dup dX6_isTrue_49 rfl ?_
        refine g_get (ci := 6) (T := TX6) (N := 29) 0 27 (.long (O_down s20)) dX6_isTrue_50 iX6_isTrue_X6 rfl jX6_isTrue_245 (by decide) wlaO_0 rfl ?_
        refine g_aload_n 0 dX6_isTrue_53 rfl rfl ?_
        refine g_iload_n 2 dX6_isTrue_54 rfl rfl ?_
        refine g_iconst (v := (3 : Int32)) dX6_isTrue_55 (by decide) ?_
        obtain ⟨v21, hc22, hf⟩ := obd_some hf
        refine g_callVi (ci := 6) (As := [.int x3, .int (3 : Int32)]) (rest := [.long (O_down s20), .ref (ad 0)]) (w2 := (wO cs ad s20)) 0 dX6_isTrue_56 vX6_isTrue_155 (c_X6_bag ad hty hc22) rfl (mid0 _) rfl rfl 0 wlaO_0 rfl (Nat.le_of_ble_eq_true rfl) ⟨Nat.zero_le _, Nat.zero_le _⟩ (mid2 _ _) ?_
        refine g_aload_n 0 dX6_isTrue_59 rfl rfl ?_
        refine g_iload_n 2 dX6_isTrue_60 rfl rfl ?_
        obtain ⟨v23, hc24, hf⟩ := obd_some hf
        refine g_callVi (ci := 6) (As := [.int x3]) (rest := [.int v21, .long (O_down s20), .ref (ad 0)]) (w2 := (wO cs ad s20)) 0 dX6_isTrue_61 vX6_isTrue_180 (c_X6_shortOf ad hty hc24) rfl (mid0 _) rfl rfl 0 wlaO_0 rfl (Nat.le_of_ble_eq_true rfl) ⟨Nat.zero_le _, Nat.zero_le _⟩ (mid2 _ _) ?_
        refine g_isub dX6_isTrue_64 ?_
        refine g_i2l dX6_isTrue_65 ?_
        refine g_ladd dX6_isTrue_66 ?_
        obtain ⟨z25, e_z25, hf⟩ := olt_some hf
        refine g_cast rfl rfl (congrArg (fun q => Value.long q :: [.ref (ad 0)]) e_z25) rfl ?_
        obtain ⟨s26, e_s26, hf⟩ := olt_some hf
        refine g_put (ci := 6) (T := TX6) (N := 29) (ty := .long) (w2 := (wO cs ad s26)) 0 27 (.long z25) tyX6 dX6_isTrue_67 iX6_isTrue_X6 tyX6_ok nmX6 rfl jX6_isTrue_245 (by decide) rfl rfl rfl rfl wlaO_0 (Nat.le_of_ble_eq_true rfl) (wlpO_0_27.trans (congrArg (wO cs ad) e_s26)) ?_
        refine g_iinc (lv2 := [(2, .int (x3 + 1)), (0, .ref (ad 0)), (1, .int a1)]) 2 dX6_isTrue_70 rfl (ii1 _) (by decide) rfl ?_
        refine g_goto (tgt := 12) dX6_isTrue_73 (by decide) ?_
        exact g_sub [1, 2, 0] rfl (ih (x3 + 1) s26 hf)

set_option maxHeartbeats 4000000 in
set_option maxRecDepth 100000 in
theorem c_X6_isTrue {l : Launch} {D : va_G} {tys : List (ClassId × FieldType)} {X : XT} {cs : CS} (ad : Nat → Nat) {F : Nat} {s : SO} {a1 : Int32} {r : (Int32 × SO)} (htyM : tys = tyA cs) (hf : f_X6_isTrue F s a1 = some r) : Ci l D tys X yX6_isTrue wsX6_isTrue rmX6_isTrue [.ref (ad 0), .int a1] (wO cs ad s) r.1 (wO cs ad r.2) := by
  refine Cz_ofG (by decide +kernel) rfl (Nat.le_of_ble_eq_true rfl) (fun E _ _ hty0 hX0 hr => ?_)
  have hty := hty0.trans htyM
  have hr : Rz E kX6_isTrue r.1 (wO cs ad r.2) := hr
  show G E kX6_isTrue 0 0 0 [(0, .ref (ad 0)), (1, .int a1)] [] (wO cs ad s)
  unfold f_X6_isTrue at hf
  refine g_aload_n 0 dX6_isTrue_0 rfl rfl ?_
  refine g_lconst (v := (0 : Int64)) dX6_isTrue_1 (by decide) ?_
  obtain ⟨s1, e_s1, hf⟩ := olt_some hf
  refine g_put (ci := 6) (T := TX6) (N := 29) (ty := .long) (w2 := (wO cs ad s1)) 0 26 (.long (0 : Int64)) tyX6 dX6_isTrue_2 iX6_isTrue_X6 tyX6_ok nmX6 rfl jX6_isTrue_241 (by decide) rfl rfl rfl rfl wlaO_0 (Nat.le_of_ble_eq_true rfl) (wlpO_0_26.trans (congrArg (wO cs ad) e_s1)) ?_
  refine g_aload_n 0 dX6_isTrue_5 rfl rfl ?_
  refine g_lconst (v := (0 : Int64)) dX6_isTrue_6 (by decide) ?_
  obtain ⟨s2, e_s2, hf⟩ := olt_some hf
  refine g_put (ci := 6) (T := TX6) (N := 29) (ty := .long) (w2 := (wO cs ad s2)) 0 27 (.long (0 : Int64)) tyX6 dX6_isTrue_7 iX6_isTrue_X6 tyX6_ok nmX6 rfl jX6_isTrue_245 (by decide) rfl rfl rfl rfl wlaO_0 (Nat.le_of_ble_eq_true rfl) (wlpO_0_27.trans (congrArg (wO cs ad) e_s2)) ?_
  refine g_iconst (v := (0 : Int32)) dX6_isTrue_10 (by decide) ?_
  refine g_istore_n (lv2 := [(2, .int (0 : Int32)), (0, .ref (ad 0)), (1, .int a1)]) dX6_isTrue_11 rfl (by decide) rfl ?_
  exact g_sub [1, 2, 0] rfl (w_X6_isTrue_L12 hty hr F (0 : Int32) s2 hf)

-- ThumbScaleModel offOf (I)I
def rmX6_offOf : Room := { frames := 0, cells := 0, slots := 0, locals := 0 }
def kX6_offOf : MK := (cX6_offOf, 2, RX6, wsX6_offOf, (some .int), rmX6_offOf)

set_option maxRecDepth 20000 in
theorem jX6_offOf_7 : Cond.fieldLink RX6 7 (TX6 2).1 (TX6 2).2.1 (TX6 2).2.2.1 ∈ wsX6_offOf := by decide +kernel
set_option maxRecDepth 20000 in
theorem iX6_offOf_X6 : ∀ x ∈ u_ws RX6 TX6 29, x ∈ wsX6_offOf := by decide +kernel
def f_X6_offOf (F : Nat) (s : SO) (a1 : Int32) : Option Int32 :=
    ochi (((182 : Int32) + ((4 : Int32) * a1)) + (3 : Int32)) 264 (
    ochi (((182 : Int32) + ((4 : Int32) * a1)) + (2 : Int32)) 264 (
    some (((O_s s) (Int32.toNatClampNeg (((182 : Int32) + ((4 : Int32) * a1)) + (3 : Int32)))) - ((O_s s) (Int32.toNatClampNeg (((182 : Int32) + ((4 : Int32) * a1)) + (2 : Int32)))))))

set_option maxHeartbeats 4000000 in
set_option maxRecDepth 100000 in
theorem c_X6_offOf {l : Launch} {D : va_G} {tys : List (ClassId × FieldType)} {X : XT} {cs : CS} (ad : Nat → Nat) {F : Nat} {s : SO} {a1 : Int32} {r : Int32} (htyM : tys = tyA cs) (hf : f_X6_offOf F s a1 = some r) : Ci l D tys X yX6_offOf wsX6_offOf rmX6_offOf [.ref (ad 0), .int a1] (wO cs ad s) r (wO cs ad s) := by
  refine Ci_ofG (by decide +kernel) rfl (Nat.le_of_ble_eq_true rfl) .int rfl (vp_nar_int _) (fun E _ _ hty0 hX0 hr => ?_)
  have hty := hty0.trans htyM
  have hr : Ri E kX6_offOf r (wO cs ad s) := hr
  show G E kX6_offOf 0 0 0 [(0, .ref (ad 0)), (1, .int a1)] [] (wO cs ad s)
  unfold f_X6_offOf at hf
  refine g_aload_n 0 dX6_offOf_0 rfl rfl ?_
  refine g_get (ci := 6) (T := TX6) (N := 29) 0 2 (.ref (ad 1)) dX6_offOf_1 iX6_offOf_X6 rfl jX6_offOf_7 (by decide) wlaO_0 rfl ?_
  refine g_sipush (v := (182 : Int32)) dX6_offOf_4 (by decide) ?_
  refine g_iconst (v := (4 : Int32)) dX6_offOf_7 (by decide) ?_
  refine g_iload_n 1 dX6_offOf_8 rfl rfl ?_
  refine g_imul dX6_offOf_9 ?_
  refine g_iadd dX6_offOf_10 ?_
  refine g_iconst (v := (3 : Int32)) dX6_offOf_11 (by decide) ?_
  refine g_iadd dX6_offOf_12 ?_
  obtain ⟨h1, hf⟩ := ochi_some hf
  refine g_iald 1 0 dX6_offOf_13 wlaO_1 (tI hty) h1 ?_
  refine g_aload_n 0 dX6_offOf_14 rfl rfl ?_
  refine g_get (ci := 6) (T := TX6) (N := 29) 0 2 (.ref (ad 1)) dX6_offOf_15 iX6_offOf_X6 rfl jX6_offOf_7 (by decide) wlaO_0 rfl ?_
  refine g_sipush (v := (182 : Int32)) dX6_offOf_18 (by decide) ?_
  refine g_iconst (v := (4 : Int32)) dX6_offOf_21 (by decide) ?_
  refine g_iload_n 1 dX6_offOf_22 rfl rfl ?_
  refine g_imul dX6_offOf_23 ?_
  refine g_iadd dX6_offOf_24 ?_
  refine g_iconst (v := (2 : Int32)) dX6_offOf_25 (by decide) ?_
  refine g_iadd dX6_offOf_26 ?_
  obtain ⟨h2, hf⟩ := ochi_some hf
  refine g_iald 1 0 dX6_offOf_27 wlaO_1 (tI hty) h2 ?_
  refine g_isub dX6_offOf_28 ?_
  obtain rfl := Option.some.inj hf
  exact hr _ _ dX6_offOf_29
