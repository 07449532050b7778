-- ThumbScale$Book forgetMarket ()V
def rmX0_forgetMarket : Room := { frames := 0, cells := 0, slots := 0, locals := 0 }
def kX0_forgetMarket : MK := (cX0_forgetMarket, 1, RX0, wsX0_forgetMarket, none, rmX0_forgetMarket)

set_option maxRecDepth 20000 in
theorem jX0_forgetMarket_39 : Cond.fieldLink RX0 39 (TX0 0).1 (TX0 0).2.1 (TX0 0).2.2.1 ∈ wsX0_forgetMarket := by decide +kernel
set_option maxRecDepth 20000 in
theorem iX0_forgetMarket_X0 : ∀ x ∈ u_ws RX0 TX0 15, x ∈ wsX0_forgetMarket := by decide +kernel
set_option maxRecDepth 20000 in
theorem jX0_forgetMarket_43 : Cond.fieldLink RX0 43 (TX0 7).1 (TX0 7).2.1 (TX0 7).2.2.1 ∈ wsX0_forgetMarket := by decide +kernel
set_option maxRecDepth 20000 in
theorem jX0_forgetMarket_46 : Cond.fieldLink RX0 46 (TX0 11).1 (TX0 11).2.1 (TX0 11).2.2.1 ∈ wsX0_forgetMarket := by decide +kernel
def f_X0_forgetMarket (F : Nat) (s : SB) : Option SB :=
    olt (uB_bags s (0 : Int32)) (fun s1 =>
    olt (uB_trials s1 (0 : Int32)) (fun s2 =>
    olt (uB_looks s2 (0 : Int32)) (fun s3 =>
    some s3)))

set_option maxHeartbeats 4000000 in
set_option maxRecDepth 100000 in
theorem c_X0_forgetMarket {l : Launch} {D : va_G} {tys : List (ClassId × FieldType)} {X : XT} {cs : CS} (ad : Nat → Nat) {F : Nat} {s : SB} {r : SB} (htyM : tys = tyA cs) (hf : f_X0_forgetMarket F s = some r) : Cv l D tys X yX0_forgetMarket wsX0_forgetMarket rmX0_forgetMarket [.ref (ad 0)] (wB cs ad s) (wB cs ad r) := by
  refine Cv_ofG (by decide +kernel) rfl (Nat.le_of_ble_eq_true rfl) (fun E _ _ hty0 hX0 hr => ?_)
  have hty := hty0.trans htyM
  have hr : Rv E kX0_forgetMarket (wB cs ad r) := hr
  show G E kX0_forgetMarket 0 0 0 [(0, .ref (ad 0))] [] (wB cs ad s)
  unfold f_X0_forgetMarket at hf
  refine g_aload_n 0 dX0_forgetMarket_0 rfl rfl ?_
  refine g_iconst (v := (0 : Int32)) dX0_forgetMarket_1 (by decide) ?_
  obtain ⟨s1, e_s1, hf⟩ := olt_some hf
  refine g_put (ci := 0) (T := TX0) (N := 15) (ty := .int) (w2 := (wB cs ad s1)) 0 0 (.int (0 : Int32)) tyX0 dX0_forgetMarket_2 iX0_forgetMarket_X0 tyX0_ok nmX0 rfl jX0_forgetMarket_39 (by decide) rfl rfl rfl rfl wlaB_0 (Nat.le_of_ble_eq_true rfl) (wlpB_0_0.trans (congrArg (wB cs ad) e_s1)) ?_
  refine g_aload_n 0 dX0_forgetMarket_5 rfl rfl ?_
  refine g_iconst (v := (0 : Int32)) dX0_forgetMarket_6 (by decide) ?_
  obtain ⟨s2, e_s2, hf⟩ := olt_some hf
  refine g_put (ci := 0) (T := TX0) (N := 15) (ty := .int) (w2 := (wB cs ad s2)) 0 7 (.int (0 : Int32)) tyX0 dX0_forgetMarket_7 iX0_forgetMarket_X0 tyX0_ok nmX0 rfl jX0_forgetMarket_43 (by decide) rfl rfl rfl rfl wlaB_0 (Nat.le_of_ble_eq_true rfl) (wlpB_0_7.trans (congrArg (wB cs ad) e_s2)) ?_
  refine g_aload_n 0 dX0_forgetMarket_10 rfl rfl ?_
  refine g_iconst (v := (0 : Int32)) dX0_forgetMarket_11 (by decide) ?_
  obtain ⟨s3, e_s3, hf⟩ := olt_some hf
  refine g_put (ci := 0) (T := TX0) (N := 15) (ty := .int) (w2 := (wB cs ad s3)) 0 11 (.int (0 : Int32)) tyX0 dX0_forgetMarket_12 iX0_forgetMarket_X0 tyX0_ok nmX0 rfl jX0_forgetMarket_46 (by decide) rfl rfl rfl rfl wlaB_0 (Nat.le_of_ble_eq_true rfl) (wlpB_0_11.trans (congrArg (wB cs ad) e_s3)) ?_
  obtain rfl := Option.some.inj hf
  exact hr _ _ dX0_forgetMarket_15

-- ThumbScale$Book isOf (III)Z
def rmX0_isOf : Room := { frames := 0, cells := 0, slots := 0, locals := 0 }
def kX0_isOf : MK := (cX0_isOf, 4, RX0, wsX0_isOf, (some .boolean), rmX0_isOf)

set_option maxRecDepth 20000 in
theorem jX0_isOf_9 : Cond.fieldLink RX0 9 (TX0 1).1 (TX0 1).2.1 (TX0 1).2.2.1 ∈ wsX0_isOf := by decide +kernel
set_option maxRecDepth 20000 in
theorem iX0_isOf_X0 : ∀ x ∈ u_ws RX0 TX0 15, x ∈ wsX0_isOf := by decide +kernel
set_option maxRecDepth 20000 in
theorem jX0_isOf_18 : Cond.fieldLink RX0 18 (TX0 3).1 (TX0 3).2.1 (TX0 3).2.2.1 ∈ wsX0_isOf := by decide +kernel
def f_X0_isOf (F : Nat) (s : SB) (a1 : Int32) (a2 : Int32) (a3 : Int32) : Option Int32 :=
    ochi a1 30 (
    (if ((B_bagStall s) (Int32.toNatClampNeg a1)) = a2 then
    ochi a1 30 (
    (if ((a3 >>> (((B_bagSort s) (Int32.toNatClampNeg a1)) &&& 31)) &&& (1 : Int32)) = (1 : Int32) then
    some (1 : Int32)
    else
    some (0 : Int32)))
    else
    some (0 : Int32)))

set_option maxHeartbeats 4000000 in
set_option maxRecDepth 100000 in
theorem c_X0_isOf {l : Launch} {D : va_G} {tys : List (ClassId × FieldType)} {X : XT} {cs : CS} (ad : Nat → Nat) {F : Nat} {s : SB} {a1 : Int32} {a2 : Int32} {a3 : Int32} {r : Int32} (htyM : tys = tyA cs) (hf : f_X0_isOf F s a1 a2 a3 = some r) : Ci l D tys X yX0_isOf wsX0_isOf rmX0_isOf [.ref (ad 0), .int a1, .int a2, .int a3] (wB cs ad s) r (wB cs ad s) := by
  refine Cz_ofG (by decide +kernel) rfl (Nat.le_of_ble_eq_true rfl) (fun E _ _ hty0 hX0 hr => ?_)
  have hty := hty0.trans htyM
  have hr : Rz E kX0_isOf r (wB cs ad s) := hr
  show G E kX0_isOf 0 0 0 [(0, .ref (ad 0)), (1, .int a1), (2, .int a2), (3, .int a3)] [] (wB cs ad s)
  unfold f_X0_isOf at hf
  refine g_aload_n 0 dX0_isOf_0 rfl rfl ?_
  refine g_get (ci := 0) (T := TX0) (N := 15) 0 1 (.ref (ad 1)) dX0_isOf_1 iX0_isOf_X0 rfl jX0_isOf_9 (by decide) wlaB_0 rfl ?_
  refine g_iload_n 1 dX0_isOf_4 rfl rfl ?_
  obtain ⟨h1, hf⟩ := ochi_some hf
  refine g_iald 1 0 dX0_isOf_5 wlaB_1 (tI hty) h1 ?_
  refine g_iload_n 2 dX0_isOf_6 rfl rfl ?_
  refine g_icmp_ne (tgt := 28) dX0_isOf_7 (by decide) (fun h2 => ?_) (fun h2 => ?_)
  · have hf := iff_ h2 hf
    refine g_iconst (v := (0 : Int32)) dX0_isOf_28 (by decide) ?_
    obtain rfl := Option.some.inj hf
    exact hr _ _ dX0_isOf_29 (Or.inl rfl)
  · have hf := ift h2 hf
    refine g_iload_n 3 dX0_isOf_10 rfl rfl ?_
    refine g_aload_n 0 dX0_isOf_11 rfl rfl ?_
    refine g_get (ci := 0) (T := TX0) (N := 15) 0 3 (.ref (ad 3)) dX0_isOf_12 iX0_isOf_X0 rfl jX0_isOf_18 (by decide) wlaB_0 rfl ?_
    refine g_iload_n 1 dX0_isOf_15 rfl rfl ?_
    obtain ⟨h3, hf⟩ := ochi_some hf
    refine g_iald 3 0 dX0_isOf_16 wlaB_3 (tI hty) h3 ?_
    refine g_ishr dX0_isOf_17 ?_
    refine g_iconst (v := (1 : Int32)) dX0_isOf_18 (by decide) ?_
    refine g_iand dX0_isOf_19 ?_
    refine g_iconst (v := (1 : Int32)) dX0_isOf_20 (by decide) ?_
    refine g_icmp_ne (tgt := 28) dX0_isOf_21 (by decide) (fun h4 => ?_) (fun h4 => ?_)
    · have hf := iff_ h4 hf
      refine g_iconst (v := (0 : Int32)) dX0_isOf_28 (by decide) ?_
      obtain rfl := Option.some.inj hf
      exact hr _ _ dX0_isOf_29 (Or.inl rfl)
    · have hf := ift h4 hf
      refine g_iconst (v := (1 : Int32)) dX0_isOf_24 (by decide) ?_
      refine g_goto (tgt := 29) dX0_isOf_25 (by decide) ?_
      obtain rfl := Option.some.inj hf
      exact hr _ _ dX0_isOf_29 (Or.inr rfl)

-- ThumbScale$Book bagsOf (II)I
def rmX0_bagsOf : Room := { frames := 1, cells := 0, slots := 0, locals := 23 }
def kX0_bagsOf : MK := (cX0_bagsOf, 5, RX0, wsX0_bagsOf, (some .int), rmX0_bagsOf)

set_option maxRecDepth 20000 in
theorem jX0_bagsOf_39 : Cond.fieldLink RX0 39 (TX0 0).1 (TX0 0).2.1 (TX0 0).2.2.1 ∈ wsX0_bagsOf := by decide +kernel
set_option maxRecDepth 20000 in
theorem iX0_bagsOf_X0 : ∀ x ∈ u_ws RX0 TX0 15, x ∈ wsX0_bagsOf := by decide +kernel
set_option maxRecDepth 20000 in
theorem vX0_bagsOf_59 : KV kX0_bagsOf 59 RX0 yX0_isOf wsX0_isOf rmX0_isOf 3 := ⟨_, _, _, _, gX0_bagsOf_X0_isOf, rfl, rfl, rfl, by decide +kernel, ⟨by decide, by decide⟩⟩
def f_X0_bagsOf_L5 (F : Nat) (s : SB) (a1 : Int32) (a2 : Int32) : Nat → Int32 → Int32 → Option Int32
  | 0, _, _ => none
  | n + 1, x1, x2 =>
    (if (B_bags s) ≤ x2 then
    some x1
    else
    obd (f_X0_isOf F s x2 a1 a2) (fun v4 =>
    (if v4 = 0 then
    f_X0_bagsOf_L5 F s a1 a2 n (x1 + (0 : Int32)) (x2 + 1)
    else
    f_X0_bagsOf_L5 F s a1 a2 n (x1 + (1 : Int32)) (x2 + 1))))

def f_X0_bagsOf (F : Nat) (s : SB) (a1 : Int32) (a2 : Int32) : Option Int32 :=
    f_X0_bagsOf_L5 F s a1 a2 F (0 : Int32) (0 : Int32)

set_option maxHeartbeats 4000000 in
set_option maxRecDepth 100000 in
theorem w_X0_bagsOf_L5 {E : GE} {cs : CS} {ad : Nat → Nat} {F : Nat} {s : SB} {a1 : Int32} {a2 : Int32} {r : Int32} (hty : eT E = tyA cs) (hr : Ri E kX0_bagsOf r (wB cs ad s)) : ∀ (n : Nat) (x1 : Int32) (x2 : Int32), f_X0_bagsOf_L5 F s a1 a2 n x1 x2 = some r → G E kX0_bagsOf 0 0 5 [(0, .ref (ad 0)), (1, .int a1), (2, .int a2), (3, .int x1), (4, .int x2)] [] (wB cs ad s) := by
  intro n
  induction n with
  | zero =>
    intro x1 x2 hf
    cases (show (none : Option Int32) = some r from hf)
  | succ n ih =>
    intro x1 x2 hf
    rw [f_X0_bagsOf_L5] at hf
    refine g_iload 4 dX0_bagsOf_5 rfl ?_
    refine g_aload_n 0 dX0_bagsOf_7 rfl rfl ?_
    refine g_get (ci := 0) (T := TX0) (N := 15) 0 0 (.int (B_bags s)) dX0_bagsOf_8 iX0_bagsOf_X0 rfl jX0_bagsOf_39 (by decide) wlaB_0 rfl ?_
    refine g_icmp_ge (tgt := 39) dX0_bagsOf_11 (by decide) (fun h3 => ?_) (fun h3 => ?_)
    · have hf := ift h3 hf
      refine g_iload_n 3 dX0_bagsOf_39 rfl rfl ?_
      obtain rfl := Option.some.inj hf
      exact hr _ _ dX0_bagsOf_40
    · have hf := iff_ h3 hf
      refine g_iload_n 3 dX0_bagsOf_14 rfl rfl ?_
      refine g_aload_n 0 dX0_bagsOf_15 rfl rfl ?_
      refine g_iload 4 dX0_bagsOf_16 rfl ?_
      refine g_iload_n 1 dX0_bagsOf_18 rfl rfl ?_
      refine g_iload_n 2 dX0_bagsOf_19 rfl rfl ?_
      obtain ⟨v4, hc5, hf⟩ := obd_some hf
      refine g_callVi (ci := 0) (As := [.int x2, .int a1, .int a2]) (rest := [.int x1]) (w2 := (wB cs ad s)) 0 dX0_bagsOf_20 vX0_bagsOf_59 (c_X0_isOf ad hty hc5) rfl (mid0 _) rfl rfl 0 wlaB_0 rfl (Nat.le_of_ble_eq_true rfl) ⟨Nat.zero_le _, Nat.zero_le _⟩ (mid2 _ _) ?_
      refine g_if_eq (tgt := 30) dX0_bagsOf_23 (by decide) (fun h6 => ?_) (fun h6 => ?_)
      · have hf := ift h6 hf
        refine g_iconst (v := (0 : Int32)) dX0_bagsOf_30 (by decide) ?_
        refine g_iadd dX0_bagsOf_31 ?_
        refine g_istore_n (lv2 := [(3, .int (x1 + (0 : Int32))), (0, .ref (ad 0)), (1, .int a1), (2, .int a2), (4, .int x2)]) dX0_bagsOf_32 rfl (by decide) rfl ?_
        refine g_iinc (lv2 := [(4, .int (x2 + 1)), (3, .int (x1 + (0 : Int32))), (0, .ref (ad 0)), (1, .int a1), (2, .int a2)]) 4 dX0_bagsOf_33 rfl (ii1 _) (by decide) rfl ?_
        refine g_goto (tgt := 5) dX0_bagsOf_36 (by decide) ?_
        exact g_sub [2, 3, 4, 1, 0] rfl (ih (x1 + (0 : Int32)) (x2 + 1) hf)
      · have hf := iff_ h6 hf
        refine g_iconst (v := (1 : Int32)) dX0_bagsOf_26 (by decide) ?_
        refine g_goto (tgt := 31) dX0_bagsOf_27 (by decide) ?_
        refine g_iadd dX0_bagsOf_31 ?_
        refine g_istore_n (lv2 := [(3, .int (x1 + (1 : Int32))), (0, .ref (ad 0)), (1, .int a1), (2, .int a2), (4, .int x2)]) dX0_bagsOf_32 rfl (by decide) rfl ?_
        refine g_iinc (lv2 := [(4, .int (x2 + 1)), (3, .int (x1 + (1 : Int32))), (0, .ref (ad 0)), (1, .int a1), (2, .int a2)]) 4 dX0_bagsOf_33 rfl (ii1 _) (by decide) rfl ?_
        refine g_goto (tgt := 5) dX0_bagsOf_36 (by decide) ?_
        exact g_sub [2, 3, 4, 1, 0] rfl (ih (x1 + (1 : Int32)) (x2 + 1) hf)

set_option maxHeartbeats 4000000 in
set_option maxRecDepth 100000 in
theorem c_X0_bagsOf {l : Launch} {D : va_G} {tys : List (ClassId × FieldType)} {X : XT} {cs : CS} (ad : Nat → Nat) {F : Nat} {s : SB} {a1 : Int32} {a2 : Int32} {r : Int32} (htyM : tys = tyA cs) (hf : f_X0_bagsOf F s a1 a2 = some r) : Ci l D tys X yX0_bagsOf wsX0_bagsOf rmX0_bagsOf [.ref (ad 0), .int a1, .int a2] (wB cs ad s) r (wB cs ad s) := by
  refine Ci_ofG (by decide +kernel) rfl (Nat.le_of_ble_eq_true rfl) .int rfl (vp_nar_int _) (fun E _ _ hty0 hX0 hr => ?_)
  have hty := hty0.trans htyM
  have hr : Ri E kX0_bagsOf r (wB cs ad s) := hr
  show G E kX0_bagsOf 0 0 0 [(0, .ref (ad 0)), (1, .int a1), (2, .int a2)] [] (wB cs ad s)
  unfold f_X0_bagsOf at hf
  refine g_iconst (v := (0 : Int32)) dX0_bagsOf_0 (by decide) ?_
  refine g_istore_n (lv2 := [(3, .int (0 : Int32)), (0, .ref (ad 0)), (1, .int a1), (2, .int a2)]) dX0_bagsOf_1 rfl (by decide) rfl ?_
  refine g_iconst (v := (0 : Int32)) dX0_bagsOf_2 (by decide) ?_
  refine g_istore (lv2 := [(4, .int (0 : Int32)), (3, .int (0 : Int32)), (0, .ref (ad 0)), (1, .int a1), (2, .int a2)]) dX0_bagsOf_3 (by decide) rfl ?_
  exact g_sub [2, 3, 4, 1, 0] rfl (w_X0_bagsOf_L5 hty hr F (0 : Int32) (0 : Int32) hf)

-- ThumbScale$Book justBagsOf (I)I
def rmX0_justBagsOf : Room := { frames := 1, cells := 0, slots := 0, locals := 23 }
def kX0_justBagsOf : MK := (cX0_justBagsOf, 4, RX0, wsX0_justBagsOf, (some .int), rmX0_justBagsOf)

set_option maxRecDepth 20000 in
theorem jX0_justBagsOf_39 : Cond.fieldLink RX0 39 (TX0 0).1 (TX0 0).2.1 (TX0 0).2.2.1 ∈ wsX0_justBagsOf := by decide +kernel
set_option maxRecDepth 20000 in
theorem iX0_justBagsOf_X0 : ∀ x ∈ u_ws RX0 TX0 15, x ∈ wsX0_justBagsOf := by decide +kernel
set_option maxRecDepth 20000 in
theorem vX0_justBagsOf_59 : KV kX0_justBagsOf 59 RX0 yX0_isOf wsX0_isOf rmX0_isOf 3 := ⟨_, _, _, _, gX0_justBagsOf_X0_isOf, rfl, rfl, rfl, by decide +kernel, ⟨by decide, by decide⟩⟩
set_option maxRecDepth 20000 in
theorem jX0_justBagsOf_27 : Cond.fieldLink RX0 27 (TX0 6).1 (TX0 6).2.1 (TX0 6).2.2.1 ∈ wsX0_justBagsOf := by decide +kernel
def f_X0_justBagsOf_L4 (F : Nat) (s : SB) (a1 : Int32) : Nat → Int32 → Int32 → Option Int32
  | 0, _, _ => none
  | n + 1, x1, x2 =>
    (if (B_bags s) ≤ x2 then
    some x1
    else
    obd (f_X0_isOf F s x2 a1 (15 : Int32)) (fun v4 =>
    (if v4 = 0 then
    f_X0_justBagsOf_L4 F s a1 n (x1 + (0 : Int32)) (x2 + 1)
    else
    ochi x2 30 (
    (if ((B_bagSteps s) (Int32.toNatClampNeg x2)) = 0 then
    f_X0_justBagsOf_L4 F s a1 n (x1 + (1 : Int32)) (x2 + 1)
    else
    f_X0_justBagsOf_L4 F s a1 n (x1 + (0 : Int32)) (x2 + 1))))))

def f_X0_justBagsOf (F : Nat) (s : SB) (a1 : Int32) : Option Int32 :=
    f_X0_justBagsOf_L4 F s a1 F (0 : Int32) (0 : Int32)

set_option maxHeartbeats 4000000 in
set_option maxRecDepth 100000 in
theorem w_X0_justBagsOf_L4 {E : GE} {cs : CS} {ad : Nat → Nat} {F : Nat} {s : SB} {a1 : Int32} {r : Int32} (hty : eT E = tyA cs) (hr : Ri E kX0_justBagsOf r (wB cs ad s)) : ∀ (n : Nat) (x1 : Int32) (x2 : Int32), f_X0_justBagsOf_L4 F s a1 n x1 x2 = some r → G E kX0_justBagsOf 0 0 4 [(0, .ref (ad 0)), (1, .int a1), (2, .int x1), (3, .int x2)] [] (wB cs ad s) := by
  intro n
  induction n with
  | zero =>
    intro x1 x2 hf
    cases (show (none : Option Int32) = some r from hf)
  | succ n ih =>
    intro x1 x2 hf
    rw [f_X0_justBagsOf_L4] at hf
    refine g_iload_n 3 dX0_justBagsOf_4 rfl rfl ?_
    refine g_aload_n 0 dX0_justBagsOf_5 rfl rfl ?_
    refine g_get (ci := 0) (T := TX0) (N := 15) 0 0 (.int (B_bags s)) dX0_justBagsOf_6 iX0_justBagsOf_X0 rfl jX0_justBagsOf_39 (by decide) wlaB_0 rfl ?_
    refine g_icmp_ge (tgt := 46) dX0_justBagsOf_9 (by decide) (fun h3 => ?_) (fun h3 => ?_)
    · have hf := ift h3 hf
      refine g_iload_n 2 dX0_justBagsOf_46 rfl rfl ?_
      obtain rfl := Option.some.inj hf
      exact hr _ _ dX0_justBagsOf_47
    · have hf := iff_ h3 hf
      refine g_iload_n 2 dX0_justBagsOf_12 rfl rfl ?_
      refine g_aload_n 0 dX0_justBagsOf_13 rfl rfl ?_
      refine g_iload_n 3 dX0_justBagsOf_14 rfl rfl ?_
      refine g_iload_n 1 dX0_justBagsOf_15 rfl rfl ?_
      refine g_bipush (v := (15 : Int32)) dX0_justBagsOf_16 (by decide) ?_
      obtain ⟨v4, hc5, hf⟩ := obd_some hf
      refine g_callVi (ci := 0) (As := [.int x2, .int a1, .int (15 : Int32)]) (rest := [.int x1]) (w2 := (wB cs ad s)) 0 dX0_justBagsOf_18 vX0_justBagsOf_59 (c_X0_isOf ad hty hc5) rfl (mid0 _) rfl rfl 0 wlaB_0 rfl (Nat.le_of_ble_eq_true rfl) ⟨Nat.zero_le _, Nat.zero_le _⟩ (mid2 _ _) ?_
      refine g_if_eq (tgt := 37) dX0_justBagsOf_21 (by decide) (fun h6 => ?_) (fun h6 => ?_)
      · have hf := ift h6 hf
        refine g_iconst (v := (0 : Int32)) dX0_justBagsOf_37 (by decide) ?_
        refine g_iadd dX0_justBagsOf_38 ?_
        refine g_istore_n (lv2 := [(2, .int (x1 + (0 : Int32))), (0, .ref (ad 0)), (1, .int a1), (3, .int x2)]) dX0_justBagsOf_39 rfl (by decide) rfl ?_
        refine g_iinc (lv2 := [(3, .int (x2 + 1)), (2, .int (x1 + (0 : Int32))), (0, .ref (ad 0)), (1, .int a1)]) 3 dX0_justBagsOf_40 rfl (ii1 _) (by decide) rfl ?_
        refine g_goto (tgt := 4) dX0_justBagsOf_43 (by decide) ?_
        exact g_sub [2, 3, 1, 0] rfl (ih (x1 + (0 : Int32)) (x2 + 1) hf)
      · have hf := iff_ h6 hf
        refine g_aload_n 0 dX0_justBagsOf_24 rfl rfl ?_
        refine g_get (ci := 0) (T := TX0) (N := 15) 0 6 (.ref (ad 6)) dX0_justBagsOf_25 iX0_justBagsOf_X0 rfl jX0_justBagsOf_27 (by decide) wlaB_0 rfl ?_
        refine g_iload_n 3 dX0_justBagsOf_28 rfl rfl ?_
        obtain ⟨h7, hf⟩ := ochi_some hf
        refine g_iald 6 0 dX0_justBagsOf_29 wlaB_6 (tI hty) h7 ?_
        refine g_if_ne (tgt := 37) dX0_justBagsOf_30 (by decide) (fun h8 => ?_) (fun h8 => ?_)
        · have hf := iff_ h8 hf
          refine g_iconst (v := (0 : Int32)) dX0_justBagsOf_37 (by decide) ?_
          refine g_iadd dX0_justBagsOf_38 ?_
          refine g_istore_n (lv2 := [(2, .int (x1 + (0 : Int32))), (0, .ref (ad 0)), (1, .int a1), (3, .int x2)]) dX0_justBagsOf_39 rfl (by decide) rfl ?_
          refine g_iinc (lv2 := [(3, .int (x2 + 1)), (2, .int (x1 + (0 : Int32))), (0, .ref (ad 0)), (1, .int a1)]) 3 dX0_justBagsOf_40 rfl (ii1 _) (by decide) rfl ?_
          refine g_goto (tgt := 4) dX0_justBagsOf_43 (by decide) ?_
          exact g_sub [2, 3, 1, 0] rfl (ih (x1 + (0 : Int32)) (x2 + 1) hf)
        · have hf := ift h8 hf
          refine g_iconst (v := (1 : Int32)) dX0_justBagsOf_33 (by decide) ?_
          refine g_goto (tgt := 38) dX0_justBagsOf_34 (by decide) ?_
          refine g_iadd dX0_justBagsOf_38 ?_
          refine g_istore_n (lv2 := [(2, .int (x1 + (1 : Int32))), (0, .ref (ad 0)), (1, .int a1), (3, .int x2)]) dX0_justBagsOf_39 rfl (by decide) rfl ?_
          refine g_iinc (lv2 := [(3, .int (x2 + 1)), (2, .int (x1 + (1 : Int32))), (0, .ref (ad 0)), (1, .int a1)]) 3 dX0_justBagsOf_40 rfl (ii1 _) (by decide) rfl ?_
          refine g_goto (tgt := 4) dX0_justBagsOf_43 (by decide) ?_
          exact g_sub [2, 3, 1, 0] rfl (ih (x1 + (1 : Int32)) (x2 + 1) hf)

set_option maxHeartbeats 4000000 in
set_option maxRecDepth 100000 in
theorem c_X0_justBagsOf {l : Launch} {D : va_G} {tys : List (ClassId × FieldType)} {X : XT} {cs : CS} (ad : Nat → Nat) {F : Nat} {s : SB} {a1 : Int32} {r : Int32} (htyM : tys = tyA cs) (hf : f_X0_justBagsOf F s a1 = some r) : Ci l D tys X yX0_justBagsOf wsX0_justBagsOf rmX0_justBagsOf [.ref (ad 0), .int a1] (wB cs ad s) r (wB cs ad s) := by
  refine Ci_ofG (by decide +kernel) rfl (Nat.le_of_ble_eq_true rfl) .int rfl (vp_nar_int _) (fun E _ _ hty0 hX0 hr => ?_)
  have hty := hty0.trans htyM
  have hr : Ri E kX0_justBagsOf r (wB cs ad s) := hr
  show G E kX0_justBagsOf 0 0 0 [(0, .ref (ad 0)), (1, .int a1)] [] (wB cs ad s)
  unfold f_X0_justBagsOf at hf
  refine g_iconst (v := (0 : Int32)) dX0_justBagsOf_0 (by decide) ?_
  refine g_istore_n (lv2 := [(2, .int (0 : Int32)), (0, .ref (ad 0)), (1, .int a1)]) dX0_justBagsOf_1 rfl (by decide) rfl ?_
  refine g_iconst (v := (0 : Int32)) dX0_justBagsOf_2 (by decide) ?_
  refine g_istore_n (lv2 := [(3, .int (0 : Int32)), (2, .int (0 : Int32)), (0, .ref (ad 0)), (1, .int a1)]) dX0_justBagsOf_3 rfl (by decide) rfl ?_
  exact g_sub [2, 3, 1, 0] rfl (w_X0_justBagsOf_L4 hty hr F (0 : Int32) (0 : Int32) hf)

-- ThumbScale$Book toldOf (I)I
def rmX0_toldOf : Room := { frames := 1, cells := 0, slots := 0, locals := 23 }
def kX0_toldOf : MK := (cX0_toldOf, 4, RX0, wsX0_toldOf, (some .int), rmX0_toldOf)

set_option maxRecDepth 20000 in
theorem jX0_toldOf_39 : Cond.fieldLink RX0 39 (TX0 0).1 (TX0 0).2.1 (TX0 0).2.2.1 ∈ wsX0_toldOf := by decide +kernel
set_option maxRecDepth 20000 in
theorem iX0_toldOf_X0 : ∀ x ∈ u_ws RX0 TX0 15, x ∈ wsX0_toldOf := by decide +kernel
set_option maxRecDepth 20000 in
theorem vX0_toldOf_59 : KV kX0_toldOf 59 RX0 yX0_isOf wsX0_isOf rmX0_isOf 3 := ⟨_, _, _, _, gX0_toldOf_X0_isOf, rfl, rfl, rfl, by decide +kernel, ⟨by decide, by decide⟩⟩
set_option maxRecDepth 20000 in
theorem jX0_toldOf_21 : Cond.fieldLink RX0 21 (TX0 4).1 (TX0 4).2.1 (TX0 4).2.2.1 ∈ wsX0_toldOf := by decide +kernel
def f_X0_toldOf_L4 (F : Nat) (s : SB) (a1 : Int32) : Nat → Int32 → Int32 → Option Int32
  | 0, _, _ => none
  | n + 1, x1, x2 =>
    (if (B_bags s) ≤ x2 then
    some x1
    else
    obd (f_X0_isOf F s x2 a1 (15 : Int32)) (fun v4 =>
    (if v4 = 0 then
    f_X0_toldOf_L4 F s a1 n (x1 + (0 : Int32)) (x2 + 1)
    else
    ochi x2 30 (
    olt (x1 + ((B_bagTold s) (Int32.toNatClampNeg x2))) (fun z8 =>
    f_X0_toldOf_L4 F s a1 n z8 (x2 + 1))))))

def f_X0_toldOf (F : Nat) (s : SB) (a1 : Int32) : Option Int32 :=
    f_X0_toldOf_L4 F s a1 F (0 : Int32) (0 : Int32)

set_option maxHeartbeats 4000000 in
set_option maxRecDepth 100000 in
theorem w_X0_toldOf_L4 {E : GE} {cs : CS} {ad : Nat → Nat} {F : Nat} {s : SB} {a1 : Int32} {r : Int32} (hty : eT E = tyA cs) (hr : Ri E kX0_toldOf r (wB cs ad s)) : ∀ (n : Nat) (x1 : Int32) (x2 : Int32), f_X0_toldOf_L4 F s a1 n x1 x2 = some r → G E kX0_toldOf 0 0 4 [(0, .ref (ad 0)), (1, .int a1), (2, .int x1), (3, .int x2)] [] (wB cs ad s) := by
  intro n
  induction n with
  | zero =>
    intro x1 x2 hf
    cases (show (none : Option Int32) = some r from hf)
  | succ n ih =>
    intro x1 x2 hf
    rw [f_X0_toldOf_L4] at hf
    refine g_iload_n 3 dX0_toldOf_4 rfl rfl ?_
    refine g_aload_n 0 dX0_toldOf_5 rfl rfl ?_
    refine g_get (ci := 0) (T := TX0) (N := 15) 0 0 (.int (B_bags s)) dX0_toldOf_6 iX0_toldOf_X0 rfl jX0_toldOf_39 (by decide) wlaB_0 rfl ?_
    refine g_icmp_ge (tgt := 42) dX0_toldOf_9 (by decide) (fun h3 => ?_) (fun h3 => ?_)
    · have hf := ift h3 hf
      refine g_iload_n 2 dX0_toldOf_42 rfl rfl ?_
      obtain rfl := Option.some.inj hf
      exact hr _ _ dX0_toldOf_43
    · have hf := iff_ h3 hf
      refine g_iload_n 2 dX0_toldOf_12 rfl rfl ?_
      refine g_aload_n 0 dX0_toldOf_13 rfl rfl ?_
      refine g_iload_n 3 dX0_toldOf_14 rfl rfl ?_
      refine g_iload_n 1 dX0_toldOf_15 rfl rfl ?_
      refine g_bipush (v := (15 : Int32)) dX0_toldOf_16 (by decide) ?_
      obtain ⟨v4, hc5, hf⟩ := obd_some hf
      refine g_callVi (ci := 0) (As := [.int x2, .int a1, .int (15 : Int32)]) (rest := [.int x1]) (w2 := (wB cs ad s)) 0 dX0_toldOf_18 vX0_toldOf_59 (c_X0_isOf ad hty hc5) rfl (mid0 _) rfl rfl 0 wlaB_0 rfl (Nat.le_of_ble_eq_true rfl) ⟨Nat.zero_le _, Nat.zero_le _⟩ (mid2 _ _) ?_
      refine g_if_eq (tgt := 33) dX0_toldOf_21 (by decide) (fun h6 => ?_) (fun h6 => ?_)
      · have hf := ift h6 hf
        refine g_iconst (v := (0 : Int32)) dX0_toldOf_33 (by decide) ?_
        refine g_iadd dX0_toldOf_34 ?_
        refine g_istore_n (lv2 := [(2, .int (x1 + (0 : Int32))), (0, .ref (ad 0)), (1, .int a1), (3, .int x2)]) dX0_toldOf_35 rfl (by decide) rfl ?_
        refine g_iinc (lv2 := [(3, .int (x2 + 1)), (2, .int (x1 + (0 : Int32))), (0, .ref (ad 0)), (1, .int a1)]) 3 dX0_toldOf_36 rfl (ii1 _) (by decide) rfl ?_
        refine g_goto (tgt := 4) dX0_toldOf_39 (by decide) ?_
        exact g_sub [2, 3, 1, 0] rfl (ih (x1 + (0 : Int32)) (x2 + 1) hf)
      · have hf := iff_ h6 hf
        refine g_aload_n 0 dX0_toldOf_24 rfl rfl ?_
        refine g_get (ci := 0) (T := TX0) (N := 15) 0 4 (.ref (ad 4)) dX0_toldOf_25 iX0_toldOf_X0 rfl jX0_toldOf_21 (by decide) wlaB_0 rfl ?_
        refine g_iload_n 3 dX0_toldOf_28 rfl rfl ?_
        obtain ⟨h7, hf⟩ := ochi_some hf
        refine g_iald 4 0 dX0_toldOf_29 wlaB_4 (tI hty) h7 ?_
        refine g_goto (tgt := 34) dX0_toldOf_30 (by decide) ?_
        refine g_iadd dX0_toldOf_34 ?_
        obtain ⟨z8, e_z8, hf⟩ := olt_some hf
        refine g_cast rfl rfl (congrArg (fun q => Value.int q :: []) e_z8) rfl ?_
        refine g_istore_n (lv2 := [(2, .int z8), (0, .ref (ad 0)), (1, .int a1), (3, .int x2)]) dX0_toldOf_35 rfl (by decide) rfl ?_
        refine g_iinc (lv2 := [(3, .int (x2 + 1)), (2, .int z8), (0, .ref (ad 0)), (1, .int a1)]) 3 dX0_toldOf_36 rfl (ii1 _) (by decide) rfl ?_
        refine g_goto (tgt := 4) dX0_toldOf_39 (by decide) ?_
        exact g_sub [2, 3, 1, 0] rfl (ih z8 (x2 + 1) hf)

set_option maxHeartbeats 4000000 in
set_option maxRecDepth 100000 in
theorem c_X0_toldOf {l : Launch} {D : va_G} {tys : List (ClassId × FieldType)} {X : XT} {cs : CS} (ad : Nat → Nat) {F : Nat} {s : SB} {a1 : Int32} {r : Int32} (htyM : tys = tyA cs) (hf : f_X0_toldOf F s a1 = some r) : Ci l D tys X yX0_toldOf wsX0_toldOf rmX0_toldOf [.ref (ad 0), .int a1] (wB cs ad s) r (wB cs ad s) := by
  refine Ci_ofG (by decide +kernel) rfl (Nat.le_of_ble_eq_true rfl) .int rfl (vp_nar_int _) (fun E _ _ hty0 hX0 hr => ?_)
  have hty := hty0.trans htyM
  have hr : Ri E kX0_toldOf r (wB cs ad s) := hr
  show G E kX0_toldOf 0 0 0 [(0, .ref (ad 0)), (1, .int a1)] [] (wB cs ad s)
  unfold f_X0_toldOf at hf
  refine g_iconst (v := (0 : Int32)) dX0_toldOf_0 (by decide) ?_
  refine g_istore_n (lv2 := [(2, .int (0 : Int32)), (0, .ref (ad 0)), (1, .int a1)]) dX0_toldOf_1 rfl (by decide) rfl ?_
  refine g_iconst (v := (0 : Int32)) dX0_toldOf_2 (by decide) ?_
  refine g_istore_n (lv2 := [(3, .int (0 : Int32)), (2, .int (0 : Int32)), (0, .ref (ad 0)), (1, .int a1)]) dX0_toldOf_3 rfl (by decide) rfl ?_
  exact g_sub [2, 3, 1, 0] rfl (w_X0_toldOf_L4 hty hr F (0 : Int32) (0 : Int32) hf)

-- ThumbScale$Book shortsOf (II)I
def rmX0_shortsOf : Room := { frames := 1, cells := 0, slots := 0, locals := 23 }
def kX0_shortsOf : MK := (cX0_shortsOf, 5, RX0, wsX0_shortsOf, (some .int), rmX0_shortsOf)

set_option maxRecDepth 20000 in
theorem jX0_shortsOf_39 : Cond.fieldLink RX0 39 (TX0 0).1 (TX0 0).2.1 (TX0 0).2.2.1 ∈ wsX0_shortsOf := by decide +kernel
set_option maxRecDepth 20000 in
theorem iX0_shortsOf_X0 : ∀ x ∈ u_ws RX0 TX0 15, x ∈ wsX0_shortsOf := by decide +kernel
set_option maxRecDepth 20000 in
theorem vX0_shortsOf_59 : KV kX0_shortsOf 59 RX0 yX0_isOf wsX0_isOf rmX0_isOf 3 := ⟨_, _, _, _, gX0_shortsOf_X0_isOf, rfl, rfl, rfl, by decide +kernel, ⟨by decide, by decide⟩⟩
set_option maxRecDepth 20000 in
theorem jX0_shortsOf_24 : Cond.fieldLink RX0 24 (TX0 5).1 (TX0 5).2.1 (TX0 5).2.2.1 ∈ wsX0_shortsOf := by decide +kernel
def f_X0_shortsOf_L5 (F : Nat) (s : SB) (a1 : Int32) (a2 : Int32) : Nat → Int32 → Int32 → Option Int32
  | 0, _, _ => none
  | n + 1, x1, x2 =>
    (if (B_bags s) ≤ x2 then
    some x1
    else
    obd (f_X0_isOf F s x2 a1 a2) (fun v4 =>
    (if v4 = 0 then
    f_X0_shortsOf_L5 F s a1 a2 n (x1 + (0 : Int32)) (x2 + 1)
    else
    ochi x2 30 (
    olt (x1 + ((B_bagShort s) (Int32.toNatClampNeg x2))) (fun z8 =>
    f_X0_shortsOf_L5 F s a1 a2 n z8 (x2 + 1))))))

def f_X0_shortsOf (F : Nat) (s : SB) (a1 : Int32) (a2 : Int32) : Option Int32 :=
    f_X0_shortsOf_L5 F s a1 a2 F (0 : Int32) (0 : Int32)

set_option maxHeartbeats 4000000 in
set_option maxRecDepth 100000 in
theorem w_X0_shortsOf_L5 {E : GE} {cs : CS} {ad : Nat → Nat} {F : Nat} {s : SB} {a1 : Int32} {a2 : Int32} {r : Int32} (hty : eT E = tyA cs) (hr : Ri E kX0_shortsOf r (wB cs ad s)) : ∀ (n : Nat) (x1 : Int32) (x2 : Int32), f_X0_shortsOf_L5 F s a1 a2 n x1 x2 = some r → G E kX0_shortsOf 0 0 5 [(0, .ref (ad 0)), (1, .int a1), (2, .int a2), (3, .int x1), (4, .int x2)] [] (wB cs ad s) := by
  intro n
  induction n with
  | zero =>
    intro x1 x2 hf
    cases (show (none : Option Int32) = some r from hf)
  | succ n ih =>
    intro x1 x2 hf
    rw [f_X0_shortsOf_L5] at hf
    refine g_iload 4 dX0_shortsOf_5 rfl ?_
    refine g_aload_n 0 dX0_shortsOf_7 rfl rfl ?_
    refine g_get (ci := 0) (T := TX0) (N := 15) 0 0 (.int (B_bags s)) dX0_shortsOf_8 iX0_shortsOf_X0 rfl jX0_shortsOf_39 (by decide) wlaB_0 rfl ?_
    refine g_icmp_ge (tgt := 45) dX0_shortsOf_11 (by decide) (fun h3 => ?_) (fun h3 => ?_)
    · have hf := ift h3 hf
      refine g_iload_n 3 dX0_shortsOf_45 rfl rfl ?_
      obtain rfl := Option.some.inj hf
      exact hr _ _ dX0_shortsOf_46
    · have hf := iff_ h3 hf
      refine g_iload_n 3 dX0_shortsOf_14 rfl rfl ?_
      refine g_aload_n 0 dX0_shortsOf_15 rfl rfl ?_
      refine g_iload 4 dX0_shortsOf_16 rfl ?_
      refine g_iload_n 1 dX0_shortsOf_18 rfl rfl ?_
      refine g_iload_n 2 dX0_shortsOf_19 rfl rfl ?_
      obtain ⟨v4, hc5, hf⟩ := obd_some hf
      refine g_callVi (ci := 0) (As := [.int x2, .int a1, .int a2]) (rest := [.int x1]) (w2 := (wB cs ad s)) 0 dX0_shortsOf_20 vX0_shortsOf_59 (c_X0_isOf ad hty hc5) rfl (mid0 _) rfl rfl 0 wlaB_0 rfl (Nat.le_of_ble_eq_true rfl) ⟨Nat.zero_le _, Nat.zero_le _⟩ (mid2 _ _) ?_
      refine g_if_eq (tgt := 36) dX0_shortsOf_23 (by decide) (fun h6 => ?_) (fun h6 => ?_)
      · have hf := ift h6 hf
        refine g_iconst (v := (0 : Int32)) dX0_shortsOf_36 (by decide) ?_
        refine g_iadd dX0_shortsOf_37 ?_
        refine g_istore_n (lv2 := [(3, .int (x1 + (0 : Int32))), (0, .ref (ad 0)), (1, .int a1), (2, .int a2), (4, .int x2)]) dX0_shortsOf_38 rfl (by decide) rfl ?_
        refine g_iinc (lv2 := [(4, .int (x2 + 1)), (3, .int (x1 + (0 : Int32))), (0, .ref (ad 0)), (1, .int a1), (2, .int a2)]) 4 dX0_shortsOf_39 rfl (ii1 _) (by decide) rfl ?_
        refine g_goto (tgt := 5) dX0_shortsOf_42 (by decide) ?_
        exact g_sub [2, 3, 4, 1, 0] rfl (ih (x1 + (0 : Int32)) (x2 + 1) hf)
      · have hf := iff_ h6 hf
        refine g_aload_n 0 dX0_shortsOf_26 rfl rfl ?_
        refine g_get (ci := 0) (T := TX0) (N := 15) 0 5 (.ref (ad 5)) dX0_shortsOf_27 iX0_shortsOf_X0 rfl jX0_shortsOf_24 (by decide) wlaB_0 rfl ?_
        refine g_iload 4 dX0_shortsOf_30 rfl ?_
        obtain ⟨h7, hf⟩ := ochi_some hf
        refine g_iald 5 0 dX0_shortsOf_32 wlaB_5 (tI hty) h7 ?_
        refine g_goto (tgt := 37) dX0_shortsOf_33 (by decide) ?_
        refine g_iadd dX0_shortsOf_37 ?_
        obtain ⟨z8, e_z8, hf⟩ := olt_some hf
        refine g_cast rfl rfl (congrArg (fun q => Value.int q :: []) e_z8) rfl ?_
        refine g_istore_n (lv2 := [(3, .int z8), (0, .ref (ad 0)), (1, .int a1), (2, .int a2), (4, .int x2)]) dX0_shortsOf_38 rfl (by decide) rfl ?_
        refine g_iinc (lv2 := [(4, .int (x2 + 1)), (3, .int z8), (0, .ref (ad 0)), (1, .int a1), (2, .int a2)]) 4 dX0_shortsOf_39 rfl (ii1 _) (by decide) rfl ?_
        refine g_goto (tgt := 5) dX0_shortsOf_42 (by decide) ?_
        exact g_sub [2, 3, 4, 1, 0] rfl (ih z8 (x2 + 1) hf)

set_option maxHeartbeats 4000000 in
set_option maxRecDepth 100000 in
theorem c_X0_shortsOf {l : Launch} {D : va_G} {tys : List (ClassId × FieldType)} {X : XT} {cs : CS} (ad : Nat → Nat) {F : Nat} {s : SB} {a1 : Int32} {a2 : Int32} {r : Int32} (htyM : tys = tyA cs) (hf : f_X0_shortsOf F s a1 a2 = some r) : Ci l D tys X yX0_shortsOf wsX0_shortsOf rmX0_shortsOf [.ref (ad 0), .int a1, .int a2] (wB cs ad s) r (wB cs ad s) := by
  refine Ci_ofG (by decide +kernel) rfl (Nat.le_of_ble_eq_true rfl) .int rfl (vp_nar_int _) (fun E _ _ hty0 hX0 hr => ?_)
  have hty := hty0.trans htyM
  have hr : Ri E kX0_shortsOf r (wB cs ad s) := hr
  show G E kX0_shortsOf 0 0 0 [(0, .ref (ad 0)), (1, .int a1), (2, .int a2)] [] (wB cs ad s)
  unfold f_X0_shortsOf at hf
  refine g_iconst (v := (0 : Int32)) dX0_shortsOf_0 (by decide) ?_
  refine g_istore_n (lv2 := [(3, .int (0 : Int32)), (0, .ref (ad 0)), (1, .int a1), (2, .int a2)]) dX0_shortsOf_1 rfl (by decide) rfl ?_
  refine g_iconst (v := (0 : Int32)) dX0_shortsOf_2 (by decide) ?_
  refine g_istore (lv2 := [(4, .int (0 : Int32)), (3, .int (0 : Int32)), (0, .ref (ad 0)), (1, .int a1), (2, .int a2)]) dX0_shortsOf_3 (by decide) rfl ?_
  exact g_sub [2, 3, 4, 1, 0] rfl (w_X0_shortsOf_L5 hty hr F (0 : Int32) (0 : Int32) hf)

-- ThumbScale$Book shortsAboveNone (I)I
def rmX0_shortsAboveNone : Room := { frames := 1, cells := 0, slots := 0, locals := 23 }
def kX0_shortsAboveNone : MK := (cX0_shortsAboveNone, 4, RX0, wsX0_shortsAboveNone, (some .int), rmX0_shortsAboveNone)

set_option maxRecDepth 20000 in
theorem jX0_shortsAboveNone_39 : Cond.fieldLink RX0 39 (TX0 0).1 (TX0 0).2.1 (TX0 0).2.2.1 ∈ wsX0_shortsAboveNone := by decide +kernel
set_option maxRecDepth 20000 in
theorem iX0_shortsAboveNone_X0 : ∀ x ∈ u_ws RX0 TX0 15, x ∈ wsX0_shortsAboveNone := by decide +kernel
set_option maxRecDepth 20000 in
theorem vX0_shortsAboveNone_59 : KV kX0_shortsAboveNone 59 RX0 yX0_isOf wsX0_isOf rmX0_isOf 3 := ⟨_, _, _, _, gX0_shortsAboveNone_X0_isOf, rfl, rfl, rfl, by decide +kernel, ⟨by decide, by decide⟩⟩
set_option maxRecDepth 20000 in
theorem jX0_shortsAboveNone_24 : Cond.fieldLink RX0 24 (TX0 5).1 (TX0 5).2.1 (TX0 5).2.2.1 ∈ wsX0_shortsAboveNone := by decide +kernel
set_option maxRecDepth 20000 in
theorem mX0_shortsAboveNone_63 : (Cond.methodLink RX0 63 Lib.Math.max.name ∈ wsX0_shortsAboveNone ∧ Cond.static Lib.Math.max.name ∈ wsX0_shortsAboveNone) ∧ (Cond.initialized "java/lang/Math" ∈ wsX0_shortsAboveNone ∧ Cond.code Lib.Math.max.name Lib.Math.max.code 2 (some .int) ∈ wsX0_shortsAboveNone) := ⟨⟨by decide +kernel, by decide +kernel⟩, ⟨by decide +kernel, by decide +kernel⟩⟩
def f_X0_shortsAboveNone_L4 (F : Nat) (s : SB) (a1 : Int32) : Nat → Int32 → Int32 → Option Int32
  | 0, _, _ => none
  | n + 1, x1, x2 =>
    (if (B_bags s) ≤ x2 then
    some x1
    else
    obd (f_X0_isOf F s x2 a1 (15 : Int32)) (fun v4 =>
    (if v4 = 0 then
    f_X0_shortsAboveNone_L4 F s a1 n (x1 + (0 : Int32)) (x2 + 1)
    else
    ochi x2 30 (
    olt (x1 + (if (0 : Int32) < ((B_bagShort s) (Int32.toNatClampNeg x2)) then ((B_bagShort s) (Int32.toNatClampNeg x2)) else (0 : Int32))) (fun z8 =>
    f_X0_shortsAboveNone_L4 F s a1 n z8 (x2 + 1))))))

def f_X0_shortsAboveNone (F : Nat) (s : SB) (a1 : Int32) : Option Int32 :=
    f_X0_shortsAboveNone_L4 F s a1 F (0 : Int32) (0 : Int32)

set_option maxHeartbeats 4000000 in
set_option maxRecDepth 100000 in
theorem w_X0_shortsAboveNone_L4 {E : GE} {cs : CS} {ad : Nat → Nat} {F : Nat} {s : SB} {a1 : Int32} {r : Int32} (hty : eT E = tyA cs) (hr : Ri E kX0_shortsAboveNone r (wB cs ad s)) : ∀ (n : Nat) (x1 : Int32) (x2 : Int32), f_X0_shortsAboveNone_L4 F s a1 n x1 x2 = some r → G E kX0_shortsAboveNone 0 0 4 [(0, .ref (ad 0)), (1, .int a1), (2, .int x1), (3, .int x2)] [] (wB cs ad s) := by
  intro n
  induction n with
  | zero =>
    intro x1 x2 hf
    cases (show (none : Option Int32) = some r from hf)
  | succ n ih =>
    intro x1 x2 hf
    rw [f_X0_shortsAboveNone_L4] at hf
    refine g_iload_n 3 dX0_shortsAboveNone_4 rfl rfl ?_
    refine g_aload_n 0 dX0_shortsAboveNone_5 rfl rfl ?_
    refine g_get (ci := 0) (T := TX0) (N := 15) 0 0 (.int (B_bags s)) dX0_shortsAboveNone_6 iX0_shortsAboveNone_X0 rfl jX0_shortsAboveNone_39 (by decide) wlaB_0 rfl ?_
    refine g_icmp_ge (tgt := 46) dX0_shortsAboveNone_9 (by decide) (fun h3 => ?_) (fun h3 => ?_)
    · have hf := ift h3 hf
      refine g_iload_n 2 dX0_shortsAboveNone_46 rfl rfl ?_
      obtain rfl := Option.some.inj hf
      exact hr _ _ dX0_shortsAboveNone_47
    · have hf := iff_ h3 hf
      refine g_iload_n 2 dX0_shortsAboveNone_12 rfl rfl ?_
      refine g_aload_n 0 dX0_shortsAboveNone_13 rfl rfl ?_
      refine g_iload_n 3 dX0_shortsAboveNone_14 rfl rfl ?_
      refine g_iload_n 1 dX0_shortsAboveNone_15 rfl rfl ?_
      refine g_bipush (v := (15 : Int32)) dX0_shortsAboveNone_16 (by decide) ?_
      obtain ⟨v4, hc5, hf⟩ := obd_some hf
      refine g_callVi (ci := 0) (As := [.int x2, .int a1, .int (15 : Int32)]) (rest := [.int x1]) (w2 := (wB cs ad s)) 0 dX0_shortsAboveNone_18 vX0_shortsAboveNone_59 (c_X0_isOf ad hty hc5) rfl (mid0 _) rfl rfl 0 wlaB_0 rfl (Nat.le_of_ble_eq_true rfl) ⟨Nat.zero_le _, Nat.zero_le _⟩ (mid2 _ _) ?_
      refine g_if_eq (tgt := 37) dX0_shortsAboveNone_21 (by decide) (fun h6 => ?_) (fun h6 => ?_)
      · have hf := ift h6 hf
        refine g_iconst (v := (0 : Int32)) dX0_shortsAboveNone_37 (by decide) ?_
        refine g_iadd dX0_shortsAboveNone_38 ?_
        refine g_istore_n (lv2 := [(2, .int (x1 + (0 : Int32))), (0, .ref (ad 0)), (1, .int a1), (3, .int x2)]) dX0_shortsAboveNone_39 rfl (by decide) rfl ?_
        refine g_iinc (lv2 := [(3, .int (x2 + 1)), (2, .int (x1 + (0 : Int32))), (0, .ref (ad 0)), (1, .int a1)]) 3 dX0_shortsAboveNone_40 rfl (ii1 _) (by decide) rfl ?_
        refine g_goto (tgt := 4) dX0_shortsAboveNone_43 (by decide) ?_
        exact g_sub [2, 3, 1, 0] rfl (ih (x1 + (0 : Int32)) (x2 + 1) hf)
      · have hf := iff_ h6 hf
        refine g_iconst (v := (0 : Int32)) dX0_shortsAboveNone_24 (by decide) ?_
        refine g_aload_n 0 dX0_shortsAboveNone_25 rfl rfl ?_
        refine g_get (ci := 0) (T := TX0) (N := 15) 0 5 (.ref (ad 5)) dX0_shortsAboveNone_26 iX0_shortsAboveNone_X0 rfl jX0_shortsAboveNone_24 (by decide) wlaB_0 rfl ?_
        refine g_iload_n 3 dX0_shortsAboveNone_29 rfl rfl ?_
        obtain ⟨h7, hf⟩ := ochi_some hf
        refine g_iald 5 0 dX0_shortsAboveNone_30 wlaB_5 (tI hty) h7 ?_
        refine g_mmax dX0_shortsAboveNone_31 mX0_shortsAboveNone_63.1.1 mX0_shortsAboveNone_63.1.2 mX0_shortsAboveNone_63.2.1 mX0_shortsAboveNone_63.2.2 ⟨by decide, Nat.le_of_ble_eq_true rfl, Nat.zero_le _, Nat.zero_le _⟩ ?_
        refine g_goto (tgt := 38) dX0_shortsAboveNone_34 (by decide) ?_
        refine g_iadd dX0_shortsAboveNone_38 ?_
        obtain ⟨z8, e_z8, hf⟩ := olt_some hf
        refine g_cast rfl rfl (congrArg (fun q => Value.int q :: []) e_z8) rfl ?_
        refine g_istore_n (lv2 := [(2, .int z8), (0, .ref (ad 0)), (1, .int a1), (3, .int x2)]) dX0_shortsAboveNone_39 rfl (by decide) rfl ?_
        refine g_iinc (lv2 := [(3, .int (x2 + 1)), (2, .int z8), (0, .ref (ad 0)), (1, .int a1)]) 3 dX0_shortsAboveNone_40 rfl (ii1 _) (by decide) rfl ?_
        refine g_goto (tgt := 4) dX0_shortsAboveNone_43 (by decide) ?_
        exact g_sub [2, 3, 1, 0] rfl (ih z8 (x2 + 1) hf)

set_option maxHeartbeats 4000000 in
set_option maxRecDepth 100000 in
theorem c_X0_shortsAboveNone {l : Launch} {D : va_G} {tys : List (ClassId × FieldType)} {X : XT} {cs : CS} (ad : Nat → Nat) {F : Nat} {s : SB} {a1 : Int32} {r : Int32} (htyM : tys = tyA cs) (hf : f_X0_shortsAboveNone F s a1 = some r) : Ci l D tys X yX0_shortsAboveNone wsX0_shortsAboveNone rmX0_shortsAboveNone [.ref (ad 0), .int a1] (wB cs ad s) r (wB cs ad s) := by
  refine Ci_ofG (by decide +kernel) rfl (Nat.le_of_ble_eq_true rfl) .int rfl (vp_nar_int _) (fun E _ _ hty0 hX0 hr => ?_)
  have hty := hty0.trans htyM
  have hr : Ri E kX0_shortsAboveNone r (wB cs ad s) := hr
  show G E kX0_shortsAboveNone 0 0 0 [(0, .ref (ad 0)), (1, .int a1)] [] (wB cs ad s)
  unfold f_X0_shortsAboveNone at hf
  refine g_iconst (v := (0 : Int32)) dX0_shortsAboveNone_0 (by decide) ?_
  refine g_istore_n (lv2 := [(2, .int (0 : Int32)), (0, .ref (ad 0)), (1, .int a1)]) dX0_shortsAboveNone_1 rfl (by decide) rfl ?_
  refine g_iconst (v := (0 : Int32)) dX0_shortsAboveNone_2 (by decide) ?_
  refine g_istore_n (lv2 := [(3, .int (0 : Int32)), (2, .int (0 : Int32)), (0, .ref (ad 0)), (1, .int a1)]) dX0_shortsAboveNone_3 rfl (by decide) rfl ?_
  exact g_sub [2, 3, 1, 0] rfl (w_X0_shortsAboveNone_L4 hty hr F (0 : Int32) (0 : Int32) hf)

-- ThumbScale$Book trialsOf (I)I
def rmX0_trialsOf : Room := { frames := 0, cells := 0, slots := 0, locals := 0 }
def kX0_trialsOf : MK := (cX0_trialsOf, 4, RX0, wsX0_trialsOf, (some .int), rmX0_trialsOf)

set_option maxRecDepth 20000 in
theorem jX0_trialsOf_43 : Cond.fieldLink RX0 43 (TX0 7).1 (TX0 7).2.1 (TX0 7).2.2.1 ∈ wsX0_trialsOf := by decide +kernel
set_option maxRecDepth 20000 in
theorem iX0_trialsOf_X0 : ∀ x ∈ u_ws RX0 TX0 15, x ∈ wsX0_trialsOf := by decide +kernel
set_option maxRecDepth 20000 in
theorem jX0_trialsOf_30 : Cond.fieldLink RX0 30 (TX0 8).1 (TX0 8).2.1 (TX0 8).2.2.1 ∈ wsX0_trialsOf := by decide +kernel
def f_X0_trialsOf_L4 (F : Nat) (s : SB) (a1 : Int32) : Nat → Int32 → Int32 → Option Int32
  | 0, _, _ => none
  | n + 1, x1, x2 =>
    (if (B_trials s) ≤ x2 then
    some x1
    else
    ochi x2 20 (
    (if ((B_trialStall s) (Int32.toNatClampNeg x2)) = a1 then
    f_X0_trialsOf_L4 F s a1 n (x1 + 1) (x2 + 1)
    else
    f_X0_trialsOf_L4 F s a1 n x1 (x2 + 1))))

def f_X0_trialsOf (F : Nat) (s : SB) (a1 : Int32) : Option Int32 :=
    f_X0_trialsOf_L4 F s a1 F (0 : Int32) (0 : Int32)

set_option maxHeartbeats 4000000 in
set_option maxRecDepth 100000 in
theorem w_X0_trialsOf_L4 {E : GE} {cs : CS} {ad : Nat → Nat} {F : Nat} {s : SB} {a1 : Int32} {r : Int32} (hty : eT E = tyA cs) (hr : Ri E kX0_trialsOf r (wB cs ad s)) : ∀ (n : Nat) (x1 : Int32) (x2 : Int32), f_X0_trialsOf_L4 F s a1 n x1 x2 = some r → G E kX0_trialsOf 0 0 4 [(0, .ref (ad 0)), (1, .int a1), (2, .int x1), (3, .int x2)] [] (wB cs ad s) := by
  intro n
  induction n with
  | zero =>
    intro x1 x2 hf
    cases (show (none : Option Int32) = some r from hf)
  | succ n ih =>
    intro x1 x2 hf
    rw [f_X0_trialsOf_L4] at hf
    refine g_iload_n 3 dX0_trialsOf_4 rfl rfl ?_
    refine g_aload_n 0 dX0_trialsOf_5 rfl rfl ?_
    refine g_get (ci := 0) (T := TX0) (N := 15) 0 7 (.int (B_trials s)) dX0_trialsOf_6 iX0_trialsOf_X0 rfl jX0_trialsOf_43 (by decide) wlaB_0 rfl ?_
    refine g_icmp_ge (tgt := 31) dX0_trialsOf_9 (by decide) (fun h3 => ?_) (fun h3 => ?_)
    · have hf := ift h3 hf
      refine g_iload_n 2 dX0_trialsOf_31 rfl rfl ?_
      obtain rfl := Option.some.inj hf
      exact hr _ _ dX0_trialsOf_32
    · have hf := iff_ h3 hf
      refine g_aload_n 0 dX0_trialsOf_12 rfl rfl ?_
      refine g_get (ci := 0) (T := TX0) (N := 15) 0 8 (.ref (ad 7)) dX0_trialsOf_13 iX0_trialsOf_X0 rfl jX0_trialsOf_30 (by decide) wlaB_0 rfl ?_
      refine g_iload_n 3 dX0_trialsOf_16 rfl rfl ?_
      obtain ⟨h4, hf⟩ := ochi_some hf
      refine g_iald 7 0 dX0_trialsOf_17 wlaB_7 (tI hty) h4 ?_
      refine g_iload_n 1 dX0_trialsOf_18 rfl rfl ?_
      refine g_icmp_ne (tgt := 25) dX0_trialsOf_19 (by decide) (fun h5 => ?_) (fun h5 => ?_)
      · have hf := iff_ h5 hf
        refine g_iinc (lv2 := [(3, .int (x2 + 1)), (0, .ref (ad 0)), (1, .int a1), (2, .int x1)]) 3 dX0_trialsOf_25 rfl (ii1 _) (by decide) rfl ?_
        refine g_goto (tgt := 4) dX0_trialsOf_28 (by decide) ?_
        exact g_sub [1, 2, 3, 0] rfl (ih x1 (x2 + 1) hf)
      · have hf := ift h5 hf
        refine g_iinc (lv2 := [(2, .int (x1 + 1)), (0, .ref (ad 0)), (1, .int a1), (3, .int x2)]) 2 dX0_trialsOf_22 rfl (ii1 _) (by decide) rfl ?_
        refine g_iinc (lv2 := [(3, .int (x2 + 1)), (2, .int (x1 + 1)), (0, .ref (ad 0)), (1, .int a1)]) 3 dX0_trialsOf_25 rfl (ii1 _) (by decide) rfl ?_
        refine g_goto (tgt := 4) dX0_trialsOf_28 (by decide) ?_
        exact g_sub [2, 3, 1, 0] rfl (ih (x1 + 1) (x2 + 1) hf)

set_option maxHeartbeats 4000000 in
set_option maxRecDepth 100000 in
theorem c_X0_trialsOf {l : Launch} {D : va_G} {tys : List (ClassId × FieldType)} {X : XT} {cs : CS} (ad : Nat → Nat) {F : Nat} {s : SB} {a1 : Int32} {r : Int32} (htyM : tys = tyA cs) (hf : f_X0_trialsOf F s a1 = some r) : Ci l D tys X yX0_trialsOf wsX0_trialsOf rmX0_trialsOf [.ref (ad 0), .int a1] (wB cs ad s) r (wB cs ad s) := by
  refine Ci_ofG (by decide +kernel) rfl (Nat.le_of_ble_eq_true rfl) .int rfl (vp_nar_int _) (fun E _ _ hty0 hX0 hr => ?_)
  have hty := hty0.trans htyM
  have hr : Ri E kX0_trialsOf r (wB cs ad s) := hr
  show G E kX0_trialsOf 0 0 0 [(0, .ref (ad 0)), (1, .int a1)] [] (wB cs ad s)
  unfold f_X0_trialsOf at hf
  refine g_iconst (v := (0 : Int32)) dX0_trialsOf_0 (by decide) ?_
  refine g_istore_n (lv2 := [(2, .int (0 : Int32)), (0, .ref (ad 0)), (1, .int a1)]) dX0_trialsOf_1 rfl (by decide) rfl ?_
  refine g_iconst (v := (0 : Int32)) dX0_trialsOf_2 (by decide) ?_
  refine g_istore_n (lv2 := [(3, .int (0 : Int32)), (2, .int (0 : Int32)), (0, .ref (ad 0)), (1, .int a1)]) dX0_trialsOf_3 rfl (by decide) rfl ?_
  exact g_sub [2, 3, 1, 0] rfl (w_X0_trialsOf_L4 hty hr F (0 : Int32) (0 : Int32) hf)
