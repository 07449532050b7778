-- java/lang/Math floorDiv (II)I
def rmJ9_floorDiv_7cf53 : Room := { frames := 0, cells := 0, slots := 0, locals := 0 }
def kJ9_floorDiv_7cf53 : MK := (cJ9_floorDiv_7cf53, 3, RJ9, wsJ9_floorDiv_7cf53, (some .int), rmJ9_floorDiv_7cf53)

def f_J9_floorDiv_7cf53 (F : Nat) (a0 : Int32) (a1 : Int32) : Option Int32 :=
    ochk (¬ a1 = 0) (
    (if 0 ≤ (a0 ^^^ a1) then
    some (a0 / a1)
    else
    (if ((a0 / a1) * a1) = a0 then
    some (a0 / a1)
    else
    some ((a0 / a1) - (1 : Int32)))))

set_option maxHeartbeats 4000000 in
set_option maxRecDepth 100000 in
theorem c_J9_floorDiv_7cf53 {l : Launch} {D : va_G} {tys : List (ClassId × FieldType)} {X : XT} {cs : CS} {F : Nat} {a0 : Int32} {a1 : Int32} {r : Int32} (htyM : tys = tyA cs) (hf : f_J9_floorDiv_7cf53 F a0 a1 = some r) : Ci l D tys X yJ9_floorDiv_7cf53 wsJ9_floorDiv_7cf53 rmJ9_floorDiv_7cf53 [.int a0, .int a1] [] r [] := by
  refine Ci_ofG (by decide +kernel) rfl (Nat.le_of_ble_eq_true rfl) .int rfl (vp_nar_int _) (fun E _ _ hty0 hX0 hr => ?_)
  have hty := hty0.trans htyM
  have hr : Ri E kJ9_floorDiv_7cf53 r [] := hr
  show G E kJ9_floorDiv_7cf53 0 0 0 [(0, .int a0), (1, .int a1)] [] []
  unfold f_J9_floorDiv_7cf53 at hf
  refine g_iload_n 0 dJ9_floorDiv_7cf53_0 rfl rfl ?_
  refine g_iload_n 1 dJ9_floorDiv_7cf53_1 rfl rfl ?_
  obtain ⟨h1, hf⟩ := ochk_some hf
  refine g_idiv dJ9_floorDiv_7cf53_2 h1 ?_
  refine g_istore_n (lv2 := [(2, .int (a0 / a1)), (0, .int a0), (1, .int a1)]) dJ9_floorDiv_7cf53_3 rfl (by decide) rfl ?_
  refine g_iload_n 1 dJ9_floorDiv_7cf53_4 rfl rfl ?_
  refine g_iload_n 2 dJ9_floorDiv_7cf53_5 rfl rfl ?_
  refine g_ixor dJ9_floorDiv_7cf53_6 ?_
  refine g_if_ge (tgt := 21) dJ9_floorDiv_7cf53_7 (by decide) (fun h2 => ?_) (fun h2 => ?_)
  · have hf := ift h2 hf
    refine g_iload_n 0 dJ9_floorDiv_7cf53_21 rfl rfl ?_
    obtain rfl := Option.some.inj hf
    exact hr _ _ dJ9_floorDiv_7cf53_22
  · have hf := iff_ h2 hf
    refine g_iload_n 0 dJ9_floorDiv_7cf53_10 rfl rfl ?_
    refine g_iload_n 2 dJ9_floorDiv_7cf53_11 rfl rfl ?_
    refine g_imul dJ9_floorDiv_7cf53_12 ?_
    refine g_iload_n 1 dJ9_floorDiv_7cf53_13 rfl rfl ?_
    refine g_icmp_eq (tgt := 21) dJ9_floorDiv_7cf53_14 (by decide) (fun h3 => ?_) (fun h3 => ?_)
    · have hf := ift h3 hf
      refine g_iload_n 0 dJ9_floorDiv_7cf53_21 rfl rfl ?_
      obtain rfl := Option.some.inj hf
      exact hr _ _ dJ9_floorDiv_7cf53_22
    · have hf := iff_ h3 hf
      refine g_iload_n 0 dJ9_floorDiv_7cf53_17 rfl rfl ?_
      refine g_iconst (v := (1 : Int32)) dJ9_floorDiv_7cf53_18 (by decide) ?_
      refine g_isub dJ9_floorDiv_7cf53_19 ?_
      obtain rfl := Option.some.inj hf
      exact hr _ _ dJ9_floorDiv_7cf53_20

-- ThumbScale within (III)Z
def rmX5_within : Room := { frames := 0, cells := 0, slots := 0, locals := 0 }
def kX5_within : MK := (cX5_within, 3, RX5, wsX5_within, (some .boolean), rmX5_within)

def f_X5_within (F : Nat) (a0 : Int32) (a1 : Int32) (a2 : Int32) : Option Int32 :=
    (if a0 < a1 then
    some (0 : Int32)
    else
    (if a2 < a0 then
    some (0 : Int32)
    else
    some (1 : Int32)))

set_option maxHeartbeats 4000000 in
set_option maxRecDepth 100000 in
theorem c_X5_within {l : Launch} {D : va_G} {tys : List (ClassId × FieldType)} {X : XT} {cs : CS} {F : Nat} {a0 : Int32} {a1 : Int32} {a2 : Int32} {r : Int32} (htyM : tys = tyA cs) (hf : f_X5_within F a0 a1 a2 = some r) : Ci l D tys X yX5_within wsX5_within rmX5_within [.int a0, .int a1, .int a2] [] r [] := by
  refine Cz_ofG (by decide +kernel) rfl (Nat.le_of_ble_eq_true rfl) (fun E _ _ hty0 hX0 hr => ?_)
  have hty := hty0.trans htyM
  have hr : Rz E kX5_within r [] := hr
  show G E kX5_within 0 0 0 [(0, .int a0), (1, .int a1), (2, .int a2)] [] []
  unfold f_X5_within at hf
  refine g_iload_n 0 dX5_within_0 rfl rfl ?_
  refine g_iload_n 1 dX5_within_1 rfl rfl ?_
  refine g_icmp_lt (tgt := 14) dX5_within_2 (by decide) (fun h1 => ?_) (fun h1 => ?_)
  · have hf := ift h1 hf
    refine g_iconst (v := (0 : Int32)) dX5_within_14 (by decide) ?_
    obtain rfl := Option.some.inj hf
    exact hr _ _ dX5_within_15 (Or.inl rfl)
  · have hf := iff_ h1 hf
    refine g_iload_n 0 dX5_within_5 rfl rfl ?_
    refine g_iload_n 2 dX5_within_6 rfl rfl ?_
    refine g_icmp_gt (tgt := 14) dX5_within_7 (by decide) (fun h2 => ?_) (fun h2 => ?_)
    · have hf := ift h2 hf
      refine g_iconst (v := (0 : Int32)) dX5_within_14 (by decide) ?_
      obtain rfl := Option.some.inj hf
      exact hr _ _ dX5_within_15 (Or.inl rfl)
    · have hf := iff_ h2 hf
      refine g_iconst (v := (1 : Int32)) dX5_within_10 (by decide) ?_
      refine g_goto (tgt := 15) dX5_within_11 (by decide) ?_
      obtain rfl := Option.some.inj hf
      exact hr _ _ dX5_within_15 (Or.inr rfl)

-- ThumbScale isSort (I)Z
def rmX5_isSort : Room := { frames := 0, cells := 0, slots := 0, locals := 0 }
def kX5_isSort : MK := (cX5_isSort, 1, RX5, wsX5_isSort, (some .boolean), rmX5_isSort)

def f_X5_isSort (F : Nat) (a0 : Int32) : Option Int32 :=
    (if a0 < 0 then
    some (0 : Int32)
    else
    (if (4 : Int32) ≤ a0 then
    some (0 : Int32)
    else
    some (1 : Int32)))

set_option maxHeartbeats 4000000 in
set_option maxRecDepth 100000 in
theorem c_X5_isSort {l : Launch} {D : va_G} {tys : List (ClassId × FieldType)} {X : XT} {cs : CS} {F : Nat} {a0 : Int32} {r : Int32} (htyM : tys = tyA cs) (hf : f_X5_isSort F a0 = some r) : Ci l D tys X yX5_isSort wsX5_isSort rmX5_isSort [.int a0] [] r [] := by
  refine Cz_ofG (by decide +kernel) rfl (Nat.le_of_ble_eq_true rfl) (fun E _ _ hty0 hX0 hr => ?_)
  have hty := hty0.trans htyM
  have hr : Rz E kX5_isSort r [] := hr
  show G E kX5_isSort 0 0 0 [(0, .int a0)] [] []
  unfold f_X5_isSort at hf
  refine g_iload_n 0 dX5_isSort_0 rfl rfl ?_
  refine g_if_lt (tgt := 13) dX5_isSort_1 (by decide) (fun h1 => ?_) (fun h1 => ?_)
  · have hf := ift h1 hf
    refine g_iconst (v := (0 : Int32)) dX5_isSort_13 (by decide) ?_
    obtain rfl := Option.some.inj hf
    exact hr _ _ dX5_isSort_14 (Or.inl rfl)
  · have hf := iff_ h1 hf
    refine g_iload_n 0 dX5_isSort_4 rfl rfl ?_
    refine g_iconst (v := (4 : Int32)) dX5_isSort_5 (by decide) ?_
    refine g_icmp_ge (tgt := 13) dX5_isSort_6 (by decide) (fun h2 => ?_) (fun h2 => ?_)
    · have hf := ift h2 hf
      refine g_iconst (v := (0 : Int32)) dX5_isSort_13 (by decide) ?_
      obtain rfl := Option.some.inj hf
      exact hr _ _ dX5_isSort_14 (Or.inl rfl)
    · have hf := iff_ h2 hf
      refine g_iconst (v := (1 : Int32)) dX5_isSort_9 (by decide) ?_
      refine g_goto (tgt := 14) dX5_isSort_10 (by decide) ?_
      obtain rfl := Option.some.inj hf
      exact hr _ _ dX5_isSort_14 (Or.inr rfl)

-- ThumbScale isPart (I)Z
def rmX5_isPart : Room := { frames := 0, cells := 0, slots := 0, locals := 0 }
def kX5_isPart : MK := (cX5_isPart, 1, RX5, wsX5_isPart, (some .boolean), rmX5_isPart)

def f_X5_isPart (F : Nat) (a0 : Int32) : Option Int32 :=
    (if a0 = 0 then
    some (1 : Int32)
    else
    (if a0 = (1 : Int32) then
    some (1 : Int32)
    else
    some (0 : Int32)))

set_option maxHeartbeats 4000000 in
set_option maxRecDepth 100000 in
theorem c_X5_isPart {l : Launch} {D : va_G} {tys : List (ClassId × FieldType)} {X : XT} {cs : CS} {F : Nat} {a0 : Int32} {r : Int32} (htyM : tys = tyA cs) (hf : f_X5_isPart F a0 = some r) : Ci l D tys X yX5_isPart wsX5_isPart rmX5_isPart [.int a0] [] r [] := by
  refine Cz_ofG (by decide +kernel) rfl (Nat.le_of_ble_eq_true rfl) (fun E _ _ hty0 hX0 hr => ?_)
  have hty := hty0.trans htyM
  have hr : Rz E kX5_isPart r [] := hr
  show G E kX5_isPart 0 0 0 [(0, .int a0)] [] []
  unfold f_X5_isPart at hf
  refine g_iload_n 0 dX5_isPart_0 rfl rfl ?_
  refine g_if_eq (tgt := 9) dX5_isPart_1 (by decide) (fun h1 => ?_) (fun h1 => ?_)
  · have hf := ift h1 hf
    refine g_iconst (v := (1 : Int32)) dX5_isPart_9 (by decide) ?_
    refine g_goto (tgt := 14) dX5_isPart_10 (by decide) ?_
    obtain rfl := Option.some.inj hf
    exact hr _ _ dX5_isPart_14 (Or.inr rfl)
  · have hf := iff_ h1 hf
    refine g_iload_n 0 dX5_isPart_4 rfl rfl ?_
    refine g_iconst (v := (1 : Int32)) dX5_isPart_5 (by decide) ?_
    refine g_icmp_ne (tgt := 13) dX5_isPart_6 (by decide) (fun h2 => ?_) (fun h2 => ?_)
    · have hf := iff_ h2 hf
      refine g_iconst (v := (0 : Int32)) dX5_isPart_13 (by decide) ?_
      obtain rfl := Option.some.inj hf
      exact hr _ _ dX5_isPart_14 (Or.inl rfl)
    · have hf := ift h2 hf
      refine g_iconst (v := (1 : Int32)) dX5_isPart_9 (by decide) ?_
      refine g_goto (tgt := 14) dX5_isPart_10 (by decide) ?_
      obtain rfl := Option.some.inj hf
      exact hr _ _ dX5_isPart_14 (Or.inr rfl)

-- ThumbScale power (JI)J
def rmX5_power : Room := { frames := 0, cells := 0, slots := 0, locals := 0 }
def kX5_power : MK := (cX5_power, 6, RX5, wsX5_power, (some .long), rmX5_power)

def f_X5_power_L5 (F : Nat) (a0 : Int64) (a2 : Int32) : Nat → Int64 → Int32 → Option Int64
  | 0, _, _ => none
  | n + 1, x1, x2 =>
    (if a2 ≤ x2 then
    some x1
    else
    f_X5_power_L5 F a0 a2 n (x1 * a0) (x2 + 1))

def f_X5_power (F : Nat) (a0 : Int64) (a2 : Int32) : Option Int64 :=
    f_X5_power_L5 F a0 a2 F (1 : Int64) (0 : Int32)

set_option maxHeartbeats 4000000 in
set_option maxRecDepth 100000 in
theorem w_X5_power_L5 {E : GE} {cs : CS} {F : Nat} {a0 : Int64} {a2 : Int32} {r : Int64} (hty : eT E = tyA cs) (hr : Rl E kX5_power r []) : ∀ (n : Nat) (x1 : Int64) (x2 : Int32), f_X5_power_L5 F a0 a2 n x1 x2 = some r → G E kX5_power 0 0 5 [(0, .long a0), (2, .int a2), (3, .long x1), (5, .int x2)] [] [] := by
  intro n
  induction n with
  | zero =>
    intro x1 x2 hf
    cases (show (none : Option Int64) = some r from hf)
  | succ n ih =>
    intro x1 x2 hf
    rw [f_X5_power_L5] at hf
    refine g_iload 3 dX5_power_5 rfl ?_
    refine g_iload_n 1 dX5_power_7 rfl rfl ?_
    refine g_icmp_ge (tgt := 21) dX5_power_8 (by decide) (fun h3 => ?_) (fun h3 => ?_)
    · have hf := ift h3 hf
      refine g_lload_n 2 dX5_power_21 rfl rfl ?_
      obtain rfl := Option.some.inj hf
      exact hr _ _ dX5_power_22
    · have hf := iff_ h3 hf
      refine g_lload_n 2 dX5_power_11 rfl rfl ?_
      refine g_lload_n 0 dX5_power_12 rfl rfl ?_
      refine g_lmul dX5_power_13 ?_
      refine g_lstore_n (lv2 := [(3, .long (x1 * a0)), (0, .long a0), (2, .int a2), (5, .int x2)]) dX5_power_14 rfl (by decide) rfl ?_
      refine g_iinc (lv2 := [(5, .int (x2 + 1)), (3, .long (x1 * a0)), (0, .long a0), (2, .int a2)]) 3 dX5_power_15 rfl (ii1 _) (by decide) rfl ?_
      refine g_goto (tgt := 5) dX5_power_18 (by decide) ?_
      exact g_sub [2, 3, 1, 0] rfl (ih (x1 * a0) (x2 + 1) hf)

set_option maxHeartbeats 4000000 in
set_option maxRecDepth 100000 in
theorem c_X5_power {l : Launch} {D : va_G} {tys : List (ClassId × FieldType)} {X : XT} {cs : CS} {F : Nat} {a0 : Int64} {a2 : Int32} {r : Int64} (htyM : tys = tyA cs) (hf : f_X5_power F a0 a2 = some r) : Cl l D tys X yX5_power wsX5_power rmX5_power [.long a0, .int a2] [] r [] := by
  refine Cl_ofG (by decide +kernel) rfl (Nat.le_of_ble_eq_true rfl) (fun E _ _ hty0 hX0 hr => ?_)
  have hty := hty0.trans htyM
  have hr : Rl E kX5_power r [] := hr
  show G E kX5_power 0 0 0 [(0, .long a0), (2, .int a2)] [] []
  unfold f_X5_power at hf
  refine g_lconst (v := (1 : Int64)) dX5_power_0 (by decide) ?_
  refine g_lstore_n (lv2 := [(3, .long (1 : Int64)), (0, .long a0), (2, .int a2)]) dX5_power_1 rfl (by decide) rfl ?_
  refine g_iconst (v := (0 : Int32)) dX5_power_2 (by decide) ?_
  refine g_istore (lv2 := [(5, .int (0 : Int32)), (3, .long (1 : Int64)), (0, .long a0), (2, .int a2)]) dX5_power_3 (by decide) rfl ?_
  exact g_sub [2, 3, 1, 0] rfl (w_X5_power_L5 hty hr F (1 : Int64) (0 : Int32) hf)

-- ThumbScale atMost (JIJ)J
def rmX5_atMost : Room := { frames := 0, cells := 0, slots := 0, locals := 0 }
def kX5_atMost : MK := (cX5_atMost, 5, RX5, wsX5_atMost, (some .long), rmX5_atMost)

def f_X5_atMost (F : Nat) (a0 : Int64) (a2 : Int32) (a3 : Int64) : Option Int64 :=
    (if 0 < a2 then
    ochk (¬ (Int32.toInt64 a2) = 0) (
    (if (lg_cmp a0 (a3 / (Int32.toInt64 a2))) ≤ 0 then
    some (a0 * (Int32.toInt64 a2))
    else
    some a3))
    else
    some (0 : Int64))

set_option maxHeartbeats 4000000 in
set_option maxRecDepth 100000 in
theorem c_X5_atMost {l : Launch} {D : va_G} {tys : List (ClassId × FieldType)} {X : XT} {cs : CS} {F : Nat} {a0 : Int64} {a2 : Int32} {a3 : Int64} {r : Int64} (htyM : tys = tyA cs) (hf : f_X5_atMost F a0 a2 a3 = some r) : Cl l D tys X yX5_atMost wsX5_atMost rmX5_atMost [.long a0, .int a2, .long a3] [] r [] := by
  refine Cl_ofG (by decide +kernel) rfl (Nat.le_of_ble_eq_true rfl) (fun E _ _ hty0 hX0 hr => ?_)
  have hty := hty0.trans htyM
  have hr : Rl E kX5_atMost r [] := hr
  show G E kX5_atMost 0 0 0 [(0, .long a0), (2, .int a2), (3, .long a3)] [] []
  unfold f_X5_atMost at hf
  refine g_iload_n 1 dX5_atMost_0 rfl rfl ?_
  refine g_if_gt (tgt := 6) dX5_atMost_1 (by decide) (fun h1 => ?_) (fun h1 => ?_)
  · have hf := ift h1 hf
    refine g_lload_n 0 dX5_atMost_6 rfl rfl ?_
    refine g_lload_n 2 dX5_atMost_7 rfl rfl ?_
    refine g_iload_n 1 dX5_atMost_8 rfl rfl ?_
    refine g_i2l dX5_atMost_9 ?_
    obtain ⟨h2, hf⟩ := ochk_some hf
    refine g_ldiv dX5_atMost_10 h2 ?_
    refine g_lcmp dX5_atMost_11 ?_
    refine g_if_le (tgt := 19) dX5_atMost_12 (by decide) (fun h3 => ?_) (fun h3 => ?_)
    · have hf := ift h3 hf
      refine g_lload_n 0 dX5_atMost_19 rfl rfl ?_
      refine g_iload_n 1 dX5_atMost_20 rfl rfl ?_
      refine g_i2l dX5_atMost_21 ?_
      refine g_lmul dX5_atMost_22 ?_
      obtain rfl := Option.some.inj hf
      exact hr _ _ dX5_atMost_23
    · have hf := iff_ h3 hf
      refine g_lload_n 2 dX5_atMost_15 rfl rfl ?_
      refine g_goto (tgt := 23) dX5_atMost_16 (by decide) ?_
      obtain rfl := Option.some.inj hf
      exact hr _ _ dX5_atMost_23
  · have hf := iff_ h1 hf
    refine g_lconst (v := (0 : Int64)) dX5_atMost_4 (by decide) ?_
    obtain rfl := Option.some.inj hf
    exact hr _ _ dX5_atMost_5

-- ThumbScale commonDivisor (JJ)J
def rmX5_commonDivisor : Room := { frames := 0, cells := 0, slots := 0, locals := 0 }
def kX5_commonDivisor : MK := (cX5_commonDivisor, 11, RX5, wsX5_commonDivisor, (some .long), rmX5_commonDivisor)

def f_X5_commonDivisor_L9 (F : Nat) (a0 : Int64) (a2 : Int64) : Nat → Int64 → Int64 → Int32 → Option Int64
  | 0, _, _, _ => none
  | n + 1, x1, x2, x3 =>
    (if (200 : Int32) ≤ x3 then
    some x1
    else
    (if (lg_cmp x2 (0 : Int64)) = 0 then
    some x1
    else
    ochk (¬ x2 = 0) (
    f_X5_commonDivisor_L9 F a0 a2 n x2 (x1 - x1 / x2 * x2) (x3 + 1))))

def f_X5_commonDivisor (F : Nat) (a0 : Int64) (a2 : Int64) : Option Int64 :=
    f_X5_commonDivisor_L9 F a0 a2 F a0 a2 (0 : Int32)

set_option maxHeartbeats 4000000 in
set_option maxRecDepth 100000 in
theorem w_X5_commonDivisor_L9 {E : GE} {cs : CS} {F : Nat} {a0 : Int64} {a2 : Int64} {r : Int64} (hty : eT E = tyA cs) (hr : Rl E kX5_commonDivisor r []) : ∀ (n : Nat) (x1 : Int64) (x2 : Int64) (x3 : Int32), f_X5_commonDivisor_L9 F a0 a2 n x1 x2 x3 = some r → G E kX5_commonDivisor 0 0 9 [(4, .long x1), (6, .long x2), (8, .int x3)] [] [] := by
  intro n
  induction n with
  | zero =>
    intro x1 x2 x3 hf
    cases (show (none : Option Int64) = some r from hf)
  | succ n ih =>
    intro x1 x2 x3 hf
    rw [f_X5_commonDivisor_L9] at hf
    refine g_iload 2 dX5_commonDivisor_9 rfl ?_
    refine g_sipush (v := (200 : Int32)) dX5_commonDivisor_11 (by decide) ?_
    refine g_icmp_ge (tgt := 45) dX5_commonDivisor_14 (by decide) (fun h4 => ?_) (fun h4 => ?_)
    · have hf := ift h4 hf
      refine g_lload 0 dX5_commonDivisor_45 rfl ?_
      obtain rfl := Option.some.inj hf
      exact hr _ _ dX5_commonDivisor_47
    · have hf := iff_ h4 hf
      refine g_lload 1 dX5_commonDivisor_17 rfl ?_
      refine g_lconst (v := (0 : Int64)) dX5_commonDivisor_19 (by decide) ?_
      refine g_lcmp dX5_commonDivisor_20 ?_
      refine g_if_eq (tgt := 45) dX5_commonDivisor_21 (by decide) (fun h5 => ?_) (fun h5 => ?_)
      · have hf := ift h5 hf
        refine g_lload 0 dX5_commonDivisor_45 rfl ?_
        obtain rfl := Option.some.inj hf
        exact hr _ _ dX5_commonDivisor_47
      · have hf := iff_ h5 hf
        refine g_lload 0 dX5_commonDivisor_24 rfl ?_
        refine g_lload 1 dX5_commonDivisor_26 rfl ?_
        obtain ⟨h6, hf⟩ := ochk_some hf
        refine g_lrem dX5_commonDivisor_28 h6 ?_
        refine g_lstore (lv2 := [(9, .long (x1 - x1 / x2 * x2)), (4, .long x1), (6, .long x2), (8, .int x3)]) dX5_commonDivisor_29 (by decide) rfl ?_
        refine g_lload 2 dX5_commonDivisor_31 rfl ?_
        refine g_lstore (lv2 := [(4, .long x2), (9, .long (x1 - x1 / x2 * x2)), (6, .long x2), (8, .int x3)]) dX5_commonDivisor_33 (by decide) rfl ?_
        refine g_lload 1 dX5_commonDivisor_35 rfl ?_
        refine g_lstore (lv2 := [(6, .long (x1 - x1 / x2 * x2)), (4, .long x2), (9, .long (x1 - x1 / x2 * x2)), (8, .int x3)]) dX5_commonDivisor_37 (by decide) rfl ?_
        refine g_iinc (lv2 := [(8, .int (x3 + 1)), (6, .long (x1 - x1 / x2 * x2)), (4, .long x2), (9, .long (x1 - x1 / x2 * x2))]) 3 dX5_commonDivisor_39 rfl (ii1 _) (by decide) rfl ?_
        refine g_goto (tgt := 9) dX5_commonDivisor_42 (by decide) ?_
        exact g_sub [2, 1, 0] rfl (ih x2 (x1 - x1 / x2 * x2) (x3 + 1) hf)

set_option maxHeartbeats 4000000 in
set_option maxRecDepth 100000 in
theorem c_X5_commonDivisor {l : Launch} {D : va_G} {tys : List (ClassId × FieldType)} {X : XT} {cs : CS} {F : Nat} {a0 : Int64} {a2 : Int64} {r : Int64} (htyM : tys = tyA cs) (hf : f_X5_commonDivisor F a0 a2 = some r) : Cl l D tys X yX5_commonDivisor wsX5_commonDivisor rmX5_commonDivisor [.long a0, .long a2] [] r [] := by
  refine Cl_ofG (by decide +kernel) rfl (Nat.le_of_ble_eq_true rfl) (fun E _ _ hty0 hX0 hr => ?_)
  have hty := hty0.trans htyM
  have hr : Rl E kX5_commonDivisor r [] := hr
  show G E kX5_commonDivisor 0 0 0 [(0, .long a0), (2, .long a2)] [] []
  unfold f_X5_commonDivisor at hf
  refine g_lload_n 0 dX5_commonDivisor_0 rfl rfl ?_
  refine g_lstore (lv2 := [(4, .long a0), (0, .long a0), (2, .long a2)]) dX5_commonDivisor_1 (by decide) rfl ?_
  refine g_lload_n 2 dX5_commonDivisor_3 rfl rfl ?_
  refine g_lstore (lv2 := [(6, .long a2), (4, .long a0), (0, .long a0), (2, .long a2)]) dX5_commonDivisor_4 (by decide) rfl ?_
  refine g_iconst (v := (0 : Int32)) dX5_commonDivisor_6 (by decide) ?_
  refine g_istore (lv2 := [(8, .int (0 : Int32)), (6, .long a2), (4, .long a0), (0, .long a0), (2, .long a2)]) dX5_commonDivisor_7 (by decide) rfl ?_
  exact g_sub [2, 1, 0] rfl (w_X5_commonDivisor_L9 hty hr F a0 a2 (0 : Int32) hf)

-- ThumbScale inLeastTerms (JJI)J
def rmX5_inLeastTerms : Room := { frames := 1, cells := 0, slots := 0, locals := 30 }
def kX5_inLeastTerms : MK := (cX5_inLeastTerms, 7, RX5, wsX5_inLeastTerms, (some .long), rmX5_inLeastTerms)

set_option maxRecDepth 20000 in
theorem mX5_inLeastTerms_340 : (Cond.methodLink RX5 340 Lib.MathLoose.abs_long.x ∈ wsX5_inLeastTerms ∧ Cond.static Lib.MathLoose.abs_long.x ∈ wsX5_inLeastTerms) ∧ (Cond.initialized "java/lang/Math" ∈ wsX5_inLeastTerms ∧ Cond.code Lib.MathLoose.abs_long.x Lib.MathLoose.abs_long.code 2 (some .long) ∈ wsX5_inLeastTerms) := ⟨⟨by decide +kernel, by decide +kernel⟩, ⟨by decide +kernel, by decide +kernel⟩⟩
set_option maxRecDepth 20000 in
theorem vX5_inLeastTerms_344 : KS kX5_inLeastTerms 344 yX5_commonDivisor wsX5_commonDivisor rmX5_commonDivisor 2 := ⟨_, _, _, _, gX5_inLeastTerms_X5_commonDivisor, rfl, rfl, rfl, by decide +kernel, ⟨by decide, by decide⟩⟩
set_option maxRecDepth 20000 in
theorem qX5_inLeastTerms_164 : Cond.constantLong RX5 164 (-1000000000000000000 : Int64) ∈ wsX5_inLeastTerms := by decide +kernel
def f_X5_inLeastTerms (F : Nat) (a0 : Int64) (a2 : Int64) (a4 : Int32) : Option Int64 :=
    obd (f_X5_commonDivisor F (if 0 < a0 then a0 else -a0) a2) (fun v1 =>
    (if 0 < (lg_cmp v1 (0 : Int64)) then
    (if a4 = 0 then
    ochk (¬ v1 = 0) (
    some (a0 / v1))
    else
    ochk (¬ v1 = 0) (
    some (a2 / v1)))
    else
    some (-1000000000000000000 : Int64)))

set_option maxHeartbeats 4000000 in
set_option maxRecDepth 100000 in
theorem c_X5_inLeastTerms {l : Launch} {D : va_G} {tys : List (ClassId × FieldType)} {X : XT} {cs : CS} {F : Nat} {a0 : Int64} {a2 : Int64} {a4 : Int32} {r : Int64} (htyM : tys = tyA cs) (hf : f_X5_inLeastTerms F a0 a2 a4 = some r) : Cl l D tys X yX5_inLeastTerms wsX5_inLeastTerms rmX5_inLeastTerms [.long a0, .long a2, .int a4] [] r [] := by
  refine Cl_ofG (by decide +kernel) rfl (Nat.le_of_ble_eq_true rfl) (fun E _ _ hty0 hX0 hr => ?_)
  have hty := hty0.trans htyM
  have hr : Rl E kX5_inLeastTerms r [] := hr
  show G E kX5_inLeastTerms 0 0 0 [(0, .long a0), (2, .long a2), (4, .int a4)] [] []
  unfold f_X5_inLeastTerms at hf
  refine g_lload_n 0 dX5_inLeastTerms_0 rfl rfl ?_
  refine g_mabsl dX5_inLeastTerms_1 mX5_inLeastTerms_340.1.1 mX5_inLeastTerms_340.1.2 mX5_inLeastTerms_340.2.1 mX5_inLeastTerms_340.2.2 ⟨by decide, Nat.le_of_ble_eq_true rfl, Nat.zero_le _, Nat.zero_le _⟩ ?_
  refine g_lload_n 1 dX5_inLeastTerms_4 rfl rfl ?_
  obtain ⟨v1, hc2, hf⟩ := obd_some hf
  refine g_callSl (As := [.long (if 0 < a0 then a0 else -a0), .long a2]) (rest := []) (w2 := []) 0 dX5_inLeastTerms_5 vX5_inLeastTerms_344 (c_X5_commonDivisor hty hc2) rfl rfl rfl (Nat.le_of_ble_eq_true rfl) ⟨Nat.zero_le _, Nat.zero_le _⟩ rfl ?_
  refine g_lstore (lv2 := [(5, .long v1), (0, .long a0), (2, .long a2), (4, .int a4)]) dX5_inLeastTerms_8 (by decide) rfl ?_
  refine g_lload 0 dX5_inLeastTerms_10 rfl ?_
  refine g_lconst (v := (0 : Int64)) dX5_inLeastTerms_12 (by decide) ?_
  refine g_lcmp dX5_inLeastTerms_13 ?_
  refine g_if_gt (tgt := 21) dX5_inLeastTerms_14 (by decide) (fun h3 => ?_) (fun h3 => ?_)
  · have hf := ift h3 hf
    refine g_iload 3 dX5_inLeastTerms_21 rfl ?_
    refine g_if_ne (tgt := 33) dX5_inLeastTerms_23 (by decide) (fun h4 => ?_) (fun h4 => ?_)
    · have hf := iff_ h4 hf
      refine g_lload_n 2 dX5_inLeastTerms_33 rfl rfl ?_
      refine g_lload 0 dX5_inLeastTerms_34 rfl ?_
      obtain ⟨h5, hf⟩ := ochk_some hf
      refine g_ldiv dX5_inLeastTerms_36 h5 ?_
      obtain rfl := Option.some.inj hf
      exact hr _ _ dX5_inLeastTerms_37
    · have hf := ift h4 hf
      refine g_lload_n 1 dX5_inLeastTerms_26 rfl rfl ?_
      refine g_lload 0 dX5_inLeastTerms_27 rfl ?_
      obtain ⟨h6, hf⟩ := ochk_some hf
      refine g_ldiv dX5_inLeastTerms_29 h6 ?_
      refine g_goto (tgt := 37) dX5_inLeastTerms_30 (by decide) ?_
      obtain rfl := Option.some.inj hf
      exact hr _ _ dX5_inLeastTerms_37
  · have hf := iff_ h3 hf
    refine g_ldc2 (v := (-1000000000000000000 : Int64)) dX5_inLeastTerms_17 qX5_inLeastTerms_164 ?_
    obtain rfl := Option.some.inj hf
    exact hr _ _ dX5_inLeastTerms_20

-- ThumbScaleModel in (III)Z
def rmX6_in : Room := { frames := 0, cells := 0, slots := 0, locals := 0 }
def kX6_in : MK := (cX6_in, 3, RX6, wsX6_in, (some .boolean), rmX6_in)

def f_X6_in (F : Nat) (a0 : Int32) (a1 : Int32) (a2 : Int32) : Option Int32 :=
    (if a0 < a1 then
    some (0 : Int32)
    else
    (if a2 < a0 then
    some (0 : Int32)
    else
    some (1 : Int32)))

set_option maxHeartbeats 4000000 in
set_option maxRecDepth 100000 in
theorem c_X6_in {l : Launch} {D : va_G} {tys : List (ClassId × FieldType)} {X : XT} {cs : CS} {F : Nat} {a0 : Int32} {a1 : Int32} {a2 : Int32} {r : Int32} (htyM : tys = tyA cs) (hf : f_X6_in F a0 a1 a2 = some r) : Ci l D tys X yX6_in wsX6_in rmX6_in [.int a0, .int a1, .int a2] [] r [] := by
  refine Cz_ofG (by decide +kernel) rfl (Nat.le_of_ble_eq_true rfl) (fun E _ _ hty0 hX0 hr => ?_)
  have hty := hty0.trans htyM
  have hr : Rz E kX6_in r [] := hr
  show G E kX6_in 0 0 0 [(0, .int a0), (1, .int a1), (2, .int a2)] [] []
  unfold f_X6_in at hf
  refine g_iload_n 0 dX6_in_0 rfl rfl ?_
  refine g_iload_n 1 dX6_in_1 rfl rfl ?_
  refine g_icmp_lt (tgt := 14) dX6_in_2 (by decide) (fun h1 => ?_) (fun h1 => ?_)
  · have hf := ift h1 hf
    refine g_iconst (v := (0 : Int32)) dX6_in_14 (by decide) ?_
    obtain rfl := Option.some.inj hf
    exact hr _ _ dX6_in_15 (Or.inl rfl)
  · have hf := iff_ h1 hf
    refine g_iload_n 0 dX6_in_5 rfl rfl ?_
    refine g_iload_n 2 dX6_in_6 rfl rfl ?_
    refine g_icmp_gt (tgt := 14) dX6_in_7 (by decide) (fun h2 => ?_) (fun h2 => ?_)
    · have hf := ift h2 hf
      refine g_iconst (v := (0 : Int32)) dX6_in_14 (by decide) ?_
      obtain rfl := Option.some.inj hf
      exact hr _ _ dX6_in_15 (Or.inl rfl)
    · have hf := iff_ h2 hf
      refine g_iconst (v := (1 : Int32)) dX6_in_10 (by decide) ?_
      refine g_goto (tgt := 15) dX6_in_11 (by decide) ?_
      obtain rfl := Option.some.inj hf
      exact hr _ _ dX6_in_15 (Or.inr rfl)

-- ThumbScaleModel isSort (I)Z
def rmX6_isSort : Room := { frames := 1, cells := 0, slots := 0, locals := 22 }
def kX6_isSort : MK := (cX6_isSort, 1, RX6, wsX6_isSort, (some .boolean), rmX6_isSort)

set_option maxRecDepth 20000 in
theorem vX6_isSort_61 : KS kX6_isSort 61 yX6_in wsX6_in rmX6_in 3 := ⟨_, _, _, _, gX6_isSort_X6_in, rfl, rfl, rfl, by decide +kernel, ⟨by decide, by decide⟩⟩
def f_X6_isSort (F : Nat) (a0 : Int32) : Option Int32 :=
    obd (f_X6_in F a0 (0 : Int32) (3 : Int32)) (fun v1 =>
    ochk (v1 = 0 ∨ v1 = 1) (some v1))

set_option maxHeartbeats 4000000 in
set_option maxRecDepth 100000 in
theorem c_X6_isSort {l : Launch} {D : va_G} {tys : List (ClassId × FieldType)} {X : XT} {cs : CS} {F : Nat} {a0 : Int32} {r : Int32} (htyM : tys = tyA cs) (hf : f_X6_isSort F a0 = some r) : Ci l D tys X yX6_isSort wsX6_isSort rmX6_isSort [.int a0] [] r [] := by
  refine Cz_ofG (by decide +kernel) rfl (Nat.le_of_ble_eq_true rfl) (fun E _ _ hty0 hX0 hr => ?_)
  have hty := hty0.trans htyM
  have hr : Rz E kX6_isSort r [] := hr
  show G E kX6_isSort 0 0 0 [(0, .int a0)] [] []
  unfold f_X6_isSort at hf
  refine g_iload_n 0 dX6_isSort_0 rfl rfl ?_
  refine g_iconst (v := (0 : Int32)) dX6_isSort_1 (by decide) ?_
  refine g_iconst (v := (3 : Int32)) dX6_isSort_2 (by decide) ?_
  obtain ⟨v1, hc2, hf⟩ := obd_some hf
  refine g_callSi (As := [.int a0, .int (0 : Int32), .int (3 : Int32)]) (rest := []) (w2 := []) 0 dX6_isSort_3 vX6_isSort_61 (c_X6_in hty hc2) rfl rfl rfl (Nat.le_of_ble_eq_true rfl) ⟨Nat.zero_le _, Nat.zero_le _⟩ rfl ?_
  obtain ⟨h3, hf⟩ := ochk_some hf
  obtain rfl := Option.some.inj hf
  exact hr _ _ dX6_isSort_6 h3

-- ThumbScaleModel floor (II)I
def rmX6_floor : Room := { frames := 0, cells := 0, slots := 0, locals := 0 }
def kX6_floor : MK := (cX6_floor, 3, RX6, wsX6_floor, (some .int), rmX6_floor)

def f_X6_floor (F : Nat) (a0 : Int32) (a1 : Int32) : Option Int32 :=
    ochk (¬ a1 = 0) (
    ochk (¬ a1 = 0) (
    (if 0 ≤ (a0 - a0 / a1 * a1) then
    some (a0 / a1)
    else
    some ((a0 / a1) - (1 : Int32)))))

set_option maxHeartbeats 4000000 in
set_option maxRecDepth 100000 in
theorem c_X6_floor {l : Launch} {D : va_G} {tys : List (ClassId × FieldType)} {X : XT} {cs : CS} {F : Nat} {a0 : Int32} {a1 : Int32} {r : Int32} (htyM : tys = tyA cs) (hf : f_X6_floor F a0 a1 = some r) : Ci l D tys X yX6_floor wsX6_floor rmX6_floor [.int a0, .int a1] [] r [] := by
  refine Ci_ofG (by decide +kernel) rfl (Nat.le_of_ble_eq_true rfl) .int rfl (vp_nar_int _) (fun E _ _ hty0 hX0 hr => ?_)
  have hty := hty0.trans htyM
  have hr : Ri E kX6_floor r [] := hr
  show G E kX6_floor 0 0 0 [(0, .int a0), (1, .int a1)] [] []
  unfold f_X6_floor at hf
  refine g_iload_n 0 dX6_floor_0 rfl rfl ?_
  refine g_iload_n 1 dX6_floor_1 rfl rfl ?_
  obtain ⟨h1, hf⟩ := ochk_some hf
  refine g_idiv dX6_floor_2 h1 ?_
  refine g_istore_n (lv2 := [(2, .int (a0 / a1)), (0, .int a0), (1, .int a1)]) dX6_floor_3 rfl (by decide) rfl ?_
  refine g_iload_n 1 dX6_floor_4 rfl rfl ?_
  refine g_iload_n 2 dX6_floor_5 rfl rfl ?_
  obtain ⟨h2, hf⟩ := ochk_some hf
  refine g_irem dX6_floor_6 h2 ?_
  refine g_if_ge (tgt := 16) dX6_floor_7 (by decide) (fun h3 => ?_) (fun h3 => ?_)
  · have hf := ift h3 hf
    refine g_iload_n 0 dX6_floor_16 rfl rfl ?_
    obtain rfl := Option.some.inj hf
    exact hr _ _ dX6_floor_17
  · have hf := iff_ h3 hf
    refine g_iload_n 0 dX6_floor_10 rfl rfl ?_
    refine g_iconst (v := (1 : Int32)) dX6_floor_11 (by decide) ?_
    refine g_isub dX6_floor_12 ?_
    refine g_goto (tgt := 17) dX6_floor_13 (by decide) ?_
    obtain rfl := Option.some.inj hf
    exact hr _ _ dX6_floor_17

-- ThumbScaleModel size (J)J
def rmX6_size : Room := { frames := 0, cells := 0, slots := 0, locals := 0 }
def kX6_size : MK := (cX6_size, 2, RX6, wsX6_size, (some .long), rmX6_size)

def f_X6_size (F : Nat) (a0 : Int64) : Option Int64 :=
    (if 0 ≤ (lg_cmp a0 (0 : Int64)) then
    some a0
    else
    some (-a0))

set_option maxHeartbeats 4000000 in
set_option maxRecDepth 100000 in
theorem c_X6_size {l : Launch} {D : va_G} {tys : List (ClassId × FieldType)} {X : XT} {cs : CS} {F : Nat} {a0 : Int64} {r : Int64} (htyM : tys = tyA cs) (hf : f_X6_size F a0 = some r) : Cl l D tys X yX6_size wsX6_size rmX6_size [.long a0] [] r [] := by
  refine Cl_ofG (by decide +kernel) rfl (Nat.le_of_ble_eq_true rfl) (fun E _ _ hty0 hX0 hr => ?_)
  have hty := hty0.trans htyM
  have hr : Rl E kX6_size r [] := hr
  show G E kX6_size 0 0 0 [(0, .long a0)] [] []
  unfold f_X6_size at hf
  refine g_lload_n 0 dX6_size_0 rfl rfl ?_
  refine g_lconst (v := (0 : Int64)) dX6_size_1 (by decide) ?_
  refine g_lcmp dX6_size_2 ?_
  refine g_if_ge (tgt := 11) dX6_size_3 (by decide) (fun h1 => ?_) (fun h1 => ?_)
  · have hf := ift h1 hf
    refine g_lload_n 0 dX6_size_11 rfl rfl ?_
    obtain rfl := Option.some.inj hf
    exact hr _ _ dX6_size_12
  · have hf := iff_ h1 hf
    refine g_lload_n 0 dX6_size_6 rfl rfl ?_
    refine g_lneg dX6_size_7 ?_
    refine g_goto (tgt := 12) dX6_size_8 (by decide) ?_
    obtain rfl := Option.some.inj hf
    exact hr _ _ dX6_size_12

-- ThumbScaleModel gcd (JJ)J
def rmX6_gcd : Room := { frames := 1, cells := 0, slots := 0, locals := 21 }
def kX6_gcd : MK := (cX6_gcd, 10, RX6, wsX6_gcd, (some .long), rmX6_gcd)

set_option maxRecDepth 20000 in
theorem vX6_gcd_68 : KS kX6_gcd 68 yX6_size wsX6_size rmX6_size 1 := ⟨_, _, _, _, gX6_gcd_X6_size, rfl, rfl, rfl, by decide +kernel, ⟨by decide, by decide⟩⟩
def f_X6_gcd_L9 (F : Nat) (a0 : Int64) (a2 : Int64) : Nat → Int64 → Int64 → Option Int64
  | 0, _, _ => none
  | n + 1, x3, x4 =>
    (if (lg_cmp x4 (0 : Int64)) = 0 then
    some x3
    else
    ochk (¬ x4 = 0) (
    f_X6_gcd_L9 F a0 a2 n x4 (x3 - x3 / x4 * x4)))

def f_X6_gcd (F : Nat) (a0 : Int64) (a2 : Int64) : Option Int64 :=
    obd (f_X6_size F a0) (fun v1 =>
    f_X6_gcd_L9 F a0 a2 F v1 a2)

set_option maxHeartbeats 4000000 in
set_option maxRecDepth 100000 in
theorem w_X6_gcd_L9 {E : GE} {cs : CS} {F : Nat} {a0 : Int64} {a2 : Int64} {r : Int64} (hty : eT E = tyA cs) (hr : Rl E kX6_gcd r []) : ∀ (n : Nat) (x3 : Int64) (x4 : Int64), f_X6_gcd_L9 F a0 a2 n x3 x4 = some r → G E kX6_gcd 0 0 9 [(4, .long x3), (6, .long x4)] [] [] := by
  intro n
  induction n with
  | zero =>
    intro x3 x4 hf
    cases (show (none : Option Int64) = some r from hf)
  | succ n ih =>
    intro x3 x4 hf
    rw [f_X6_gcd_L9] at hf
    refine g_lload 1 dX6_gcd_9 rfl ?_
    refine g_lconst (v := (0 : Int64)) dX6_gcd_11 (by decide) ?_
    refine g_lcmp dX6_gcd_12 ?_
    refine g_if_eq (tgt := 34) dX6_gcd_13 (by decide) (fun h5 => ?_) (fun h5 => ?_)
    · have hf := ift h5 hf
      refine g_lload 0 dX6_gcd_34 rfl ?_
      obtain rfl := Option.some.inj hf
      exact hr _ _ dX6_gcd_36
    · have hf := iff_ h5 hf
      refine g_lload 0 dX6_gcd_16 rfl ?_
      refine g_lload 1 dX6_gcd_18 rfl ?_
      obtain ⟨h6, hf⟩ := ochk_some hf
      refine g_lrem dX6_gcd_20 h6 ?_
      refine g_lstore (lv2 := [(8, .long (x3 - x3 / x4 * x4)), (4, .long x3), (6, .long x4)]) dX6_gcd_21 (by decide) rfl ?_
      refine g_lload 2 dX6_gcd_23 rfl ?_
      refine g_lstore (lv2 := [(4, .long x4), (8, .long (x3 - x3 / x4 * x4)), (6, .long x4)]) dX6_gcd_25 (by decide) rfl ?_
      refine g_lload 1 dX6_gcd_27 rfl ?_
      refine g_lstore (lv2 := [(6, .long (x3 - x3 / x4 * x4)), (4, .long x4), (8, .long (x3 - x3 / x4 * x4))]) dX6_gcd_29 (by decide) rfl ?_
      refine g_goto (tgt := 9) dX6_gcd_31 (by decide) ?_
      exact g_sub [1, 0] rfl (ih x4 (x3 - x3 / x4 * x4) hf)

set_option maxHeartbeats 4000000 in
set_option maxRecDepth 100000 in
theorem c_X6_gcd {l : Launch} {D : va_G} {tys : List (ClassId × FieldType)} {X : XT} {cs : CS} {F : Nat} {a0 : Int64} {a2 : Int64} {r : Int64} (htyM : tys = tyA cs) (hf : f_X6_gcd F a0 a2 = some r) : Cl l D tys X yX6_gcd wsX6_gcd rmX6_gcd [.long a0, .long a2] [] r [] := by
  refine Cl_ofG (by decide +kernel) rfl (Nat.le_of_ble_eq_true rfl) (fun E _ _ hty0 hX0 hr => ?_)
  have hty := hty0.trans htyM
  have hr : Rl E kX6_gcd r [] := hr
  show G E kX6_gcd 0 0 0 [(0, .long a0), (2, .long a2)] [] []
  unfold f_X6_gcd at hf
  refine g_lload_n 0 dX6_gcd_0 rfl rfl ?_
  obtain ⟨v1, hc2, hf⟩ := obd_some hf
  refine g_callSl (As := [.long a0]) (rest := []) (w2 := []) 0 dX6_gcd_1 vX6_gcd_68 (c_X6_size hty hc2) rfl rfl rfl (Nat.le_of_ble_eq_true rfl) ⟨Nat.zero_le _, Nat.zero_le _⟩ rfl ?_
  refine g_lstore (lv2 := [(4, .long v1), (0, .long a0), (2, .long a2)]) dX6_gcd_4 (by decide) rfl ?_
  refine g_lload_n 2 dX6_gcd_6 rfl rfl ?_
  refine g_lstore (lv2 := [(6, .long a2), (4, .long v1), (0, .long a0), (2, .long a2)]) dX6_gcd_7 (by decide) rfl ?_
  exact g_sub [1, 0] rfl (w_X6_gcd_L9 hty hr F v1 a2 hf)

-- ThumbScaleModel part (JJI)J
def rmX6_part : Room := { frames := 2, cells := 0, slots := 0, locals := 50 }
def kX6_part : MK := (cX6_part, 7, RX6, wsX6_part, (some .long), rmX6_part)

set_option maxRecDepth 20000 in
theorem vX6_part_72 : KS kX6_part 72 yX6_gcd wsX6_gcd rmX6_gcd 2 := ⟨_, _, _, _, gX6_part_X6_gcd, rfl, rfl, rfl, by decide +kernel, ⟨by decide, by decide⟩⟩
def f_X6_part (F : Nat) (a0 : Int64) (a2 : Int64) (a4 : Int32) : Option Int64 :=
    obd (f_X6_gcd F a0 a2) (fun v1 =>
    (if a4 = 0 then
    ochk (¬ v1 = 0) (
    some (a0 / v1))
    else
    ochk (¬ v1 = 0) (
    some (a2 / v1))))

set_option maxHeartbeats 4000000 in
set_option maxRecDepth 100000 in
theorem c_X6_part {l : Launch} {D : va_G} {tys : List (ClassId × FieldType)} {X : XT} {cs : CS} {F : Nat} {a0 : Int64} {a2 : Int64} {a4 : Int32} {r : Int64} (htyM : tys = tyA cs) (hf : f_X6_part F a0 a2 a4 = some r) : Cl l D tys X yX6_part wsX6_part rmX6_part [.long a0, .long a2, .int a4] [] r [] := by
  refine Cl_ofG (by decide +kernel) rfl (Nat.le_of_ble_eq_true rfl) (fun E _ _ hty0 hX0 hr => ?_)
  have hty := hty0.trans htyM
  have hr : Rl E kX6_part r [] := hr
  show G E kX6_part 0 0 0 [(0, .long a0), (2, .long a2), (4, .int a4)] [] []
  unfold f_X6_part at hf
  refine g_lload_n 0 dX6_part_0 rfl rfl ?_
  refine g_lload_n 1 dX6_part_1 rfl rfl ?_
  obtain ⟨v1, hc2, hf⟩ := obd_some hf
  refine g_callSl (As := [.long a0, .long a2]) (rest := []) (w2 := []) 0 dX6_part_2 vX6_part_72 (c_X6_gcd hty hc2) rfl rfl rfl (Nat.le_of_ble_eq_true rfl) ⟨Nat.zero_le _, Nat.zero_le _⟩ rfl ?_
  refine g_lstore (lv2 := [(5, .long v1), (0, .long a0), (2, .long a2), (4, .int a4)]) dX6_part_5 (by decide) rfl ?_
  refine g_iload 3 dX6_part_7 rfl ?_
  refine g_if_ne (tgt := 19) dX6_part_9 (by decide) (fun h3 => ?_) (fun h3 => ?_)
  · have hf := iff_ h3 hf
    refine g_lload_n 2 dX6_part_19 rfl rfl ?_
    refine g_lload 0 dX6_part_20 rfl ?_
    obtain ⟨h4, hf⟩ := ochk_some hf
    refine g_ldiv dX6_part_22 h4 ?_
    obtain rfl := Option.some.inj hf
    exact hr _ _ dX6_part_23
  · have hf := ift h3 hf
    refine g_lload_n 1 dX6_part_12 rfl rfl ?_
    refine g_lload 0 dX6_part_13 rfl ?_
    obtain ⟨h5, hf⟩ := ochk_some hf
    refine g_ldiv dX6_part_15 h5 ?_
    refine g_goto (tgt := 23) dX6_part_16 (by decide) ?_
    obtain rfl := Option.some.inj hf
    exact hr _ _ dX6_part_23

-- ThumbScaleModel power (JI)J
def rmX6_power : Room := { frames := 0, cells := 0, slots := 0, locals := 0 }
def kX6_power : MK := (cX6_power, 6, RX6, wsX6_power, (some .long), rmX6_power)

def f_X6_power_L5 (F : Nat) (a0 : Int64) (a2 : Int32) : Nat → Int64 → Int32 → Option Int64
  | 0, _, _ => none
  | n + 1, x1, x2 =>
    (if a2 ≤ x2 then
    some x1
    else
    f_X6_power_L5 F a0 a2 n (x1 * a0) (x2 + 1))

def f_X6_power (F : Nat) (a0 : Int64) (a2 : Int32) : Option Int64 :=
    f_X6_power_L5 F a0 a2 F (1 : Int64) (0 : Int32)

set_option maxHeartbeats 4000000 in
set_option maxRecDepth 100000 in
theorem w_X6_power_L5 {E : GE} {cs : CS} {F : Nat} {a0 : Int64} {a2 : Int32} {r : Int64} (hty : eT E = tyA cs) (hr : Rl E kX6_power r []) : ∀ (n : Nat) (x1 : Int64) (x2 : Int32), f_X6_power_L5 F a0 a2 n x1 x2 = some r → G E kX6_power 0 0 5 [(0, .long a0), (2, .int a2), (3, .long x1), (5, .int x2)] [] [] := by
  intro n
  induction n with
  | zero =>
    intro x1 x2 hf
    cases (show (none : Option Int64) = some r from hf)
  | succ n ih =>
    intro x1 x2 hf
    rw [f_X6_power_L5] at hf
    refine g_iload 3 dX6_power_5 rfl ?_
    refine g_iload_n 1 dX6_power_7 rfl rfl ?_
    refine g_icmp_ge (tgt := 21) dX6_power_8 (by decide) (fun h3 => ?_) (fun h3 => ?_)
    · have hf := ift h3 hf
      refine g_lload_n 2 dX6_power_21 rfl rfl ?_
      obtain rfl := Option.some.inj hf
      exact hr _ _ dX6_power_22
    · have hf := iff_ h3 hf
      refine g_lload_n 2 dX6_power_11 rfl rfl ?_
      refine g_lload_n 0 dX6_power_12 rfl rfl ?_
      refine g_lmul dX6_power_13 ?_
      refine g_lstore_n (lv2 := [(3, .long (x1 * a0)), (0, .long a0), (2, .int a2), (5, .int x2)]) dX6_power_14 rfl (by decide) rfl ?_
      refine g_iinc (lv2 := [(5, .int (x2 + 1)), (3, .long (x1 * a0)), (0, .long a0), (2, .int a2)]) 3 dX6_power_15 rfl (ii1 _) (by decide) rfl ?_
      refine g_goto (tgt := 5) dX6_power_18 (by decide) ?_
      exact g_sub [2, 3, 1, 0] rfl (ih (x1 * a0) (x2 + 1) hf)

set_option maxHeartbeats 4000000 in
set_option maxRecDepth 100000 in
theorem c_X6_power {l : Launch} {D : va_G} {tys : List (ClassId × FieldType)} {X : XT} {cs : CS} {F : Nat} {a0 : Int64} {a2 : Int32} {r : Int64} (htyM : tys = tyA cs) (hf : f_X6_power F a0 a2 = some r) : Cl l D tys X yX6_power wsX6_power rmX6_power [.long a0, .int a2] [] r [] := by
  refine Cl_ofG (by decide +kernel) rfl (Nat.le_of_ble_eq_true rfl) (fun E _ _ hty0 hX0 hr => ?_)
  have hty := hty0.trans htyM
  have hr : Rl E kX6_power r [] := hr
  show G E kX6_power 0 0 0 [(0, .long a0), (2, .int a2)] [] []
  unfold f_X6_power at hf
  refine g_lconst (v := (1 : Int64)) dX6_power_0 (by decide) ?_
  refine g_lstore_n (lv2 := [(3, .long (1 : Int64)), (0, .long a0), (2, .int a2)]) dX6_power_1 rfl (by decide) rfl ?_
  refine g_iconst (v := (0 : Int32)) dX6_power_2 (by decide) ?_
  refine g_istore (lv2 := [(5, .int (0 : Int32)), (3, .long (1 : Int64)), (0, .long a0), (2, .int a2)]) dX6_power_3 (by decide) rfl ?_
  exact g_sub [2, 3, 1, 0] rfl (w_X6_power_L5 hty hr F (1 : Int64) (0 : Int32) hf)

-- ThumbScaleModel add (JI)J
def rmX6_add : Room := { frames := 0, cells := 0, slots := 0, locals := 0 }
def kX6_add : MK := (cX6_add, 3, RX6, wsX6_add, (some .long), rmX6_add)

set_option maxRecDepth 20000 in
theorem qX6_add_81 : Cond.constantLong RX6 81 (256 : Int64) ∈ wsX6_add := by decide +kernel
def f_X6_add (F : Nat) (a0 : Int64) (a2 : Int32) : Option Int64 :=
    (if a2 = 0 then
    some a0
    else
    some (((256 : Int64) * a0) + (Int32.toInt64 a2)))

set_option maxHeartbeats 4000000 in
set_option maxRecDepth 100000 in
theorem c_X6_add {l : Launch} {D : va_G} {tys : List (ClassId × FieldType)} {X : XT} {cs : CS} {F : Nat} {a0 : Int64} {a2 : Int32} {r : Int64} (htyM : tys = tyA cs) (hf : f_X6_add F a0 a2 = some r) : Cl l D tys X yX6_add wsX6_add rmX6_add [.long a0, .int a2] [] r [] := by
  refine Cl_ofG (by decide +kernel) rfl (Nat.le_of_ble_eq_true rfl) (fun E _ _ hty0 hX0 hr => ?_)
  have hty := hty0.trans htyM
  have hr : Rl E kX6_add r [] := hr
  show G E kX6_add 0 0 0 [(0, .long a0), (2, .int a2)] [] []
  unfold f_X6_add at hf
  refine g_iload_n 1 dX6_add_0 rfl rfl ?_
  refine g_if_ne (tgt := 8) dX6_add_1 (by decide) (fun h1 => ?_) (fun h1 => ?_)
  · have hf := iff_ h1 hf
    refine g_ldc2 (v := (256 : Int64)) dX6_add_8 qX6_add_81 ?_
    refine g_lload_n 0 dX6_add_11 rfl rfl ?_
    refine g_lmul dX6_add_12 ?_
    refine g_iload_n 1 dX6_add_13 rfl rfl ?_
    refine g_i2l dX6_add_14 ?_
    refine g_ladd dX6_add_15 ?_
    obtain rfl := Option.some.inj hf
    exact hr _ _ dX6_add_16
  · have hf := ift h1 hf
    refine g_lload_n 0 dX6_add_4 rfl rfl ?_
    refine g_goto (tgt := 16) dX6_add_5 (by decide) ?_
    obtain rfl := Option.some.inj hf
    exact hr _ _ dX6_add_16

-- ThumbScaleModel word (IIIIII)J
def rmX6_word : Room := { frames := 1, cells := 0, slots := 0, locals := 22 }
def kX6_word : MK := (cX6_word, 6, RX6, wsX6_word, (some .long), rmX6_word)

set_option maxRecDepth 20000 in
theorem vX6_word_83 : KS kX6_word 83 yX6_add wsX6_add rmX6_add 2 := ⟨_, _, _, _, gX6_word_X6_add, rfl, rfl, rfl, by decide +kernel, ⟨by decide, by decide⟩⟩
def f_X6_word (F : Nat) (a0 : Int32) (a1 : Int32) (a2 : Int32) (a3 : Int32) (a4 : Int32) (a5 : Int32) : Option Int64 :=
    obd (f_X6_add F (0 : Int64) a0) (fun v1 =>
    obd (f_X6_add F v1 a1) (fun v3 =>
    obd (f_X6_add F v3 a2) (fun v5 =>
    obd (f_X6_add F v5 a3) (fun v7 =>
    obd (f_X6_add F v7 a4) (fun v9 =>
    obd (f_X6_add F v9 a5) (fun v11 =>
    some v11))))))

set_option maxHeartbeats 4000000 in
set_option maxRecDepth 100000 in
theorem c_X6_word {l : Launch} {D : va_G} {tys : List (ClassId × FieldType)} {X : XT} {cs : CS} {F : Nat} {a0 : Int32} {a1 : Int32} {a2 : Int32} {a3 : Int32} {a4 : Int32} {a5 : Int32} {r : Int64} (htyM : tys = tyA cs) (hf : f_X6_word F a0 a1 a2 a3 a4 a5 = some r) : Cl l D tys X yX6_word wsX6_word rmX6_word [.int a0, .int a1, .int a2, .int a3, .int a4, .int a5] [] r [] := by
  refine Cl_ofG (by decide +kernel) rfl (Nat.le_of_ble_eq_true rfl) (fun E _ _ hty0 hX0 hr => ?_)
  have hty := hty0.trans htyM
  have hr : Rl E kX6_word r [] := hr
  show G E kX6_word 0 0 0 [(0, .int a0), (1, .int a1), (2, .int a2), (3, .int a3), (4, .int a4), (5, .int a5)] [] []
  unfold f_X6_word at hf
  refine g_lconst (v := (0 : Int64)) dX6_word_0 (by decide) ?_
  refine g_iload_n 0 dX6_word_1 rfl rfl ?_
  obtain ⟨v1, hc2, hf⟩ := obd_some hf
  refine g_callSl (As := [.long (0 : Int64), .int a0]) (rest := []) (w2 := []) 0 dX6_word_2 vX6_word_83 (c_X6_add hty hc2) rfl rfl rfl (Nat.le_of_ble_eq_true rfl) ⟨Nat.zero_le _, Nat.zero_le _⟩ rfl ?_
  refine g_iload_n 1 dX6_word_5 rfl rfl ?_
  obtain ⟨v3, hc4, hf⟩ := obd_some hf
  refine g_callSl (As := [.long v1, .int a1]) (rest := []) (w2 := []) 0 dX6_word_6 vX6_word_83 (c_X6_add hty hc4) rfl rfl rfl (Nat.le_of_ble_eq_true rfl) ⟨Nat.zero_le _, Nat.zero_le _⟩ rfl ?_
  refine g_iload_n 2 dX6_word_9 rfl rfl ?_
  obtain ⟨v5, hc6, hf⟩ := obd_some hf
  refine g_callSl (As := [.long v3, .int a2]) (rest := []) (w2 := []) 0 dX6_word_10 vX6_word_83 (c_X6_add hty hc6) rfl rfl rfl (Nat.le_of_ble_eq_true rfl) ⟨Nat.zero_le _, Nat.zero_le _⟩ rfl ?_
  refine g_iload_n 3 dX6_word_13 rfl rfl ?_
  obtain ⟨v7, hc8, hf⟩ := obd_some hf
  refine g_callSl (As := [.long v5, .int a3]) (rest := []) (w2 := []) 0 dX6_word_14 vX6_word_83 (c_X6_add hty hc8) rfl rfl rfl (Nat.le_of_ble_eq_true rfl) ⟨Nat.zero_le _, Nat.zero_le _⟩ rfl ?_
  refine g_iload 4 dX6_word_17 rfl ?_
  obtain ⟨v9, hc10, hf⟩ := obd_some hf
  refine g_callSl (As := [.long v7, .int a4]) (rest := []) (w2 := []) 0 dX6_word_19 vX6_word_83 (c_X6_add hty hc10) rfl rfl rfl (Nat.le_of_ble_eq_true rfl) ⟨Nat.zero_le _, Nat.zero_le _⟩ rfl ?_
  refine g_iload 5 dX6_word_22 rfl ?_
  obtain ⟨v11, hc12, hf⟩ := obd_some hf
  refine g_callSl (As := [.long v9, .int a5]) (rest := []) (w2 := []) 0 dX6_word_24 vX6_word_83 (c_X6_add hty hc12) rfl rfl rfl (Nat.le_of_ble_eq_true rfl) ⟨Nat.zero_le _, Nat.zero_le _⟩ rfl ?_
  obtain rfl := Option.some.inj hf
  exact hr _ _ dX6_word_27

-- ThumbScaleModel wordOf (JI)I
def rmX6_wordOf : Room := { frames := 2, cells := 0, slots := 0, locals := 47 }
def kX6_wordOf : MK := (cX6_wordOf, 6, RX6, wsX6_wordOf, (some .int), rmX6_wordOf)

set_option maxRecDepth 20000 in
theorem vX6_wordOf_87 : KS kX6_wordOf 87 yX6_word wsX6_word rmX6_word 6 := ⟨_, _, _, _, gX6_wordOf_X6_word, rfl, rfl, rfl, by decide +kernel, ⟨by decide, by decide⟩⟩
set_option maxRecDepth 20000 in
theorem qX6_wordOf_81 : Cond.constantLong RX6 81 (256 : Int64) ∈ wsX6_wordOf := by decide +kernel
set_option maxRecDepth 20000 in
theorem qX6_wordOf_91 : Cond.constantLong RX6 91 (101 : Int64) ∈ wsX6_wordOf := by decide +kernel
set_option maxRecDepth 20000 in
theorem qX6_wordOf_93 : Cond.constantLong RX6 93 (114 : Int64) ∈ wsX6_wordOf := by decide +kernel
def f_X6_wordOf (F : Nat) (a0 : Int64) (a2 : Int32) : Option Int32 :=
    (if a2 = (8 : Int32) then
    obd (f_X6_word F (115 : Int32) (116 : Int32) (114 : Int32) (97 : Int32) (110 : Int32) (103 : Int32)) (fun v74 =>
    (if (lg_cmp a0 (((256 : Int64) * (((256 : Int64) * v74) + (101 : Int64))) + (114 : Int64))) = 0 then
    some (12 : Int32)
    else
    some (-9 : Int32)))
    else
    obd (f_X6_word F (108 : Int32) (117 : Int32) (99 : Int32) (107 : Int32) (0 : Int32) (0 : Int32)) (fun v2 =>
    obd ((if (lg_cmp a0 v2) = 0 then
    some (0 : Int32)
    else
    obd (f_X6_word F (115 : Int32) (116 : Int32) (97 : Int32) (108 : Int32) (108 : Int32) (0 : Int32)) (fun v19 =>
    (if (lg_cmp a0 v19) = 0 then
    some (1 : Int32)
    else
    obd (f_X6_word F (119 : Int32) (97 : Int32) (121 : Int32) (0 : Int32) (0 : Int32) (0 : Int32)) (fun v22 =>
    (if (lg_cmp a0 v22) = 0 then
    some (2 : Int32)
    else
    obd (f_X6_word F (104 : Int32) (111 : Int32) (110 : Int32) (101 : Int32) (115 : Int32) (116 : Int32)) (fun v25 =>
    (if (lg_cmp a0 v25) = 0 then
    some (3 : Int32)
    else
    obd (f_X6_word F (115 : Int32) (99 : Int32) (97 : Int32) (108 : Int32) (101 : Int32) (0 : Int32)) (fun v28 =>
    (if (lg_cmp a0 v28) = 0 then
    some (4 : Int32)
    else
    some (-9 : Int32))))))))))) (fun v17 =>
    obd (f_X6_word F (116 : Int32) (104 : Int32) (117 : Int32) (109 : Int32) (98 : Int32) (0 : Int32)) (fun v31 =>
    obd ((if (lg_cmp a0 v31) = 0 then
    some (5 : Int32)
    else
    obd (f_X6_word F (114 : Int32) (111 : Int32) (117 : Int32) (110 : Int32) (100 : Int32) (0 : Int32)) (fun v45 =>
    (if (lg_cmp a0 v45) = 0 then
    some (6 : Int32)
    else
    obd (f_X6_word F (105 : Int32) (110 : Int32) (0 : Int32) (0 : Int32) (0 : Int32) (0 : Int32)) (fun v48 =>
    (if (lg_cmp a0 v48) = 0 then
    some (7 : Int32)
    else
    obd (f_X6_word F (116 : Int32) (111 : Int32) (0 : Int32) (0 : Int32) (0 : Int32) (0 : Int32)) (fun v51 =>
    (if (lg_cmp a0 v51) = 0 then
    some (8 : Int32)
    else
    some (-9 : Int32))))))))) (fun v43 =>
    obd (f_X6_word F (111 : Int32) (108 : Int32) (100 : Int32) (0 : Int32) (0 : Int32) (0 : Int32)) (fun v54 =>
    obd ((if (lg_cmp a0 v54) = 0 then
    some (9 : Int32)
    else
    obd (f_X6_word F (121 : Int32) (111 : Int32) (117 : Int32) (110 : Int32) (103 : Int32) (0 : Int32)) (fun v65 =>
    (if (lg_cmp a0 v65) = 0 then
    some (10 : Int32)
    else
    obd (f_X6_word F (102 : Int32) (114 : Int32) (105 : Int32) (101 : Int32) (110 : Int32) (100 : Int32)) (fun v68 =>
    (if (lg_cmp a0 v68) = 0 then
    some (11 : Int32)
    else
    some (-9 : Int32))))))) (fun v63 =>
    (if a2 ≤ (6 : Int32) then
    (if v17 = (-9 : Int32) then
    (if v43 = (-9 : Int32) then
    some v63
    else
    some v43)
    else
    some v17)
    else
    some (-9 : Int32)))))))))

set_option maxHeartbeats 4000000 in
set_option maxRecDepth 100000 in
theorem c_X6_wordOf {l : Launch} {D : va_G} {tys : List (ClassId × FieldType)} {X : XT} {cs : CS} {F : Nat} {a0 : Int64} {a2 : Int32} {r : Int32} (htyM : tys = tyA cs) (hf : f_X6_wordOf F a0 a2 = some r) : Ci l D tys X yX6_wordOf wsX6_wordOf rmX6_wordOf [.long a0, .int a2] [] r [] := by
  refine Ci_ofG (by decide +kernel) rfl (Nat.le_of_ble_eq_true rfl) .int rfl (vp_nar_int _) (fun E _ _ hty0 hX0 hr => ?_)
  have hty := hty0.trans htyM
  have hr : Ri E kX6_wordOf r [] := hr
  show G E kX6_wordOf 0 0 0 [(0, .long a0), (2, .int a2)] [] []
  unfold f_X6_wordOf at hf
  refine g_iload_n 1 dX6_wordOf_0 rfl rfl ?_
  refine g_bipush (v := (8 : Int32)) dX6_wordOf_1 (by decide) ?_
  refine g_icmp_ne (tgt := 50) dX6_wordOf_3 (by decide) (fun h1 => ?_) (fun h1 => ?_)
  · have hf := iff_ h1 hf
    refine g_lload_n 0 dX6_wordOf_50 rfl rfl ?_
    refine g_bipush (v := (108 : Int32)) dX6_wordOf_51 (by decide) ?_
    refine g_bipush (v := (117 : Int32)) dX6_wordOf_53 (by decide) ?_
    refine g_bipush (v := (99 : Int32)) dX6_wordOf_55 (by decide) ?_
    refine g_bipush (v := (107 : Int32)) dX6_wordOf_57 (by decide) ?_
    refine g_iconst (v := (0 : Int32)) dX6_wordOf_59 (by decide) ?_
    refine g_iconst (v := (0 : Int32)) dX6_wordOf_60 (by decide) ?_
    obtain ⟨v2, hc3, hf⟩ := obd_some hf
    refine g_callSl (As := [.int (108 : Int32), .int (117 : Int32), .int (99 : Int32), .int (107 : Int32), .int (0 : Int32), .int (0 : Int32)]) (rest := [.long a0]) (w2 := []) 0 dX6_wordOf_61 vX6_wordOf_87 (c_X6_word hty hc3) rfl rfl rfl (Nat.le_of_ble_eq_true rfl) ⟨Nat.zero_le _, Nat.zero_le _⟩ rfl ?_
    refine g_lcmp dX6_wordOf_64 ?_
    obtain ⟨v17, hE_v17, hf⟩ := obd_some hf
    have J_v17 : G E kX6_wordOf 0 0 165 [(0, .long a0), (2, .int a2)] [.int v17] [] := by
      refine g_istore_n (lv2 := [(3, .int v17), (0, .long a0), (2, .int a2)]) dX6_wordOf_165 rfl (by decide) rfl ?_
      refine g_lload_n 1 dX6_wordOf_166 rfl rfl ?_
      refine g_bipush (v := (116 : Int32)) dX6_wordOf_167 (by decide) ?_
      refine g_bipush (v := (104 : Int32)) dX6_wordOf_169 (by decide) ?_
      refine g_bipush (v := (117 : Int32)) dX6_wordOf_171 (by decide) ?_
      refine g_bipush (v := (109 : Int32)) dX6_wordOf_173 (by decide) ?_
      refine g_bipush (v := (98 : Int32)) dX6_wordOf_175 (by decide) ?_
      refine g_iconst (v := (0 : Int32)) dX6_wordOf_177 (by decide) ?_
      obtain ⟨v31, hc32, hf⟩ := obd_some hf
      refine g_callSl (As := [.int (116 : Int32), .int (104 : Int32), .int (117 : Int32), .int (109 : Int32), .int (98 : Int32), .int (0 : Int32)]) (rest := [.long a0]) (w2 := []) 0 dX6_wordOf_178 vX6_wordOf_87 (c_X6_word hty hc32) rfl rfl rfl (Nat.le_of_ble_eq_true rfl) ⟨Nat.zero_le _, Nat.zero_le _⟩ rfl ?_
      refine g_lcmp dX6_wordOf_181 ?_
      obtain ⟨v43, hE_v43, hf⟩ := obd_some hf
      have J_v43 : G E kX6_wordOf 0 0 257 [(0, .long a0), (2, .int a2), (3, .int v17)] [.int v43] [] := by
        refine g_istore (lv2 := [(4, .int v43), (0, .long a0), (2, .int a2), (3, .int v17)]) dX6_wordOf_257 (by decide) rfl ?_
        refine g_lload_n 1 dX6_wordOf_259 rfl rfl ?_
        refine g_bipush (v := (111 : Int32)) dX6_wordOf_260 (by decide) ?_
        refine g_bipush (v := (108 : Int32)) dX6_wordOf_262 (by decide) ?_
        refine g_bipush (v := (100 : Int32)) dX6_wordOf_264 (by decide) ?_
        refine g_iconst (v := (0 : Int32)) dX6_wordOf_266 (by decide) ?_
        refine g_iconst (v := (0 : Int32)) dX6_wordOf_267 (by decide) ?_
        refine g_iconst (v := (0 : Int32)) dX6_wordOf_268 (by decide) ?_
        obtain ⟨v54, hc55, hf⟩ := obd_some hf
        refine g_callSl (As := [.int (111 : Int32), .int (108 : Int32), .int (100 : Int32), .int (0 : Int32), .int (0 : Int32), .int (0 : Int32)]) (rest := [.long a0]) (w2 := []) 0 dX6_wordOf_269 vX6_wordOf_87 (c_X6_word hty hc55) rfl rfl rfl (Nat.le_of_ble_eq_true rfl) ⟨Nat.zero_le _, Nat.zero_le _⟩ rfl ?_
        refine g_lcmp dX6_wordOf_272 ?_
        obtain ⟨v63, hE_v63, hf⟩ := obd_some hf
        have J_v63 : G E kX6_wordOf 0 0 332 [(0, .long a0), (2, .int a2), (3, .int v17), (4, .int v43)] [.int v63] [] := by
          refine g_istore (lv2 := [(5, .int v63), (0, .long a0), (2, .int a2), (3, .int v17), (4, .int v43)]) dX6_wordOf_332 (by decide) rfl ?_
          refine g_iload_n 2 dX6_wordOf_334 rfl rfl ?_
          refine g_bipush (v := (6 : Int32)) dX6_wordOf_335 (by decide) ?_
          refine g_icmp_le (tgt := 345) dX6_wordOf_337 (by decide) (fun h71 => ?_) (fun h71 => ?_)
          · have hf := ift h71 hf
            refine g_iload_n 3 dX6_wordOf_345 rfl rfl ?_
            refine g_bipush (v := (-9 : Int32)) dX6_wordOf_346 (by decide) ?_
            refine g_icmp_eq (tgt := 355) dX6_wordOf_348 (by decide) (fun h72 => ?_) (fun h72 => ?_)
            · have hf := ift h72 hf
              refine g_iload 4 dX6_wordOf_355 rfl ?_
              refine g_bipush (v := (-9 : Int32)) dX6_wordOf_357 (by decide) ?_
              refine g_icmp_eq (tgt := 367) dX6_wordOf_359 (by decide) (fun h73 => ?_) (fun h73 => ?_)
              · have hf := ift h73 hf
                refine g_iload 0 dX6_wordOf_367 rfl ?_
                obtain rfl := Option.some.inj hf
                exact hr _ _ dX6_wordOf_369
              · have hf := iff_ h73 hf
                refine g_iload 4 dX6_wordOf_362 rfl ?_
                refine g_goto (tgt := 369) dX6_wordOf_364 (by decide) ?_
                obtain rfl := Option.some.inj hf
                exact hr _ _ dX6_wordOf_369
            · have hf := iff_ h72 hf
              refine g_iload_n 3 dX6_wordOf_351 rfl rfl ?_
              refine g_goto (tgt := 369) dX6_wordOf_352 (by decide) ?_
              obtain rfl := Option.some.inj hf
              exact hr _ _ dX6_wordOf_369
          · have hf := iff_ h71 hf
            refine g_bipush (v := (-9 : Int32)) dX6_wordOf_340 (by decide) ?_
            refine g_goto (tgt := 369) dX6_wordOf_342 (by decide) ?_
            obtain rfl := Option.some.inj hf
            exact hr _ _ dX6_wordOf_369
        have hf := hE_v63
        refine g_if_ne (tgt := 281) dX6_wordOf_273 (by decide) (fun h64 => ?_) (fun h64 => ?_)
        · have hf := iff_ h64 hf
          refine g_lload_n 1 dX6_wordOf_281 rfl rfl ?_
          refine g_bipush (v := (121 : Int32)) dX6_wordOf_282 (by decide) ?_
          refine g_bipush (v := (111 : Int32)) dX6_wordOf_284 (by decide) ?_
          refine g_bipush (v := (117 : Int32)) dX6_wordOf_286 (by decide) ?_
          refine g_bipush (v := (110 : Int32)) dX6_wordOf_288 (by decide) ?_
          refine g_bipush (v := (103 : Int32)) dX6_wordOf_290 (by decide) ?_
          refine g_iconst (v := (0 : Int32)) dX6_wordOf_292 (by decide) ?_
          obtain ⟨v65, hc66, hf⟩ := obd_some hf
          refine g_callSl (As := [.int (121 : Int32), .int (111 : Int32), .int (117 : Int32), .int (110 : Int32), .int (103 : Int32), .int (0 : Int32)]) (rest := [.long a0]) (w2 := []) 0 dX6_wordOf_293 vX6_wordOf_87 (c_X6_word hty hc66) rfl rfl rfl (Nat.le_of_ble_eq_true rfl) ⟨Nat.zero_le _, Nat.zero_le _⟩ rfl ?_
          refine g_lcmp dX6_wordOf_296 ?_
          refine g_if_ne (tgt := 305) dX6_wordOf_297 (by decide) (fun h67 => ?_) (fun h67 => ?_)
          · have hf := iff_ h67 hf
            refine g_lload_n 1 dX6_wordOf_305 rfl rfl ?_
            refine g_bipush (v := (102 : Int32)) dX6_wordOf_306 (by decide) ?_
            refine g_bipush (v := (114 : Int32)) dX6_wordOf_308 (by decide) ?_
            refine g_bipush (v := (105 : Int32)) dX6_wordOf_310 (by decide) ?_
            refine g_bipush (v := (101 : Int32)) dX6_wordOf_312 (by decide) ?_
            refine g_bipush (v := (110 : Int32)) dX6_wordOf_314 (by decide) ?_
            refine g_bipush (v := (100 : Int32)) dX6_wordOf_316 (by decide) ?_
            obtain ⟨v68, hc69, hf⟩ := obd_some hf
            refine g_callSl (As := [.int (102 : Int32), .int (114 : Int32), .int (105 : Int32), .int (101 : Int32), .int (110 : Int32), .int (100 : Int32)]) (rest := [.long a0]) (w2 := []) 0 dX6_wordOf_318 vX6_wordOf_87 (c_X6_word hty hc69) rfl rfl rfl (Nat.le_of_ble_eq_true rfl) ⟨Nat.zero_le _, Nat.zero_le _⟩ rfl ?_
            refine g_lcmp dX6_wordOf_321 ?_
            refine g_if_ne (tgt := 330) dX6_wordOf_322 (by decide) (fun h70 => ?_) (fun h70 => ?_)
            · have hf := iff_ h70 hf
              refine g_bipush (v := (-9 : Int32)) dX6_wordOf_330 (by decide) ?_
              obtain rfl := Option.some.inj hf
              exact g_sub [1, 2, 3, 0] rfl J_v63
            · have hf := ift h70 hf
              refine g_bipush (v := (11 : Int32)) dX6_wordOf_325 (by decide) ?_
              refine g_goto (tgt := 332) dX6_wordOf_327 (by decide) ?_
              obtain rfl := Option.some.inj hf
              exact g_sub [1, 2, 3, 0] rfl J_v63
          · have hf := ift h67 hf
            refine g_bipush (v := (10 : Int32)) dX6_wordOf_300 (by decide) ?_
            refine g_goto (tgt := 332) dX6_wordOf_302 (by decide) ?_
            obtain rfl := Option.some.inj hf
            exact g_sub [1, 2, 3, 0] rfl J_v63
        · have hf := ift h64 hf
          refine g_bipush (v := (9 : Int32)) dX6_wordOf_276 (by decide) ?_
          refine g_goto (tgt := 332) dX6_wordOf_278 (by decide) ?_
          obtain rfl := Option.some.inj hf
          exact g_sub [1, 2, 3, 0] rfl J_v63
      have hf := hE_v43
      refine g_if_ne (tgt := 189) dX6_wordOf_182 (by decide) (fun h44 => ?_) (fun h44 => ?_)
      · have hf := iff_ h44 hf
        refine g_lload_n 1 dX6_wordOf_189 rfl rfl ?_
        refine g_bipush (v := (114 : Int32)) dX6_wordOf_190 (by decide) ?_
        refine g_bipush (v := (111 : Int32)) dX6_wordOf_192 (by decide) ?_
        refine g_bipush (v := (117 : Int32)) dX6_wordOf_194 (by decide) ?_
        refine g_bipush (v := (110 : Int32)) dX6_wordOf_196 (by decide) ?_
        refine g_bipush (v := (100 : Int32)) dX6_wordOf_198 (by decide) ?_
        refine g_iconst (v := (0 : Int32)) dX6_wordOf_200 (by decide) ?_
        obtain ⟨v45, hc46, hf⟩ := obd_some hf
        refine g_callSl (As := [.int (114 : Int32), .int (111 : Int32), .int (117 : Int32), .int (110 : Int32), .int (100 : Int32), .int (0 : Int32)]) (rest := [.long a0]) (w2 := []) 0 dX6_wordOf_201 vX6_wordOf_87 (c_X6_word hty hc46) rfl rfl rfl (Nat.le_of_ble_eq_true rfl) ⟨Nat.zero_le _, Nat.zero_le _⟩ rfl ?_
        refine g_lcmp dX6_wordOf_204 ?_
        refine g_if_ne (tgt := 213) dX6_wordOf_205 (by decide) (fun h47 => ?_) (fun h47 => ?_)
        · have hf := iff_ h47 hf
          refine g_lload_n 1 dX6_wordOf_213 rfl rfl ?_
          refine g_bipush (v := (105 : Int32)) dX6_wordOf_214 (by decide) ?_
          refine g_bipush (v := (110 : Int32)) dX6_wordOf_216 (by decide) ?_
          refine g_iconst (v := (0 : Int32)) dX6_wordOf_218 (by decide) ?_
          refine g_iconst (v := (0 : Int32)) dX6_wordOf_219 (by decide) ?_
          refine g_iconst (v := (0 : Int32)) dX6_wordOf_220 (by decide) ?_
          refine g_iconst (v := (0 : Int32)) dX6_wordOf_221 (by decide) ?_
          obtain ⟨v48, hc49, hf⟩ := obd_some hf
          refine g_callSl (As := [.int (105 : Int32), .int (110 : Int32), .int (0 : Int32), .int (0 : Int32), .int (0 : Int32), .int (0 : Int32)]) (rest := [.long a0]) (w2 := []) 0 dX6_wordOf_222 vX6_wordOf_87 (c_X6_word hty hc49) rfl rfl rfl (Nat.le_of_ble_eq_true rfl) ⟨Nat.zero_le _, Nat.zero_le _⟩ rfl ?_
          refine g_lcmp dX6_wordOf_225 ?_
          refine g_if_ne (tgt := 234) dX6_wordOf_226 (by decide) (fun h50 => ?_) (fun h50 => ?_)
          · have hf := iff_ h50 hf
            refine g_lload_n 1 dX6_wordOf_234 rfl rfl ?_
            refine g_bipush (v := (116 : Int32)) dX6_wordOf_235 (by decide) ?_
            refine g_bipush (v := (111 : Int32)) dX6_wordOf_237 (by decide) ?_
            refine g_iconst (v := (0 : Int32)) dX6_wordOf_239 (by decide) ?_
            refine g_iconst (v := (0 : Int32)) dX6_wordOf_240 (by decide) ?_
            refine g_iconst (v := (0 : Int32)) dX6_wordOf_241 (by decide) ?_
            refine g_iconst (v := (0 : Int32)) dX6_wordOf_242 (by decide) ?_
            obtain ⟨v51, hc52, hf⟩ := obd_some hf
            refine g_callSl (As := [.int (116 : Int32), .int (111 : Int32), .int (0 : Int32), .int (0 : Int32), .int (0 : Int32), .int (0 : Int32)]) (rest := [.long a0]) (w2 := []) 0 dX6_wordOf_243 vX6_wordOf_87 (c_X6_word hty hc52) rfl rfl rfl (Nat.le_of_ble_eq_true rfl) ⟨Nat.zero_le _, Nat.zero_le _⟩ rfl ?_
            refine g_lcmp dX6_wordOf_246 ?_
            refine g_if_ne (tgt := 255) dX6_wordOf_247 (by decide) (fun h53 => ?_) (fun h53 => ?_)
            · have hf := iff_ h53 hf
              refine g_bipush (v := (-9 : Int32)) dX6_wordOf_255 (by decide) ?_
              obtain rfl := Option.some.inj hf
              exact g_sub [1, 2, 0] rfl J_v43
            · have hf := ift h53 hf
              refine g_bipush (v := (8 : Int32)) dX6_wordOf_250 (by decide) ?_
              refine g_goto (tgt := 257) dX6_wordOf_252 (by decide) ?_
              obtain rfl := Option.some.inj hf
              exact g_sub [1, 2, 0] rfl J_v43
          · have hf := ift h50 hf
            refine g_bipush (v := (7 : Int32)) dX6_wordOf_229 (by decide) ?_
            refine g_goto (tgt := 257) dX6_wordOf_231 (by decide) ?_
            obtain rfl := Option.some.inj hf
            exact g_sub [1, 2, 0] rfl J_v43
        · have hf := ift h47 hf
          refine g_bipush (v := (6 : Int32)) dX6_wordOf_208 (by decide) ?_
          refine g_goto (tgt := 257) dX6_wordOf_210 (by decide) ?_
          obtain rfl := Option.some.inj hf
          exact g_sub [1, 2, 0] rfl J_v43
      · have hf := ift h44 hf
        refine g_iconst (v := (5 : Int32)) dX6_wordOf_185 (by decide) ?_
        refine g_goto (tgt := 257) dX6_wordOf_186 (by decide) ?_
        obtain rfl := Option.some.inj hf
        exact g_sub [1, 2, 0] rfl J_v43
    have hf := hE_v17
    refine g_if_ne (tgt := 72) dX6_wordOf_65 (by decide) (fun h18 => ?_) (fun h18 => ?_)
    · have hf := iff_ h18 hf
      refine g_lload_n 0 dX6_wordOf_72 rfl rfl ?_
      refine g_bipush (v := (115 : Int32)) dX6_wordOf_73 (by decide) ?_
      refine g_bipush (v := (116 : Int32)) dX6_wordOf_75 (by decide) ?_
      refine g_bipush (v := (97 : Int32)) dX6_wordOf_77 (by decide) ?_
      refine g_bipush (v := (108 : Int32)) dX6_wordOf_79 (by decide) ?_
      refine g_bipush (v := (108 : Int32)) dX6_wordOf_81 (by decide) ?_
      refine g_iconst (v := (0 : Int32)) dX6_wordOf_83 (by decide) ?_
      obtain ⟨v19, hc20, hf⟩ := obd_some hf
      refine g_callSl (As := [.int (115 : Int32), .int (116 : Int32), .int (97 : Int32), .int (108 : Int32), .int (108 : Int32), .int (0 : Int32)]) (rest := [.long a0]) (w2 := []) 0 dX6_wordOf_84 vX6_wordOf_87 (c_X6_word hty hc20) rfl rfl rfl (Nat.le_of_ble_eq_true rfl) ⟨Nat.zero_le _, Nat.zero_le _⟩ rfl ?_
      refine g_lcmp dX6_wordOf_87 ?_
      refine g_if_ne (tgt := 95) dX6_wordOf_88 (by decide) (fun h21 => ?_) (fun h21 => ?_)
      · have hf := iff_ h21 hf
        refine g_lload_n 0 dX6_wordOf_95 rfl rfl ?_
        refine g_bipush (v := (119 : Int32)) dX6_wordOf_96 (by decide) ?_
        refine g_bipush (v := (97 : Int32)) dX6_wordOf_98 (by decide) ?_
        refine g_bipush (v := (121 : Int32)) dX6_wordOf_100 (by decide) ?_
        refine g_iconst (v := (0 : Int32)) dX6_wordOf_102 (by decide) ?_
        refine g_iconst (v := (0 : Int32)) dX6_wordOf_103 (by decide) ?_
        refine g_iconst (v := (0 : Int32)) dX6_wordOf_104 (by decide) ?_
        obtain ⟨v22, hc23, hf⟩ := obd_some hf
        refine g_callSl (As := [.int (119 : Int32), .int (97 : Int32), .int (121 : Int32), .int (0 : Int32), .int (0 : Int32), .int (0 : Int32)]) (rest := [.long a0]) (w2 := []) 0 dX6_wordOf_105 vX6_wordOf_87 (c_X6_word hty hc23) rfl rfl rfl (Nat.le_of_ble_eq_true rfl) ⟨Nat.zero_le _, Nat.zero_le _⟩ rfl ?_
        refine g_lcmp dX6_wordOf_108 ?_
        refine g_if_ne (tgt := 116) dX6_wordOf_109 (by decide) (fun h24 => ?_) (fun h24 => ?_)
        · have hf := iff_ h24 hf
          refine g_lload_n 0 dX6_wordOf_116 rfl rfl ?_
          refine g_bipush (v := (104 : Int32)) dX6_wordOf_117 (by decide) ?_
          refine g_bipush (v := (111 : Int32)) dX6_wordOf_119 (by decide) ?_
          refine g_bipush (v := (110 : Int32)) dX6_wordOf_121 (by decide) ?_
          refine g_bipush (v := (101 : Int32)) dX6_wordOf_123 (by decide) ?_
          refine g_bipush (v := (115 : Int32)) dX6_wordOf_125 (by decide) ?_
          refine g_bipush (v := (116 : Int32)) dX6_wordOf_127 (by decide) ?_
          obtain ⟨v25, hc26, hf⟩ := obd_some hf
          refine g_callSl (As := [.int (104 : Int32), .int (111 : Int32), .int (110 : Int32), .int (101 : Int32), .int (115 : Int32), .int (116 : Int32)]) (rest := [.long a0]) (w2 := []) 0 dX6_wordOf_129 vX6_wordOf_87 (c_X6_word hty hc26) rfl rfl rfl (Nat.le_of_ble_eq_true rfl) ⟨Nat.zero_le _, Nat.zero_le _⟩ rfl ?_
          refine g_lcmp dX6_wordOf_132 ?_
          refine g_if_ne (tgt := 140) dX6_wordOf_133 (by decide) (fun h27 => ?_) (fun h27 => ?_)
          · have hf := iff_ h27 hf
            refine g_lload_n 0 dX6_wordOf_140 rfl rfl ?_
            refine g_bipush (v := (115 : Int32)) dX6_wordOf_141 (by decide) ?_
            refine g_bipush (v := (99 : Int32)) dX6_wordOf_143 (by decide) ?_
            refine g_bipush (v := (97 : Int32)) dX6_wordOf_145 (by decide) ?_
            refine g_bipush (v := (108 : Int32)) dX6_wordOf_147 (by decide) ?_
            refine g_bipush (v := (101 : Int32)) dX6_wordOf_149 (by decide) ?_
            refine g_iconst (v := (0 : Int32)) dX6_wordOf_151 (by decide) ?_
            obtain ⟨v28, hc29, hf⟩ := obd_some hf
            refine g_callSl (As := [.int (115 : Int32), .int (99 : Int32), .int (97 : Int32), .int (108 : Int32), .int (101 : Int32), .int (0 : Int32)]) (rest := [.long a0]) (w2 := []) 0 dX6_wordOf_152 vX6_wordOf_87 (c_X6_word hty hc29) rfl rfl rfl (Nat.le_of_ble_eq_true rfl) ⟨Nat.zero_le _, Nat.zero_le _⟩ rfl ?_
            refine g_lcmp dX6_wordOf_155 ?_
            refine g_if_ne (tgt := 163) dX6_wordOf_156 (by decide) (fun h30 => ?_) (fun h30 => ?_)
            · have hf := iff_ h30 hf
              refine g_bipush (v := (-9 : Int32)) dX6_wordOf_163 (by decide) ?_
              obtain rfl := Option.some.inj hf
              exact g_sub [0, 1] rfl J_v17
            · have hf := ift h30 hf
              refine g_iconst (v := (4 : Int32)) dX6_wordOf_159 (by decide) ?_
              refine g_goto (tgt := 165) dX6_wordOf_160 (by decide) ?_
              obtain rfl := Option.some.inj hf
              exact g_sub [0, 1] rfl J_v17
          · have hf := ift h27 hf
            refine g_iconst (v := (3 : Int32)) dX6_wordOf_136 (by decide) ?_
            refine g_goto (tgt := 165) dX6_wordOf_137 (by decide) ?_
            obtain rfl := Option.some.inj hf
            exact g_sub [0, 1] rfl J_v17
        · have hf := ift h24 hf
          refine g_iconst (v := (2 : Int32)) dX6_wordOf_112 (by decide) ?_
          refine g_goto (tgt := 165) dX6_wordOf_113 (by decide) ?_
          obtain rfl := Option.some.inj hf
          exact g_sub [0, 1] rfl J_v17
      · have hf := ift h21 hf
        refine g_iconst (v := (1 : Int32)) dX6_wordOf_91 (by decide) ?_
        refine g_goto (tgt := 165) dX6_wordOf_92 (by decide) ?_
        obtain rfl := Option.some.inj hf
        exact g_sub [0, 1] rfl J_v17
    · have hf := ift h18 hf
      refine g_iconst (v := (0 : Int32)) dX6_wordOf_68 (by decide) ?_
      refine g_goto (tgt := 165) dX6_wordOf_69 (by decide) ?_
      obtain rfl := Option.some.inj hf
      exact g_sub [0, 1] rfl J_v17
  · have hf := ift h1 hf
    refine g_lload_n 0 dX6_wordOf_6 rfl rfl ?_
    refine g_ldc2 (v := (256 : Int64)) dX6_wordOf_7 qX6_wordOf_81 ?_
    refine g_ldc2 (v := (256 : Int64)) dX6_wordOf_10 qX6_wordOf_81 ?_
    refine g_bipush (v := (115 : Int32)) dX6_wordOf_13 (by decide) ?_
    refine g_bipush (v := (116 : Int32)) dX6_wordOf_15 (by decide) ?_
    refine g_bipush (v := (114 : Int32)) dX6_wordOf_17 (by decide) ?_
    refine g_bipush (v := (97 : Int32)) dX6_wordOf_19 (by decide) ?_
    refine g_bipush (v := (110 : Int32)) dX6_wordOf_21 (by decide) ?_
    refine g_bipush (v := (103 : Int32)) dX6_wordOf_23 (by decide) ?_
    obtain ⟨v74, hc75, hf⟩ := obd_some hf
    refine g_callSl (As := [.int (115 : Int32), .int (116 : Int32), .int (114 : Int32), .int (97 : Int32), .int (110 : Int32), .int (103 : Int32)]) (rest := [.long (256 : Int64), .long (256 : Int64), .long a0]) (w2 := []) 0 dX6_wordOf_25 vX6_wordOf_87 (c_X6_word hty hc75) rfl rfl rfl (Nat.le_of_ble_eq_true rfl) ⟨Nat.zero_le _, Nat.zero_le _⟩ rfl ?_
    refine g_lmul dX6_wordOf_28 ?_
    refine g_ldc2 (v := (101 : Int64)) dX6_wordOf_29 qX6_wordOf_91 ?_
    refine g_ladd dX6_wordOf_32 ?_
    refine g_lmul dX6_wordOf_33 ?_
    refine g_ldc2 (v := (114 : Int64)) dX6_wordOf_34 qX6_wordOf_93 ?_
    refine g_ladd dX6_wordOf_37 ?_
    refine g_lcmp dX6_wordOf_38 ?_
    refine g_if_ne (tgt := 47) dX6_wordOf_39 (by decide) (fun h76 => ?_) (fun h76 => ?_)
    · have hf := iff_ h76 hf
      refine g_bipush (v := (-9 : Int32)) dX6_wordOf_47 (by decide) ?_
      obtain rfl := Option.some.inj hf
      exact hr _ _ dX6_wordOf_49
    · have hf := ift h76 hf
      refine g_bipush (v := (12 : Int32)) dX6_wordOf_42 (by decide) ?_
      refine g_goto (tgt := 49) dX6_wordOf_44 (by decide) ?_
      obtain rfl := Option.some.inj hf
      exact hr _ _ dX6_wordOf_49
