-- java/lang/Math floorDiv (II)I
def rmJ9_floorDiv_7cf53 : Room := { frames := 0, cells := 0, slots := 0, locals := 0 }
def kJ9_floorDiv_7cf53 : MK := (cJ9_floorDiv_7cf53, 3, RJ9, wsJ9_floorDiv_7cf53, (some .int), rmJ9_floorDiv_7cf53)

def f_J9_floorDiv_7cf53 (F : Nat) (a0 : Int32) (a1 : Int32) : Option Int32 :=
    ochk (¬ a1 = 0) (
    (if 0 ≤ (a0 ^^^ a1) then
    some (a0 / a1)
    else
    (if ((a0 / a1) * a1) = a0 then
    some (a0 / a1)
    else
    some ((a0 / a1) - (1 : Int32)))))

set_option maxHeartbeats 4000000 in
set_option maxRecDepth 100000 in
theorem c_J9_floorDiv_7cf53 {l : Launch} {D : va_G} {tys : List (ClassId × FieldType)} {X : XT} {cs : CS} {F : Nat} {a0 : Int32} {a1 : Int32} {r : Int32} (htyM : tys = tyA cs) (hf : f_J9_floorDiv_7cf53 F a0 a1 = some r) : Ci l D tys X yJ9_floorDiv_7cf53 wsJ9_floorDiv_7cf53 rmJ9_floorDiv_7cf53 [.int a0, .int a1] [] r [] := by
  refine Ci_ofG (by decide +kernel) rfl (Nat.le_of_ble_eq_true rfl) .int rfl (vp_nar_int _) (fun E _ _ hty0 hX0 hr => ?_)
  have hty := hty0.trans htyM
  have hr : Ri E kJ9_floorDiv_7cf53 r [] := hr
  show G E kJ9_floorDiv_7cf53 0 0 0 [(0, .int a0), (1, .int a1)] [] []
  unfold f_J9_floorDiv_7cf53 at hf
  refine g_iload_n 0 dJ9_floorDiv_7cf53_0 rfl rfl ?_
  refine g_iload_n 1 dJ9_floorDiv_7cf53_1 rfl rfl ?_
  obtain ⟨h1, hf⟩ := ochk_some hf
  refine g_idiv dJ9_floorDiv_7cf53_2 h1 ?_
  refine g_istore_n (lv2 := [(2, .int (a0 / a1)), (0, .int a0), (1, .int a1)]) dJ9_floorDiv_7cf53_3 rfl (by decide) rfl ?_
  refine g_iload_n 1 dJ9_floorDiv_7cf53_4 rfl rfl ?_
  refine g_iload_n 2 dJ9_floorDiv_7cf53_5 rfl rfl ?_
  refine g_ixor dJ9_floorDiv_7cf53_6 ?_
  refine g_if_ge (tgt := 21) dJ9_floorDiv_7cf53_7 (by decide) (fun h2 => ?_) (fun h2 => ?_)
  · have hf := ift h2 hf
    refine g_iload_n 0 dJ9_floorDiv_7cf53_21 rfl rfl ?_
    obtain rfl := Option.some.inj hf
    exact hr _ _ dJ9_floorDiv_7cf53_22
  · have hf := iff_ h2 hf
    refine g_iload_n 0 dJ9_floorDiv_7cf53_10 rfl rfl ?_
    refine g_iload_n 2 dJ9_floorDiv_7cf53_11 rfl rfl ?_
    refine g_imul dJ9_floorDiv_7cf53_12 ?_
    refine g_iload_n 1 dJ9_floorDiv_7cf53_13 rfl rfl ?_
    refine g_icmp_eq (tgt := 21) dJ9_floorDiv_7cf53_14 (by decide) (fun h3 => ?_) (fun h3 => ?_)
    · have hf := ift h3 hf
      refine g_iload_n 0 dJ9_floorDiv_7cf53_21 rfl rfl ?_
      obtain rfl := Option.some.inj hf
      exact hr _ _ dJ9_floorDiv_7cf53_22
    · have hf := iff_ h3 hf
      refine g_iload_n 0 dJ9_floorDiv_7cf53_17 rfl rfl ?_
      refine g_iconst (v := (1 : Int32)) dJ9_floorDiv_7cf53_18 (by decide) ?_
      refine g_isub dJ9_floorDiv_7cf53_19 ?_
      obtain rfl := Option.some.inj hf
      exact hr _ _ dJ9_floorDiv_7cf53_20

-- ThumbScale within (III)Z
def rmX5_within : Room := { frames := 0, cells := 0, slots := 0, locals := 0 }
def kX5_within : MK := (cX5_within, 3, RX5, wsX5_within, (some .boolean), rmX5_within)

def f_X5_within (F : Nat) (a0 : Int32) (a1 : Int32) (a2 : Int32) : Option Int32 :=
    (if a0 < a1 then
    some (0 : Int32)
    else
    (if a2 < a0 then
    some (0 : Int32)
    else
    some (1 : Int32)))

set_option maxHeartbeats 4000000 in
set_option maxRecDepth 100000 in
theorem c_X5_within {l : Launch} {D : va_G} {tys : List (ClassId × FieldType)} {X : XT} {cs : CS} {F : Nat} {a0 : Int32} {a1 : Int32} {a2 : Int32} {r : Int32} (htyM : tys = tyA cs) (hf : f_X5_within F a0 a1 a2 = some r) : Ci l D tys X yX5_within wsX5_within rmX5_within [.int a0, .int a1, .int a2] [] r [] := by
  refine Cz_ofG (by decide +kernel) rfl (Nat.le_of_ble_eq_true rfl) (fun E _ _ hty0 hX0 hr => ?_)
  have hty := hty0.trans htyM
  have hr : Rz E kX5_within r [] := hr
  show G E kX5_within 0 0 0 [(0, .int a0), (1, .int a1), (2, .int a2)] [] []
  unfold f_X5_within at hf
  refine g_iload_n 0 dX5_within_0 rfl rfl ?_
  refine g_iload_n 1 dX5_within_1 rfl rfl ?_
  refine g_icmp_lt (tgt := 14) dX5_within_2 (by decide) (fun h1 => ?_) (fun h1 => ?_)
  · have hf := ift h1 hf
    refine g_iconst (v := (0 : Int32)) dX5_within_14 (by decide) ?_
    obtain rfl := Option.some.inj hf
    exact hr _ _ dX5_within_15 (Or.inl rfl)
  · have hf := iff_ h1 hf
    refine g_iload_n 0 dX5_within_5 rfl rfl ?_
    refine g_iload_n 2 dX5_within_6 rfl rfl ?_
    refine g_icmp_gt (tgt := 14) dX5_within_7 (by decide) (fun h2 => ?_) (fun h2 => ?_)
    · have hf := ift h2 hf
      refine g_iconst (v := (0 : Int32)) dX5_within_14 (by decide) ?_
      obtain rfl := Option.some.inj hf
      exact hr _ _ dX5_within_15 (Or.inl rfl)
    · have hf := iff_ h2 hf
      refine g_iconst (v := (1 : Int32)) dX5_within_10 (by decide) ?_
      refine g_goto (tgt := 15) dX5_within_11 (by decide) ?_
      obtain rfl := Option.some.inj hf
      exact hr _ _ dX5_within_15 (Or.inr rfl)

-- ThumbScale isSort (I)Z
def rmX5_isSort : Room := { frames := 0, cells := 0, slots := 0, locals := 0 }
def kX5_isSort : MK := (cX5_isSort, 1, RX5, wsX5_isSort, (some .boolean), rmX5_isSort)

def f_X5_isSort (F : Nat) (a0 : Int32) : Option Int32 :=
    (if a0 < 0 then
    some (0 : Int32)
    else
    (if (4 : Int32) ≤ a0 then
    some (0 : Int32)
    else
    some (1 : Int32)))

set_option maxHeartbeats 4000000 in
set_option maxRecDepth 100000 in
theorem c_X5_isSort {l : Launch} {D : va_G} {tys : List (ClassId × FieldType)} {X : XT} {cs : CS} {F : Nat} {a0 : Int32} {r : Int32} (htyM : tys = tyA cs) (hf : f_X5_isSort F a0 = some r) : Ci l D tys X yX5_isSort wsX5_isSort rmX5_isSort [.int a0] [] r [] := by
  refine Cz_ofG (by decide +kernel) rfl (Nat.le_of_ble_eq_true rfl) (fun E _ _ hty0 hX0 hr => ?_)
  have hty := hty0.trans htyM
  have hr : Rz E kX5_isSort r [] := hr
  show G E kX5_isSort 0 0 0 [(0, .int a0)] [] []
  unfold f_X5_isSort at hf
  refine g_iload_n 0 dX5_isSort_0 rfl rfl ?_
  refine g_if_lt (tgt := 13) dX5_isSort_1 (by decide) (fun h1 => ?_) (fun h1 => ?_)
  · have hf := ift h1 hf
    refine g_iconst (v := (0 : Int32)) dX5_isSort_13 (by decide) ?_
    obtain rfl := Option.some.inj hf
    exact hr _ _ dX5_isSort_14 (Or.inl rfl)
  · have hf := iff_ h1 hf
    refine g_iload_n 0 dX5_isSort_4 rfl rfl ?_
    refine g_iconst (v := (4 : Int32)) dX5_isSort_5 (by decide) ?_
    refine g_icmp_ge (tgt := 13) dX5_isSort_6 (by decide) (fun h2 => ?_) (fun h2 => ?_)
    · have hf := ift h2 hf
      refine g_iconst (v := (0 : Int32)) dX5_isSort_13 (by decide) ?_
      obtain rfl := Option.some.inj hf
      exact hr _ _ dX5_isSort_14 (Or.inl rfl)
    · have hf := iff_ h2 hf
      refine g_iconst (v := (1 : Int32)) dX5_isSort_9 (by decide) ?_
      refine g_goto (tgt := 14) dX5_isSort_10 (by decide) ?_
      obtain rfl := Option.some.inj hf
      exact hr _ _ dX5_isSort_14 (Or.inr rfl)

-- ThumbScale isPart (I)Z
def rmX5_isPart : Room := { frames := 0, cells := 0, slots := 0, locals := 0 }
def kX5_isPart : MK := (cX5_isPart, 1, RX5, wsX5_isPart, (some .boolean), rmX5_isPart)

def f_X5_isPart (F : Nat) (a0 : Int32) : Option Int32 :=
    (if a0 = 0 then
    some (1 : Int32)
    else
    (if a0 = (1 : Int32) then
    some (1 : Int32)
    else
    some (0 : Int32)))

set_option maxHeartbeats 4000000 in
set_option maxRecDepth 100000 in
theorem c_X5_isPart {l : Launch} {D : va_G} {tys : List (ClassId × FieldType)} {X : XT} {cs : CS} {F : Nat} {a0 : Int32} {r : Int32} (htyM : tys = tyA cs) (hf : f_X5_isPart F a0 = some r) : Ci l D tys X yX5_isPart wsX5_isPart rmX5_isPart [.int a0] [] r [] := by
  refine Cz_ofG (by decide +kernel) rfl (Nat.le_of_ble_eq_true rfl) (fun E _ _ hty0 hX0 hr => ?_)
  have hty := hty0.trans htyM
  have hr : Rz E kX5_isPart r [] := hr
  show G E kX5_isPart 0 0 0 [(0, .int a0)] [] []
  unfold f_X5_isPart at hf
  refine g_iload_n 0 dX5_isPart_0 rfl rfl ?_
  refine g_if_eq (tgt := 9) dX5_isPart_1 (by decide) (fun h1 => ?_) (fun h1 => ?_)
  · have hf := ift h1 hf
    refine g_iconst (v := (1 : Int32)) dX5_isPart_9 (by decide) ?_
    refine g_goto (tgt := 14) dX5_isPart_10 (by decide) ?_
    obtain rfl := Option.some.inj hf
    exact hr _ _ dX5_isPart_14 (Or.inr rfl)
  · have hf := iff_ h1 hf
    refine g_iload_n 0 dX5_isPart_4 rfl rfl ?_
    refine g_iconst (v := (1 : Int32)) dX5_isPart_5 (by decide) ?_
    refine g_icmp_ne (tgt := 13) dX5_isPart_6 (by decide) (fun h2 => ?_) (fun h2 => ?_)
    · have hf := iff_ h2 hf
      refine g_iconst (v := (0 : Int32)) dX5_isPart_13 (by decide) ?_
      obtain rfl := Option.some.inj hf
      exact hr _ _ dX5_isPart_14 (Or.inl rfl)
    · have hf := ift h2 hf
      refine g_iconst (v := (1 : Int32)) dX5_isPart_9 (by decide) ?_
      refine g_goto (tgt := 14) dX5_isPart_10 (by decide) ?_
      obtain rfl := Option.some.inj hf
      exact hr _ _ dX5_isPart_14 (Or.inr rfl)

-- ThumbScale power (JI)J
def rmX5_power : Room := { frames := 0, cells := 0, slots := 0, locals := 0 }
def kX5_power : MK := (cX5_power, 6, RX5, wsX5_power, (some .long), rmX5_power)

def f_X5_power_L5 (F : Nat) (a0 : Int64) (a2 : Int32) : Nat → Int64 → Int32 → Option Int64
  | 0, _, _ => none
  | n + 1, x1, x2 =>
    (if a2 ≤ x2 then
    some x1
    else
    f_X5_power_L5 F a0 a2 n (x1 * a0) (x2 + 1))

def f_X5_power (F : Nat) (a0 : Int64) (a2 : Int32) : Option Int64 :=
    f_X5_power_L5 F a0 a2 F (1 : Int64) (0 : Int32)

set_option maxHeartbeats 4000000 in
set_option maxRecDepth 100000 in
theorem w_X5_power_L5 {E : GE} {cs : CS} {F : Nat} {a0 : Int64} {a2 : Int32} {r : Int64} (hty : eT E = tyA cs) (hr : Rl E kX5_power r []) : ∀ (n : Nat) (x1 : Int64) (x2 : Int32), f_X5_power_L5 F a0 a2 n x1 x2 = some r → G E kX5_power 0 0 5 [(0, .long a0), (2, .int a2), (3, .long x1), (5, .int x2)] [] [] := by
  intro n
  induction n with
  | zero =>
    intro x1 x2 hf
    cases (show (none : Option Int64) = some r from hf)
  | succ n ih =>
    intro x1 x2 hf
    rw [f_X5_power_L5] at hf
    refine g_iload 3 dX5_power_5 rfl ?_
    refine g_iload_n 1 dX5_power_7 rfl rfl ?_
    refine g_icmp_ge (tgt := 21) dX5_power_8 (by decide) (fun h3 => ?_) (fun h3 => ?_)
    · have hf := ift h3 hf
      refine g_lload_n 2 dX5_power_21 rfl rfl ?_
      obtain rfl := Option.some.inj hf
      exact hr _ _ dX5_power_22
    · have hf := iff_ h3 hf
      refine g_lload_n 2 dX5_power_11 rfl rfl ?_
      refine g_lload_n 0 dX5_power_12 rfl rfl ?_
      refine g_lmul dX5_power_13 ?_
      refine g_lstore_n (lv2 := [(3, .long (x1 * a0)), (0, .long a0), (2, .int a2), (5, .int x2)]) dX5_power_14 rfl (by decide) rfl ?_
      refine g_iinc (lv2 := [(5, .int (x2 + 1)), (3, .long (x1 * a0)), (0, .long a0), (2, .int a2)]) 3 dX5_power_15 rfl (ii1 _) (by decide) rfl ?_
      refine g_goto (tgt := 5) dX5_power_18 (by decide) ?_
      exact g_sub [2, 3, 1, 0] rfl (ih (x1 * a0) (x2 + 1) hf)

set_option maxHeartbeats 4000000 in
set_option maxRecDepth 100000 in
theorem c_X5_power {l : Launch} {D : va_G} {tys : List (ClassId × FieldType)} {X : XT} {cs : CS} {F : Nat} {a0 : Int64} {a2 : Int32} {r : Int64} (htyM : tys = tyA cs) (hf : f_X5_power F a0 a2 = some r) : Cl l D tys X yX5_power wsX5_power rmX5_power [.long a0, .int a2] [] r [] := by
  refine Cl_ofG (by decide +kernel) rfl (Nat.le_of_ble_eq_true rfl) (fun E _ _ hty0 hX0 hr => ?_)
  have hty := hty0.trans htyM
  have hr : Rl E kX5_power r [] := hr
  show G E kX5_power 0 0 0 [(0, .long a0), (2, .int a2)] [] []
  unfold f_X5_power at hf
  refine g_lconst (v := (1 : Int64)) dX5_power_0 (by decide) ?_
  refine g_lstore_n (lv2 := [(3, .long (1 : Int64)), (0, .long a0), (2, .int a2)]) dX5_power_1 rfl (by decide) rfl ?_
  refine g_iconst (v := (0 : Int32)) dX5_power_2 (by decide) ?_
  refine g_istore (lv2 := [(5, .int (0 : Int32)), (3, .long (1 : Int64)), (0, .long a0), (2, .int a2)]) dX5_power_3 (by decide) rfl ?_
  exact g_sub [2, 3, 1, 0] rfl (w_X5_power_L5 hty hr F (1 : Int64) (0 : Int32) hf)

-- ThumbScale atMost (JIJ)J
def rmX5_atMost : Room := { frames := 0, cells := 0, slots := 0, locals := 0 }
def kX5_atMost : MK := (cX5_atMost, 5, RX5, wsX5_atMost, (some .long), rmX5_atMost)

def f_X5_atMost (F : Nat) (a0 : Int64) (a2 : Int32) (a3 : Int64) : Option Int64 :=
    (if 0 < a2 then
    ochk (¬ (Int32.toInt64 a2) = 0) (
    (if (lg_cmp a0 (a3 / (Int32.toInt64 a2))) ≤ 0 then
    some (a0 * (Int32.toInt64 a2))
    else
    some a3))
    else
    some (0 : Int64))

set_option maxHeartbeats 4000000 in
set_option maxRecDepth 100000 in
theorem c_X5_atMost {l : Launch} {D : va_G} {tys : List (ClassId × FieldType)} {X : XT} {cs : CS} {F : Nat} {a0 : Int64} {a2 : Int32} {a3 : Int64} {r : Int64} (htyM : tys = tyA cs) (hf : f_X5_atMost F a0 a2 a3 = some r) : Cl l D tys X yX5_atMost wsX5_atMost rmX5_atMost [.long a0, .int a2, .long a3] [] r [] := by
  refine Cl_ofG (by decide +kernel) rfl (Nat.le_of_ble_eq_true rfl) (fun E _ _ hty0 hX0 hr => ?_)
  have hty := hty0.trans htyM
  have hr : Rl E kX5_atMost r [] := hr
  show G E kX5_atMost 0 0 0 [(0, .long a0), (2, .int a2), (3, .long a3)] [] []
  unfold f_X5_atMost at hf
  refine g_iload_n 1 dX5_atMost_0 rfl rfl ?_
  refine g_if_gt (tgt := 6) dX5_atMost_1 (by decide) (fun h1 => ?_) (fun h1 => ?_)
  · have hf := ift h1 hf
    refine g_lload_n 0 dX5_atMost_6 rfl rfl ?_
    refine g_lload_n 2 dX5_atMost_7 rfl rfl ?_
    refine g_iload_n 1 dX5_atMost_8 rfl rfl ?_
    refine g_i2l dX5_atMost_9 ?_
    obtain ⟨h2, hf⟩ := ochk_some hf
    refine g_ldiv dX5_atMost_10 h2 ?_
    refine g_lcmp dX5_atMost_11 ?_
    refine g_if_le (tgt := 19) dX5_atMost_12 (by decide) (fun h3 => ?_) (fun h3 => ?_)
    · have hf := ift h3 hf
      refine g_lload_n 0 dX5_atMost_19 rfl rfl ?_
      refine g_iload_n 1 dX5_atMost_20 rfl rfl ?_
      refine g_i2l dX5_atMost_21 ?_
      refine g_lmul dX5_atMost_22 ?_
      obtain rfl := Option.some.inj hf
      exact hr _ _ dX5_atMost_23
    · have hf := iff_ h3 hf
      refine g_lload_n 2 dX5_atMost_15 rfl rfl ?_
      refine g_goto (tgt := 23) dX5_atMost_16 (by decide) ?_
      obtain rfl := Option.some.inj hf
      exact hr _ _ dX5_atMost_23
  · have hf := iff_ h1 hf
    refine g_lconst (v := (0 : Int64)) dX5_atMost_4 (by decide) ?_
    obtain rfl := Option.some.inj hf
    exact hr _ _ dX5_atMost_5

-- ThumbScale commonDivisor (JJ)J
def rmX5_commonDivisor : Room := { frames := 0, cells := 0, slots := 0, locals := 0 }
def kX5_commonDivisor : MK := (cX5_commonDivisor, 11, RX5, wsX5_commonDivisor, (some .long), rmX5_commonDivisor)

def f_X5_commonDivisor_L9 (F : Nat) (a0 : Int64) (a2 : Int64) : Nat → Int64 → Int64 → Int32 → Option Int64
  | 0, _, _, _ => none
  | n + 1, x1, x2, x3 =>
    (if (200 : Int32) ≤ x3 then
    some x1
    else
    (if (lg_cmp x2 (0 : Int64)) = 0 then
    some x1
    else
    ochk (¬ x2 = 0) (
    f_X5_commonDivisor_L9 F a0 a2 n x2 (x1 - x1 / x2 * x2) (x3 + 1))))

def f_X5_commonDivisor (F : Nat) (a0 : Int64) (a2 : Int64) : Option Int64 :=
    f_X5_commonDivisor_L9 F a0 a2 F a0 a2 (0 : Int32)

set_option maxHeartbeats 4000000 in
set_option maxRecDepth 100000 in
theorem w_X5_commonDivisor_L9 {E : GE} {cs : CS} {F : Nat} {a0 : Int64} {a2 : Int64} {r : Int64} (hty : eT E = tyA cs) (hr : Rl E kX5_commonDivisor r []) : ∀ (n : Nat) (x1 : Int64) (x2 : Int64) (x3 : Int32), f_X5_commonDivisor_L9 F a0 a2 n x1 x2 x3 = some r → G E kX5_commonDivisor 0 0 9 [(4, .long x1), (6, .long x2), (8, .int x3)] [] [] := by
  intro n
  induction n with
  | zero =>
    intro x1 x2 x3 hf
    cases (show (none : Option Int64) = some r from hf)
  | succ n ih =>
    intro x1 x2 x3 hf
    rw [f_X5_commonDivisor_L9] at hf
    refine g_iload 2 dX5_commonDivisor_9 rfl ?_
    refine g_sipush (v := (200 : Int32)) dX5_commonDivisor_11 (by decide) ?_
    refine g_icmp_ge (tgt := 45) dX5_commonDivisor_14 (by decide) (fun h4 => ?_) (fun h4 => ?_)
    · have hf := ift h4 hf
      refine g_lload 0 dX5_commonDivisor_45 rfl ?_
      obtain rfl := Option.some.inj hf
      exact hr _ _ dX5_commonDivisor_47
    · have hf := iff_ h4 hf
      refine g_lload 1 dX5_commonDivisor_17 rfl ?_
      refine g_lconst (v := (0 : Int64)) dX5_commonDivisor_19 (by decide) ?_
      refine g_lcmp dX5_commonDivisor_20 ?_
      refine g_if_eq (tgt := 45) dX5_commonDivisor_21 (by decide) (fun h5 => ?_) (fun h5 => ?_)
      · have hf := ift h5 hf
        refine g_lload 0 dX5_commonDivisor_45 rfl ?_
        obtain rfl := Option.some.inj hf
        exact hr _ _ dX5_commonDivisor_47
      · have hf := iff_ h5 hf
        refine g_lload 0 dX5_commonDivisor_24 rfl ?_
        refine g_lload 1 dX5_commonDivisor_26 rfl ?_
        obtain ⟨h6, hf⟩ := ochk_some hf
        refine g_lrem dX5_commonDivisor_28 h6 ?_
        refine g_lstore (lv2 := [(9, .long (x1 - x1 / x2 * x2)), (4, .long x1), (6, .long x2), (8, .int x3)]) dX5_commonDivisor_29 (by decide) rfl ?_
        refine g_lload 2 dX5_commonDivisor_31 rfl ?_
        refine g_lstore (lv2 := [(4, .long x2), (9, .long (x1 - x1 / x2 * x2)), (6, .long x2), (8, .int x3)]) dX5_commonDivisor_33 (by decide) rfl ?_
        refine g_lload 1 dX5_commonDivisor_35 rfl ?_
        refine g_lstore (lv2 := [(6, .long (x1 - x1 / x2 * x2)), (4, .long x2), (9, .long (x1 - x1 / x2 * x2)), (8, .int x3)]) dX5_commonDivisor_37 (by decide) rfl ?_
        refine g_iinc (lv2 := [(8, .int (x3 + 1)), (6, .long (x1 - x1 / x2 * x2)), (4, .long x2), (9, .long (x1 - x1 / x2 * x2))]) 3 dX5_commonDivisor_39 rfl (ii1 _) (by decide) rfl ?_
        refine g_goto (tgt := 9) dX5_commonDivisor_42 (by decide) ?_
        exact g_sub [2, 1, 0] rfl (ih x2 (x1 - x1 / x2 * x2) (x3 + 1) hf)

set_option maxHeartbeats 4000000 in
set_option maxRecDepth 100000 in
theorem c_X5_commonDivisor {l : Launch} {D : va_G} {tys : List (ClassId × FieldType)} {X : XT} {cs : CS} {F : Nat} {a0 : Int64} {a2 : Int64} {r : Int64} (htyM : tys = tyA cs) (hf : f_X5_commonDivisor F a0 a2 = some r) : Cl l D tys X yX5_commonDivisor wsX5_commonDivisor rmX5_commonDivisor [.long a0, .long a2] [] r [] := by
  refine Cl_ofG (by decide +kernel) rfl (Nat.le_of_ble_eq_true rfl) (fun E _ _ hty0 hX0 hr => ?_)
  have hty := hty0.trans htyM
  have hr : Rl E kX5_commonDivisor r [] := hr
  show G E kX5_commonDivisor 0 0 0 [(0, .long a0), (2, .long a2)] [] []
  unfold f_X5_commonDivisor at hf
  refine g_lload_n 0 dX5_commonDivisor_0 rfl rfl ?_
  refine g_lstore (lv2 := [(4, .long a0), (0, .long a0), (2, .long a2)]) dX5_commonDivisor_1 (by decide) rfl ?_
  refine g_lload_n 2 dX5_commonDivisor_3 rfl rfl ?_
  refine g_lstore (lv2 := [(6, .long a2), (4, .long a0), (0, .long a0), (2, .long a2)]) dX5_commonDivisor_4 (by decide) rfl ?_
  refine g_iconst (v := (0 : Int32)) dX5_commonDivisor_6 (by decide) ?_
  refine g_istore (lv2 := [(8, .int (0 : Int32)), (6, .long a2), (4, .long a0), (0, .long a0), (2, .long a2)]) dX5_commonDivisor_7 (by decide) rfl ?_
  exact g_sub [2, 1, 0] rfl (w_X5_commonDivisor_L9 hty hr F a0 a2 (0 : Int32) hf)

-- ThumbScale inLeastTerms (JJI)J
def rmX5_inLeastTerms : Room := { frames := 1, cells := 0, slots := 0, locals := 30 }
def kX5_inLeastTerms : MK := (cX5_inLeastTerms, 7, RX5, wsX5_inLeastTerms, (some .long), rmX5_inLeastTerms)

set_option maxRecDepth 20000 in
theorem mX5_inLeastTerms_340 : (Cond.methodLink RX5 340 Lib.MathLoose.abs_long.x ∈ wsX5_inLeastTerms ∧ Cond.static Lib.MathLoose.abs_long.x ∈ wsX5_inLeastTerms) ∧ (Cond.initialized "java/lang/Math" ∈ wsX5_inLeastTerms ∧ Cond.code Lib.MathLoose.abs_long.x Lib.MathLoose.abs_long.code 2 (some .long) ∈ wsX5_inLeastTerms) := ⟨⟨by decide +kernel, by decide +kernel⟩, ⟨by decide +kernel, by decide +kernel⟩⟩
set_option maxRecDepth 20000 in
theorem vX5_inLeastTerms_344 : KS kX5_inLeastTerms 344 yX5_commonDivisor wsX5_commonDivisor rmX5_commonDivisor 2 := ⟨_, _, _, _, gX5_inLeastTerms_X5_commonDivisor, rfl, rfl, rfl, by decide +kernel, ⟨by decide, by decide⟩⟩
set_option maxRecDepth 20000 in
theorem qX5_inLeastTerms_164 : Cond.constantLong RX5 164 (-1000000000000000000 : Int64) ∈ wsX5_inLeastTerms := by decide +kernel
def f_X5_inLeastTerms (F : Nat) (a0 : Int64) (a2 : Int64) (a4 : Int32) : Option Int64 :=
    obd (f_X5_commonDivisor F (if 0 < a0 then a0 else -a0) a2) (fun v1 =>
    (if 0 < (lg_cmp v1 (0 : Int64)) then
    (if a4 = 0 then
    ochk (¬ v1 = 0) (
    some (a0 / v1))
    else
    ochk (¬ v1 = 0) (
    some (a2 / v1)))
    else
    some (-1000000000000000000 : Int64)))

set_option maxHeartbeats 4000000 in
set_option maxRecDepth 100000 in
theorem c_X5_inLeastTerms {l : Launch} {D : va_G} {tys : List (ClassId × FieldType)} {X : XT} {cs : CS} {F : Nat} {a0 : Int64} {a2 : Int64} {a4 : Int32} {r : Int64} (htyM : tys = tyA cs) (hf : f_X5_inLeastTerms F a0 a2 a4 = some r) : Cl l D tys X yX5_inLeastTerms wsX5_inLeastTerms rmX5_inLeastTerms [.long a0, .long a2, .int a4] [] r [] := by
  refine Cl_ofG (by decide +kernel) rfl (Nat.le_of_ble_eq_true rfl) (fun E _ _ hty0 hX0 hr => ?_)
  have hty := hty0.trans htyM
  have hr : Rl E kX5_inLeastTerms r [] := hr
  show G E kX5_inLeastTerms 0 0 0 [(0, .long a0), (2, .long a2), (4, .int a4)] [] []
  unfold f_X5_inLeastTerms at hf
  refine g_lload_n 0 dX5_inLeastTerms_0 rfl rfl ?_
  refine g_mabsl dX5_inLeastTerms_1 mX5_inLeastTerms_340.1.1 mX5_inLeastTerms_340.1.2 mX5_inLeastTerms_340.2.1 mX5_inLeastTerms_340.2.2 ⟨by decide, Nat.le_of_ble_eq_true rfl, Nat.zero_le _, Nat.zero_le _⟩ ?_
  refine g_lload_n 1 dX5_inLeastTerms_4 rfl rfl ?_
  obtain ⟨v1, hc2, hf⟩ := obd_some hf
  refine g_callSl (As := [.long (if 0 < a0 then a0 else -a0), .long a2]) (rest := []) (w2 := []) 0 dX5_inLeastTerms_5 vX5_inLeastTerms_344 (c_X5_commonDivisor hty hc2) rfl rfl rfl (Nat.le_of_ble_eq_true rfl) ⟨Nat.zero_le _, Nat.zero_le _⟩ rfl ?_
  refine g_lstore (lv2 := [(5, .long v1), (0, .long a0), (2, .long a2), (4, .int a4)]) dX5_inLeastTerms_8 (by decide) rfl ?_
  refine g_lload 0 dX5_inLeastTerms_10 rfl ?_
  refine g_lconst (v := (0 : Int64)) dX5_inLeastTerms_12 (by decide) ?_
  refine g_lcmp dX5_inLeastTerms_13 ?_
  refine g_if_gt (tgt := 21) dX5_inLeastTerms_14 (by decide) (fun h3 => ?_) (fun h3 => ?_)
  · have hf := ift h3 hf
    refine g_iload 3 dX5_inLeastTerms_21 rfl ?_
    refine g_if_ne (tgt := 33) dX5_inLeastTerms_23 (by decide) (fun h4 => ?_) (fun h4 => ?_)
    · have hf := iff_ h4 hf
      refine g_lload_n 2 dX5_inLeastTerms_33 rfl rfl ?_
      refine g_lload 0 dX5_inLeastTerms_34 rfl ?_
      obtain ⟨h5, hf⟩ := ochk_some hf
      refine g_ldiv dX5_inLeastTerms_36 h5 ?_
      obtain rfl := Option.some.inj hf
      exact hr _ _ dX5_inLeastTerms_37
    · have hf := ift h4 hf
      refine g_lload_n 1 dX5_inLeastTerms_26 rfl rfl ?_
      refine g_lload 0 dX5_inLeastTerms_27 rfl ?_
      obtain ⟨h6, hf⟩ := ochk_some hf
      refine g_ldiv dX5_inLeastTerms_29 h6 ?_
      refine g_goto (tgt := 37) dX5_inLeastTerms_30 (by decide) ?_
      obtain rfl := Option.some.inj hf
      exact hr _ _ dX5_inLeastTerms_37
  · have hf := iff_ h3 hf
    refine g_ldc2 (v := (-1000000000000000000 : Int64)) dX5_inLeastTerms_17 qX5_inLeastTerms_164 ?_
    obtain rfl := Option.some.inj hf
    exact hr _ _ dX5_inLeastTerms_20

