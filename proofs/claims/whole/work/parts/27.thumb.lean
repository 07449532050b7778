-- ThumbScale$Market become (LThumbScale$Market;)V
def rmX2_become : Room := { frames := 0, cells := 0, slots := 0, locals := 0 }
def kX2_become : MK := (cX2_become, 3, RX2, wsX2_become, none, rmX2_become)

set_option maxRecDepth 20000 in
theorem jX2_become_36 : Cond.fieldLink RX2 36 (TX2 0).1 (TX2 0).2.1 (TX2 0).2.2.1 ∈ wsX2_become := by decide +kernel
set_option maxRecDepth 20000 in
theorem iX2_become_X2 : ∀ x ∈ u_ws RX2 TX2 12, x ∈ wsX2_become := by decide +kernel
set_option maxRecDepth 20000 in
theorem jX2_become_40 : Cond.fieldLink RX2 40 (TX2 1).1 (TX2 1).2.1 (TX2 1).2.2.1 ∈ wsX2_become := by decide +kernel
set_option maxRecDepth 20000 in
theorem jX2_become_43 : Cond.fieldLink RX2 43 (TX2 2).1 (TX2 2).2.1 (TX2 2).2.2.1 ∈ wsX2_become := by decide +kernel
set_option maxRecDepth 20000 in
theorem jX2_become_46 : Cond.fieldLink RX2 46 (TX2 3).1 (TX2 3).2.1 (TX2 3).2.2.1 ∈ wsX2_become := by decide +kernel
set_option maxRecDepth 20000 in
theorem jX2_become_49 : Cond.fieldLink RX2 49 (TX2 7).1 (TX2 7).2.1 (TX2 7).2.2.1 ∈ wsX2_become := by decide +kernel
set_option maxRecDepth 20000 in
theorem jX2_become_21 : Cond.fieldLink RX2 21 (TX2 8).1 (TX2 8).2.1 (TX2 8).2.2.1 ∈ wsX2_become := by decide +kernel
set_option maxRecDepth 20000 in
theorem jX2_become_24 : Cond.fieldLink RX2 24 (TX2 9).1 (TX2 9).2.1 (TX2 9).2.2.1 ∈ wsX2_become := by decide +kernel
set_option maxRecDepth 20000 in
theorem jX2_become_27 : Cond.fieldLink RX2 27 (TX2 10).1 (TX2 10).2.1 (TX2 10).2.2.1 ∈ wsX2_become := by decide +kernel
set_option maxRecDepth 20000 in
theorem jX2_become_30 : Cond.fieldLink RX2 30 (TX2 11).1 (TX2 11).2.1 (TX2 11).2.2.1 ∈ wsX2_become := by decide +kernel
set_option maxRecDepth 20000 in
theorem jX2_become_9 : Cond.fieldLink RX2 9 (TX2 4).1 (TX2 4).2.1 (TX2 4).2.2.1 ∈ wsX2_become := by decide +kernel
set_option maxRecDepth 20000 in
theorem jX2_become_15 : Cond.fieldLink RX2 15 (TX2 5).1 (TX2 5).2.1 (TX2 5).2.2.1 ∈ wsX2_become := by decide +kernel
set_option maxRecDepth 20000 in
theorem jX2_become_18 : Cond.fieldLink RX2 18 (TX2 6).1 (TX2 6).2.1 (TX2 6).2.2.1 ∈ wsX2_become := by decide +kernel
def f_X2_become_11_3_L94 (F : Nat) : Nat → Int32 → ST → Option ST
  | 0, _, _ => none
  | n + 1, x14, s15 =>
    (if (M_ways (T_market s15)) ≤ x14 then
    some s15
    else
    ochi x14 6 (
    olt ((M_shape (R_into (T_reader s15))) (Int32.toNatClampNeg x14)) (fun z18 =>
    ochi x14 6 (olt (uT_market s15 (uM_shape (T_market s15) (upd (M_shape (T_market s15)) (Int32.toNatClampNeg x14) z18))) (fun s20 =>
    ochi x14 6 (
    olt ((M_grains (R_into (T_reader s20))) (Int32.toNatClampNeg x14)) (fun z22 =>
    ochi x14 6 (olt (uT_market s20 (uM_grains (T_market s20) (upd (M_grains (T_market s20)) (Int32.toNatClampNeg x14) z22))) (fun s24 =>
    ochi x14 6 (
    olt ((M_oneIn (R_into (T_reader s24))) (Int32.toNatClampNeg x14)) (fun z26 =>
    ochi x14 6 (olt (uT_market s24 (uM_oneIn (T_market s24) (upd (M_oneIn (T_market s24)) (Int32.toNatClampNeg x14) z26))) (fun s28 =>
    ochi x14 6 (
    olt ((M_sorts (R_into (T_reader s28))) (Int32.toNatClampNeg x14)) (fun z30 =>
    ochi x14 6 (olt (uT_market s28 (uM_sorts (T_market s28) (upd (M_sorts (T_market s28)) (Int32.toNatClampNeg x14) z30))) (fun s32 =>
    f_X2_become_11_3_L94 F n (x14 + 1) s32)))))))))))))))))

def f_X2_become_11_3_L34 (F : Nat) : Nat → Int32 → ST → Option ST
  | 0, _, _ => none
  | n + 1, x9, s10 =>
    (if (M_stalls (T_market s10)) ≤ x9 then
    olt (M_ways (R_into (T_reader s10))) (fun z12 =>
    olt (uT_market s10 (uM_ways (T_market s10) z12)) (fun s13 =>
    f_X2_become_11_3_L94 F F (0 : Int32) s13))
    else
    ochi x9 6 (
    olt ((M_step (R_into (T_reader s10))) (Int32.toNatClampNeg x9)) (fun z34 =>
    ochi x9 6 (olt (uT_market s10 (uM_step (T_market s10) (upd (M_step (T_market s10)) (Int32.toNatClampNeg x9) z34))) (fun s36 =>
    ochi x9 6 (
    olt ((M_dry (R_into (T_reader s36))) (Int32.toNatClampNeg x9)) (fun z38 =>
    ochi x9 6 (olt (uT_market s36 (uM_dry (T_market s36) (upd (M_dry (T_market s36)) (Int32.toNatClampNeg x9) z38))) (fun s40 =>
    ochi x9 6 (
    olt ((M_price (R_into (T_reader s40))) (Int32.toNatClampNeg x9)) (fun z42 =>
    ochi x9 6 (olt (uT_market s40 (uM_price (T_market s40) (upd (M_price (T_market s40)) (Int32.toNatClampNeg x9) z42))) (fun s44 =>
    f_X2_become_11_3_L34 F n (x9 + 1) s44)))))))))))))

def f_X2_become_11_3 (F : Nat) (s : ST) : Option ST :=
    olt (M_less (R_into (T_reader s))) (fun z1 =>
    olt (uT_market s (uM_less (T_market s) z1)) (fun s2 =>
    olt (M_just (R_into (T_reader s2))) (fun z3 =>
    olt (uT_market s2 (uM_just (T_market s2) z3)) (fun s4 =>
    olt (M_more (R_into (T_reader s4))) (fun z5 =>
    olt (uT_market s4 (uM_more (T_market s4) z5)) (fun s6 =>
    olt (M_stalls (R_into (T_reader s6))) (fun z7 =>
    olt (uT_market s6 (uM_stalls (T_market s6) z7)) (fun s8 =>
    f_X2_become_11_3_L34 F F (0 : Int32) s8))))))))

set_option maxHeartbeats 4000000 in
set_option maxRecDepth 100000 in
theorem w_X2_become_11_3_L94 {E : GE} {cs : CS} {ad : Nat → Nat} {F : Nat} {r : ST} (hty : eT E = tyA cs) (hr : Rv E kX2_become (wT cs ad r)) : ∀ (n : Nat) (x14 : Int32) (s15 : ST), f_X2_become_11_3_L94 F n x14 s15 = some r → G E kX2_become 0 0 94 [(0, .ref (ad 11)), (1, .ref (ad 3)), (2, .int x14)] [] (wT cs ad s15) := by
  intro n
  induction n with
  | zero =>
    intro x14 s15 hf
    cases (show (none : Option ST) = some r from hf)
  | succ n ih =>
    intro x14 s15 hf
    rw [f_X2_become_11_3_L94] at hf
    refine g_iload_n 2 dX2_become_94 rfl rfl ?_
    refine g_aload_n 0 dX2_become_95 rfl rfl ?_
    refine g_get (ci := 2) (T := TX2) (N := 12) 11 7 (.int (M_ways (T_market s15))) dX2_become_96 iX2_become_X2 rfl jX2_become_49 (by decide) wlaT_11 rfl ?_
    refine g_icmp_ge (tgt := 156) dX2_become_99 (by decide) (fun h16 => ?_) (fun h16 => ?_)
    · have hf := ift h16 hf
      obtain rfl := Option.some.inj hf
      exact hr _ _ dX2_become_156
    · have hf := iff_ h16 hf
      refine g_aload_n 0 dX2_become_102 rfl rfl ?_
      refine g_get (ci := 2) (T := TX2) (N := 12) 11 8 (.ref (ad 15)) dX2_become_103 iX2_become_X2 rfl jX2_become_21 (by decide) wlaT_11 rfl ?_
      refine g_iload_n 2 dX2_become_106 rfl rfl ?_
      refine g_aload_n 1 dX2_become_107 rfl rfl ?_
      refine g_get (ci := 2) (T := TX2) (N := 12) 3 8 (.ref (ad 7)) dX2_become_108 iX2_become_X2 rfl jX2_become_21 (by decide) wlaT_3 rfl ?_
      refine g_iload_n 2 dX2_become_111 rfl rfl ?_
      obtain ⟨h17, hf⟩ := ochi_some hf
      refine g_iald 7 0 dX2_become_112 wlaT_7 (tI hty) h17 ?_
      obtain ⟨z18, e_z18, hf⟩ := olt_some hf
      refine g_cast rfl rfl (congrArg (fun q => Value.int q :: [.int x14, .ref (ad 15)]) e_z18) rfl ?_
      obtain ⟨h19, hf⟩ := ochi_some hf
      obtain ⟨s20, e_s20, hf⟩ := olt_some hf
      refine g_iast (w2 := (wT cs ad s20)) 15 0 dX2_become_113 wlaT_15 (tI hty) h19 (wlsT_15.trans (congrArg (wT cs ad) e_s20)) ?_
      refine g_aload_n 0 dX2_become_114 rfl rfl ?_
      refine g_get (ci := 2) (T := TX2) (N := 12) 11 9 (.ref (ad 16)) dX2_become_115 iX2_become_X2 rfl jX2_become_24 (by decide) wlaT_11 rfl ?_
      refine g_iload_n 2 dX2_become_118 rfl rfl ?_
      refine g_aload_n 1 dX2_become_119 rfl rfl ?_
      refine g_get (ci := 2) (T := TX2) (N := 12) 3 9 (.ref (ad 8)) dX2_become_120 iX2_become_X2 rfl jX2_become_24 (by decide) wlaT_3 rfl ?_
      refine g_iload_n 2 dX2_become_123 rfl rfl ?_
      obtain ⟨h21, hf⟩ := ochi_some hf
      refine g_iald 8 0 dX2_become_124 wlaT_8 (tI hty) h21 ?_
      obtain ⟨z22, e_z22, hf⟩ := olt_some hf
      refine g_cast rfl rfl (congrArg (fun q => Value.int q :: [.int x14, .ref (ad 16)]) e_z22) rfl ?_
      obtain ⟨h23, hf⟩ := ochi_some hf
      obtain ⟨s24, e_s24, hf⟩ := olt_some hf
      refine g_iast (w2 := (wT cs ad s24)) 16 0 dX2_become_125 wlaT_16 (tI hty) h23 (wlsT_16.trans (congrArg (wT cs ad) e_s24)) ?_
      refine g_aload_n 0 dX2_become_126 rfl rfl ?_
      refine g_get (ci := 2) (T := TX2) (N := 12) 11 10 (.ref (ad 17)) dX2_become_127 iX2_become_X2 rfl jX2_become_27 (by decide) wlaT_11 rfl ?_
      refine g_iload_n 2 dX2_become_130 rfl rfl ?_
      refine g_aload_n 1 dX2_become_131 rfl rfl ?_
      refine g_get (ci := 2) (T := TX2) (N := 12) 3 10 (.ref (ad 9)) dX2_become_132 iX2_become_X2 rfl jX2_become_27 (by decide) wlaT_3 rfl ?_
      refine g_iload_n 2 dX2_become_135 rfl rfl ?_
      obtain ⟨h25, hf⟩ := ochi_some hf
      refine g_iald 9 0 dX2_become_136 wlaT_9 (tI hty) h25 ?_
      obtain ⟨z26, e_z26, hf⟩ := olt_some hf
      refine g_cast rfl rfl (congrArg (fun q => Value.int q :: [.int x14, .ref (ad 17)]) e_z26) rfl ?_
      obtain ⟨h27, hf⟩ := ochi_some hf
      obtain ⟨s28, e_s28, hf⟩ := olt_some hf
      refine g_iast (w2 := (wT cs ad s28)) 17 0 dX2_become_137 wlaT_17 (tI hty) h27 (wlsT_17.trans (congrArg (wT cs ad) e_s28)) ?_
      refine g_aload_n 0 dX2_become_138 rfl rfl ?_
      refine g_get (ci := 2) (T := TX2) (N := 12) 11 11 (.ref (ad 18)) dX2_become_139 iX2_become_X2 rfl jX2_become_30 (by decide) wlaT_11 rfl ?_
      refine g_iload_n 2 dX2_become_142 rfl rfl ?_
      refine g_aload_n 1 dX2_become_143 rfl rfl ?_
      refine g_get (ci := 2) (T := TX2) (N := 12) 3 11 (.ref (ad 10)) dX2_become_144 iX2_become_X2 rfl jX2_become_30 (by decide) wlaT_3 rfl ?_
      refine g_iload_n 2 dX2_become_147 rfl rfl ?_
      obtain ⟨h29, hf⟩ := ochi_some hf
      refine g_iald 10 0 dX2_become_148 wlaT_10 (tI hty) h29 ?_
      obtain ⟨z30, e_z30, hf⟩ := olt_some hf
      refine g_cast rfl rfl (congrArg (fun q => Value.int q :: [.int x14, .ref (ad 18)]) e_z30) rfl ?_
      obtain ⟨h31, hf⟩ := ochi_some hf
      obtain ⟨s32, e_s32, hf⟩ := olt_some hf
      refine g_iast (w2 := (wT cs ad s32)) 18 0 dX2_become_149 wlaT_18 (tI hty) h31 (wlsT_18.trans (congrArg (wT cs ad) e_s32)) ?_
      refine g_iinc (lv2 := [(2, .int (x14 + 1)), (0, .ref (ad 11)), (1, .ref (ad 3))]) 2 dX2_become_150 rfl (ii1 _) (by decide) rfl ?_
      refine g_goto (tgt := 94) dX2_become_153 (by decide) ?_
      exact g_sub [1, 2, 0] rfl (ih (x14 + 1) s32 hf)

set_option maxHeartbeats 4000000 in
set_option maxRecDepth 100000 in
theorem w_X2_become_11_3_L34 {E : GE} {cs : CS} {ad : Nat → Nat} {F : Nat} {r : ST} (hty : eT E = tyA cs) (hr : Rv E kX2_become (wT cs ad r)) : ∀ (n : Nat) (x9 : Int32) (s10 : ST), f_X2_become_11_3_L34 F n x9 s10 = some r → G E kX2_become 0 0 34 [(0, .ref (ad 11)), (1, .ref (ad 3)), (2, .int x9)] [] (wT cs ad s10) := by
  intro n
  induction n with
  | zero =>
    intro x9 s10 hf
    cases (show (none : Option ST) = some r from hf)
  | succ n ih =>
    intro x9 s10 hf
    rw [f_X2_become_11_3_L34] at hf
    refine g_iload_n 2 dX2_become_34 rfl rfl ?_
    refine g_aload_n 0 dX2_become_35 rfl rfl ?_
    refine g_get (ci := 2) (T := TX2) (N := 12) 11 3 (.int (M_stalls (T_market s10))) dX2_become_36 iX2_become_X2 rfl jX2_become_46 (by decide) wlaT_11 rfl ?_
    refine g_icmp_ge (tgt := 84) dX2_become_39 (by decide) (fun h11 => ?_) (fun h11 => ?_)
    · have hf := ift h11 hf
      refine g_aload_n 0 dX2_become_84 rfl rfl ?_
      refine g_aload_n 1 dX2_become_85 rfl rfl ?_
      refine g_get (ci := 2) (T := TX2) (N := 12) 3 7 (.int (M_ways (R_into (T_reader s10)))) dX2_become_86 iX2_become_X2 rfl jX2_become_49 (by decide) wlaT_3 rfl ?_
      obtain ⟨z12, e_z12, hf⟩ := olt_some hf
      refine g_cast rfl rfl (congrArg (fun q => Value.int q :: [.ref (ad 11)]) e_z12) rfl ?_
      obtain ⟨s13, e_s13, hf⟩ := olt_some hf
      refine g_put (ci := 2) (T := TX2) (N := 12) (ty := .int) (w2 := (wT cs ad s13)) 11 7 (.int z12) tyX2 dX2_become_89 iX2_become_X2 tyX2_ok nmX2 rfl jX2_become_49 (by decide) rfl rfl rfl rfl wlaT_11 (Nat.le_of_ble_eq_true rfl) (wlpT_11_7.trans (congrArg (wT cs ad) e_s13)) ?_
      refine g_iconst (v := (0 : Int32)) dX2_become_92 (by decide) ?_
      refine g_istore_n (lv2 := [(2, .int (0 : Int32)), (0, .ref (ad 11)), (1, .ref (ad 3))]) dX2_become_93 rfl (by decide) rfl ?_
      exact g_sub [1, 2, 0] rfl (w_X2_become_11_3_L94 hty hr F (0 : Int32) s13 hf)
    · have hf := iff_ h11 hf
      refine g_aload_n 0 dX2_become_42 rfl rfl ?_
      refine g_get (ci := 2) (T := TX2) (N := 12) 11 4 (.ref (ad 12)) dX2_become_43 iX2_become_X2 rfl jX2_become_9 (by decide) wlaT_11 rfl ?_
      refine g_iload_n 2 dX2_become_46 rfl rfl ?_
      refine g_aload_n 1 dX2_become_47 rfl rfl ?_
      refine g_get (ci := 2) (T := TX2) (N := 12) 3 4 (.ref (ad 4)) dX2_become_48 iX2_become_X2 rfl jX2_become_9 (by decide) wlaT_3 rfl ?_
      refine g_iload_n 2 dX2_become_51 rfl rfl ?_
      obtain ⟨h33, hf⟩ := ochi_some hf
      refine g_iald 4 0 dX2_become_52 wlaT_4 (tI hty) h33 ?_
      obtain ⟨z34, e_z34, hf⟩ := olt_some hf
      refine g_cast rfl rfl (congrArg (fun q => Value.int q :: [.int x9, .ref (ad 12)]) e_z34) rfl ?_
      obtain ⟨h35, hf⟩ := ochi_some hf
      obtain ⟨s36, e_s36, hf⟩ := olt_some hf
      refine g_iast (w2 := (wT cs ad s36)) 12 0 dX2_become_53 wlaT_12 (tI hty) h35 (wlsT_12.trans (congrArg (wT cs ad) e_s36)) ?_
      refine g_aload_n 0 dX2_become_54 rfl rfl ?_
      refine g_get (ci := 2) (T := TX2) (N := 12) 11 5 (.ref (ad 13)) dX2_become_55 iX2_become_X2 rfl jX2_become_15 (by decide) wlaT_11 rfl ?_
      refine g_iload_n 2 dX2_become_58 rfl rfl ?_
      refine g_aload_n 1 dX2_become_59 rfl rfl ?_
      refine g_get (ci := 2) (T := TX2) (N := 12) 3 5 (.ref (ad 5)) dX2_become_60 iX2_become_X2 rfl jX2_become_15 (by decide) wlaT_3 rfl ?_
      refine g_iload_n 2 dX2_become_63 rfl rfl ?_
      obtain ⟨h37, hf⟩ := ochi_some hf
      refine g_iald 5 0 dX2_become_64 wlaT_5 (tI hty) h37 ?_
      obtain ⟨z38, e_z38, hf⟩ := olt_some hf
      refine g_cast rfl rfl (congrArg (fun q => Value.int q :: [.int x9, .ref (ad 13)]) e_z38) rfl ?_
      obtain ⟨h39, hf⟩ := ochi_some hf
      obtain ⟨s40, e_s40, hf⟩ := olt_some hf
      refine g_iast (w2 := (wT cs ad s40)) 13 0 dX2_become_65 wlaT_13 (tI hty) h39 (wlsT_13.trans (congrArg (wT cs ad) e_s40)) ?_
      refine g_aload_n 0 dX2_become_66 rfl rfl ?_
      refine g_get (ci := 2) (T := TX2) (N := 12) 11 6 (.ref (ad 14)) dX2_become_67 iX2_become_X2 rfl jX2_become_18 (by decide) wlaT_11 rfl ?_
      refine g_iload_n 2 dX2_become_70 rfl rfl ?_
      refine g_aload_n 1 dX2_become_71 rfl rfl ?_
      refine g_get (ci := 2) (T := TX2) (N := 12) 3 6 (.ref (ad 6)) dX2_become_72 iX2_become_X2 rfl jX2_become_18 (by decide) wlaT_3 rfl ?_
      refine g_iload_n 2 dX2_become_75 rfl rfl ?_
      obtain ⟨h41, hf⟩ := ochi_some hf
      refine g_iald 6 0 dX2_become_76 wlaT_6 (tI hty) h41 ?_
      obtain ⟨z42, e_z42, hf⟩ := olt_some hf
      refine g_cast rfl rfl (congrArg (fun q => Value.int q :: [.int x9, .ref (ad 14)]) e_z42) rfl ?_
      obtain ⟨h43, hf⟩ := ochi_some hf
      obtain ⟨s44, e_s44, hf⟩ := olt_some hf
      refine g_iast (w2 := (wT cs ad s44)) 14 0 dX2_become_77 wlaT_14 (tI hty) h43 (wlsT_14.trans (congrArg (wT cs ad) e_s44)) ?_
      refine g_iinc (lv2 := [(2, .int (x9 + 1)), (0, .ref (ad 11)), (1, .ref (ad 3))]) 2 dX2_become_78 rfl (ii1 _) (by decide) rfl ?_
      refine g_goto (tgt := 34) dX2_become_81 (by decide) ?_
      exact g_sub [1, 2, 0] rfl (ih (x9 + 1) s44 hf)

set_option maxHeartbeats 4000000 in
set_option maxRecDepth 100000 in
theorem c_X2_become_11_3 {l : Launch} {D : va_G} {tys : List (ClassId × FieldType)} {X : XT} {cs : CS} (ad : Nat → Nat) {F : Nat} {s : ST} {r : ST} (htyM : tys = tyA cs) (hf : f_X2_become_11_3 F s = some r) : Cv l D tys X yX2_become wsX2_become rmX2_become [.ref (ad 11), .ref (ad 3)] (wT cs ad s) (wT cs ad r) := by
  refine Cv_ofG (by decide +kernel) rfl (Nat.le_of_ble_eq_true rfl) (fun E _ _ hty0 hX0 hr => ?_)
  have hty := hty0.trans htyM
  have hr : Rv E kX2_become (wT cs ad r) := hr
  show G E kX2_become 0 0 0 [(0, .ref (ad 11)), (1, .ref (ad 3))] [] (wT cs ad s)
  unfold f_X2_become_11_3 at hf
  refine g_aload_n 0 dX2_become_0 rfl rfl ?_
  refine g_aload_n 1 dX2_become_1 rfl rfl ?_
  refine g_get (ci := 2) (T := TX2) (N := 12) 3 0 (.int (M_less (R_into (T_reader s)))) dX2_become_2 iX2_become_X2 rfl jX2_become_36 (by decide) wlaT_3 rfl ?_
  obtain ⟨z1, e_z1, hf⟩ := olt_some hf
  refine g_cast rfl rfl (congrArg (fun q => Value.int q :: [.ref (ad 11)]) e_z1) rfl ?_
  obtain ⟨s2, e_s2, hf⟩ := olt_some hf
  refine g_put (ci := 2) (T := TX2) (N := 12) (ty := .int) (w2 := (wT cs ad s2)) 11 0 (.int z1) tyX2 dX2_become_5 iX2_become_X2 tyX2_ok nmX2 rfl jX2_become_36 (by decide) rfl rfl rfl rfl wlaT_11 (Nat.le_of_ble_eq_true rfl) (wlpT_11_0.trans (congrArg (wT cs ad) e_s2)) ?_
  refine g_aload_n 0 dX2_become_8 rfl rfl ?_
  refine g_aload_n 1 dX2_become_9 rfl rfl ?_
  refine g_get (ci := 2) (T := TX2) (N := 12) 3 1 (.int (M_just (R_into (T_reader s2)))) dX2_become_10 iX2_become_X2 rfl jX2_become_40 (by decide) wlaT_3 rfl ?_
  obtain ⟨z3, e_z3, hf⟩ := olt_some hf
  refine g_cast rfl rfl (congrArg (fun q => Value.int q :: [.ref (ad 11)]) e_z3) rfl ?_
  obtain ⟨s4, e_s4, hf⟩ := olt_some hf
  refine g_put (ci := 2) (T := TX2) (N := 12) (ty := .int) (w2 := (wT cs ad s4)) 11 1 (.int z3) tyX2 dX2_become_13 iX2_become_X2 tyX2_ok nmX2 rfl jX2_become_40 (by decide) rfl rfl rfl rfl wlaT_11 (Nat.le_of_ble_eq_true rfl) (wlpT_11_1.trans (congrArg (wT cs ad) e_s4)) ?_
  refine g_aload_n 0 dX2_become_16 rfl rfl ?_
  refine g_aload_n 1 dX2_become_17 rfl rfl ?_
  refine g_get (ci := 2) (T := TX2) (N := 12) 3 2 (.int (M_more (R_into (T_reader s4)))) dX2_become_18 iX2_become_X2 rfl jX2_become_43 (by decide) wlaT_3 rfl ?_
  obtain ⟨z5, e_z5, hf⟩ := olt_some hf
  refine g_cast rfl rfl (congrArg (fun q => Value.int q :: [.ref (ad 11)]) e_z5) rfl ?_
  obtain ⟨s6, e_s6, hf⟩ := olt_some hf
  refine g_put (ci := 2) (T := TX2) (N := 12) (ty := .int) (w2 := (wT cs ad s6)) 11 2 (.int z5) tyX2 dX2_become_21 iX2_become_X2 tyX2_ok nmX2 rfl jX2_become_43 (by decide) rfl rfl rfl rfl wlaT_11 (Nat.le_of_ble_eq_true rfl) (wlpT_11_2.trans (congrArg (wT cs ad) e_s6)) ?_
  refine g_aload_n 0 dX2_become_24 rfl rfl ?_
  refine g_aload_n 1 dX2_become_25 rfl rfl ?_
  refine g_get (ci := 2) (T := TX2) (N := 12) 3 3 (.int (M_stalls (R_into (T_reader s6)))) dX2_become_26 iX2_become_X2 rfl jX2_become_46 (by decide) wlaT_3 rfl ?_
  obtain ⟨z7, e_z7, hf⟩ := olt_some hf
  refine g_cast rfl rfl (congrArg (fun q => Value.int q :: [.ref (ad 11)]) e_z7) rfl ?_
  obtain ⟨s8, e_s8, hf⟩ := olt_some hf
  refine g_put (ci := 2) (T := TX2) (N := 12) (ty := .int) (w2 := (wT cs ad s8)) 11 3 (.int z7) tyX2 dX2_become_29 iX2_become_X2 tyX2_ok nmX2 rfl jX2_become_46 (by decide) rfl rfl rfl rfl wlaT_11 (Nat.le_of_ble_eq_true rfl) (wlpT_11_3.trans (congrArg (wT cs ad) e_s8)) ?_
  refine g_iconst (v := (0 : Int32)) dX2_become_32 (by decide) ?_
  refine g_istore_n (lv2 := [(2, .int (0 : Int32)), (0, .ref (ad 11)), (1, .ref (ad 3))]) dX2_become_33 rfl (by decide) rfl ?_
  exact g_sub [1, 2, 0] rfl (w_X2_become_11_3_L34 hty hr F (0 : Int32) s8 hf)

-- ThumbScale$Book become (LThumbScale$Book;)V
def rmX0_become : Room := { frames := 0, cells := 0, slots := 0, locals := 0 }
def kX0_become : MK := (cX0_become, 3, RX0, wsX0_become, none, rmX0_become)

set_option maxRecDepth 20000 in
theorem jX0_become_39 : Cond.fieldLink RX0 39 (TX0 0).1 (TX0 0).2.1 (TX0 0).2.2.1 ∈ wsX0_become := by decide +kernel
set_option maxRecDepth 20000 in
theorem iX0_become_X0 : ∀ x ∈ u_ws RX0 TX0 15, x ∈ wsX0_become := by decide +kernel
set_option maxRecDepth 20000 in
theorem jX0_become_43 : Cond.fieldLink RX0 43 (TX0 7).1 (TX0 7).2.1 (TX0 7).2.2.1 ∈ wsX0_become := by decide +kernel
set_option maxRecDepth 20000 in
theorem jX0_become_46 : Cond.fieldLink RX0 46 (TX0 11).1 (TX0 11).2.1 (TX0 11).2.2.1 ∈ wsX0_become := by decide +kernel
set_option maxRecDepth 20000 in
theorem jX0_become_49 : Cond.fieldLink RX0 49 (TX0 12).1 (TX0 12).2.1 (TX0 12).2.2.1 ∈ wsX0_become := by decide +kernel
set_option maxRecDepth 20000 in
theorem jX0_become_53 : Cond.fieldLink RX0 53 (TX0 13).1 (TX0 13).2.1 (TX0 13).2.2.1 ∈ wsX0_become := by decide +kernel
set_option maxRecDepth 20000 in
theorem jX0_become_56 : Cond.fieldLink RX0 56 (TX0 14).1 (TX0 14).2.1 (TX0 14).2.2.1 ∈ wsX0_become := by decide +kernel
set_option maxRecDepth 20000 in
theorem jX0_become_30 : Cond.fieldLink RX0 30 (TX0 8).1 (TX0 8).2.1 (TX0 8).2.2.1 ∈ wsX0_become := by decide +kernel
set_option maxRecDepth 20000 in
theorem jX0_become_33 : Cond.fieldLink RX0 33 (TX0 9).1 (TX0 9).2.1 (TX0 9).2.2.1 ∈ wsX0_become := by decide +kernel
set_option maxRecDepth 20000 in
theorem jX0_become_36 : Cond.fieldLink RX0 36 (TX0 10).1 (TX0 10).2.1 (TX0 10).2.2.1 ∈ wsX0_become := by decide +kernel
set_option maxRecDepth 20000 in
theorem jX0_become_9 : Cond.fieldLink RX0 9 (TX0 1).1 (TX0 1).2.1 (TX0 1).2.2.1 ∈ wsX0_become := by decide +kernel
set_option maxRecDepth 20000 in
theorem jX0_become_15 : Cond.fieldLink RX0 15 (TX0 2).1 (TX0 2).2.1 (TX0 2).2.2.1 ∈ wsX0_become := by decide +kernel
set_option maxRecDepth 20000 in
theorem jX0_become_18 : Cond.fieldLink RX0 18 (TX0 3).1 (TX0 3).2.1 (TX0 3).2.2.1 ∈ wsX0_become := by decide +kernel
set_option maxRecDepth 20000 in
theorem jX0_become_21 : Cond.fieldLink RX0 21 (TX0 4).1 (TX0 4).2.1 (TX0 4).2.2.1 ∈ wsX0_become := by decide +kernel
set_option maxRecDepth 20000 in
theorem jX0_become_24 : Cond.fieldLink RX0 24 (TX0 5).1 (TX0 5).2.1 (TX0 5).2.2.1 ∈ wsX0_become := by decide +kernel
set_option maxRecDepth 20000 in
theorem jX0_become_27 : Cond.fieldLink RX0 27 (TX0 6).1 (TX0 6).2.1 (TX0 6).2.2.1 ∈ wsX0_become := by decide +kernel
def f_X0_become_32_20_L106 (F : Nat) : Nat → Int32 → ST → Option ST
  | 0, _, _ => none
  | n + 1, x8, s9 =>
    (if (B_trials (T_img0 s9)) ≤ x8 then
    olt (B_looks (T_book s9)) (fun z11 =>
    olt (uT_img0 s9 (uB_looks (T_img0 s9) z11)) (fun s12 =>
    olt (B_lookRows (T_book s12)) (fun z13 =>
    olt (uT_img0 s12 (uB_lookRows (T_img0 s12) z13)) (fun s14 =>
    olt (B_lookAll (T_book s14)) (fun z15 =>
    olt (uT_img0 s14 (uB_lookAll (T_img0 s14) z15)) (fun s16 =>
    olt (B_lot (T_book s16)) (fun z17 =>
    olt (uT_img0 s16 (uB_lot (T_img0 s16) z17)) (fun s18 =>
    some s18))))))))
    else
    ochi x8 20 (
    olt ((B_trialStall (T_book s9)) (Int32.toNatClampNeg x8)) (fun z20 =>
    ochi x8 20 (olt (uT_img0 s9 (uB_trialStall (T_img0 s9) (upd (B_trialStall (T_img0 s9)) (Int32.toNatClampNeg x8) z20))) (fun s22 =>
    ochi x8 20 (
    olt ((B_trialDay (T_book s22)) (Int32.toNatClampNeg x8)) (fun z24 =>
    ochi x8 20 (olt (uT_img0 s22 (uB_trialDay (T_img0 s22) (upd (B_trialDay (T_img0 s22)) (Int32.toNatClampNeg x8) z24))) (fun s26 =>
    ochi x8 20 (
    olt ((B_trialOff (T_book s26)) (Int32.toNatClampNeg x8)) (fun z28 =>
    ochi x8 20 (olt (uT_img0 s26 (uB_trialOff (T_img0 s26) (upd (B_trialOff (T_img0 s26)) (Int32.toNatClampNeg x8) z28))) (fun s30 =>
    f_X0_become_32_20_L106 F n (x8 + 1) s30)))))))))))))

def f_X0_become_32_20_L10 (F : Nat) : Nat → Int32 → ST → Option ST
  | 0, _, _ => none
  | n + 1, x3, s4 =>
    (if (B_bags (T_img0 s4)) ≤ x3 then
    olt (B_trials (T_book s4)) (fun z6 =>
    olt (uT_img0 s4 (uB_trials (T_img0 s4) z6)) (fun s7 =>
    f_X0_become_32_20_L106 F F (0 : Int32) s7))
    else
    ochi x3 30 (
    olt ((B_bagStall (T_book s4)) (Int32.toNatClampNeg x3)) (fun z32 =>
    ochi x3 30 (olt (uT_img0 s4 (uB_bagStall (T_img0 s4) (upd (B_bagStall (T_img0 s4)) (Int32.toNatClampNeg x3) z32))) (fun s34 =>
    ochi x3 30 (
    olt ((B_bagHour (T_book s34)) (Int32.toNatClampNeg x3)) (fun z36 =>
    ochi x3 30 (olt (uT_img0 s34 (uB_bagHour (T_img0 s34) (upd (B_bagHour (T_img0 s34)) (Int32.toNatClampNeg x3) z36))) (fun s38 =>
    ochi x3 30 (
    olt ((B_bagSort (T_book s38)) (Int32.toNatClampNeg x3)) (fun z40 =>
    ochi x3 30 (olt (uT_img0 s38 (uB_bagSort (T_img0 s38) (upd (B_bagSort (T_img0 s38)) (Int32.toNatClampNeg x3) z40))) (fun s42 =>
    ochi x3 30 (
    olt ((B_bagTold (T_book s42)) (Int32.toNatClampNeg x3)) (fun z44 =>
    ochi x3 30 (olt (uT_img0 s42 (uB_bagTold (T_img0 s42) (upd (B_bagTold (T_img0 s42)) (Int32.toNatClampNeg x3) z44))) (fun s46 =>
    ochi x3 30 (
    olt ((B_bagShort (T_book s46)) (Int32.toNatClampNeg x3)) (fun z48 =>
    ochi x3 30 (olt (uT_img0 s46 (uB_bagShort (T_img0 s46) (upd (B_bagShort (T_img0 s46)) (Int32.toNatClampNeg x3) z48))) (fun s50 =>
    ochi x3 30 (
    olt ((B_bagSteps (T_book s50)) (Int32.toNatClampNeg x3)) (fun z52 =>
    ochi x3 30 (olt (uT_img0 s50 (uB_bagSteps (T_img0 s50) (upd (B_bagSteps (T_img0 s50)) (Int32.toNatClampNeg x3) z52))) (fun s54 =>
    f_X0_become_32_20_L10 F n (x3 + 1) s54)))))))))))))))))))))))))

def f_X0_become_32_20 (F : Nat) (s : ST) : Option ST :=
    olt (B_bags (T_book s)) (fun z1 =>
    olt (uT_img0 s (uB_bags (T_img0 s) z1)) (fun s2 =>
    f_X0_become_32_20_L10 F F (0 : Int32) s2))

set_option maxHeartbeats 4000000 in
set_option maxRecDepth 100000 in
theorem w_X0_become_32_20_L106 {E : GE} {cs : CS} {ad : Nat → Nat} {F : Nat} {r : ST} (hty : eT E = tyA cs) (hr : Rv E kX0_become (wT cs ad r)) : ∀ (n : Nat) (x8 : Int32) (s9 : ST), f_X0_become_32_20_L106 F n x8 s9 = some r → G E kX0_become 0 0 106 [(0, .ref (ad 32)), (1, .ref (ad 20)), (2, .int x8)] [] (wT cs ad s9) := by
  intro n
  induction n with
  | zero =>
    intro x8 s9 hf
    cases (show (none : Option ST) = some r from hf)
  | succ n ih =>
    intro x8 s9 hf
    rw [f_X0_become_32_20_L106] at hf
    refine g_iload_n 2 dX0_become_106 rfl rfl ?_
    refine g_aload_n 0 dX0_become_107 rfl rfl ?_
    refine g_get (ci := 0) (T := TX0) (N := 15) 32 7 (.int (B_trials (T_img0 s9))) dX0_become_108 iX0_become_X0 rfl jX0_become_43 (by decide) wlaT_32 rfl ?_
    refine g_icmp_ge (tgt := 156) dX0_become_111 (by decide) (fun h10 => ?_) (fun h10 => ?_)
    · have hf := ift h10 hf
      refine g_aload_n 0 dX0_become_156 rfl rfl ?_
      refine g_aload_n 1 dX0_become_157 rfl rfl ?_
      refine g_get (ci := 0) (T := TX0) (N := 15) 20 11 (.int (B_looks (T_book s9))) dX0_become_158 iX0_become_X0 rfl jX0_become_46 (by decide) wlaT_20 rfl ?_
      obtain ⟨z11, e_z11, hf⟩ := olt_some hf
      refine g_cast rfl rfl (congrArg (fun q => Value.int q :: [.ref (ad 32)]) e_z11) rfl ?_
      obtain ⟨s12, e_s12, hf⟩ := olt_some hf
      refine g_put (ci := 0) (T := TX0) (N := 15) (ty := .int) (w2 := (wT cs ad s12)) 32 11 (.int z11) tyX0 dX0_become_161 iX0_become_X0 tyX0_ok nmX0 rfl jX0_become_46 (by decide) rfl rfl rfl rfl wlaT_32 (Nat.le_of_ble_eq_true rfl) (wlpT_32_11.trans (congrArg (wT cs ad) e_s12)) ?_
      refine g_aload_n 0 dX0_become_164 rfl rfl ?_
      refine g_aload_n 1 dX0_become_165 rfl rfl ?_
      refine g_get (ci := 0) (T := TX0) (N := 15) 20 12 (.long (B_lookRows (T_book s12))) dX0_become_166 iX0_become_X0 rfl jX0_become_49 (by decide) wlaT_20 rfl ?_
      obtain ⟨z13, e_z13, hf⟩ := olt_some hf
      refine g_cast rfl rfl (congrArg (fun q => Value.long q :: [.ref (ad 32)]) e_z13) rfl ?_
      obtain ⟨s14, e_s14, hf⟩ := olt_some hf
      refine g_put (ci := 0) (T := TX0) (N := 15) (ty := .long) (w2 := (wT cs ad s14)) 32 12 (.long z13) tyX0 dX0_become_169 iX0_become_X0 tyX0_ok nmX0 rfl jX0_become_49 (by decide) rfl rfl rfl rfl wlaT_32 (Nat.le_of_ble_eq_true rfl) (wlpT_32_12.trans (congrArg (wT cs ad) e_s14)) ?_
      refine g_aload_n 0 dX0_become_172 rfl rfl ?_
      refine g_aload_n 1 dX0_become_173 rfl rfl ?_
      refine g_get (ci := 0) (T := TX0) (N := 15) 20 13 (.long (B_lookAll (T_book s14))) dX0_become_174 iX0_become_X0 rfl jX0_become_53 (by decide) wlaT_20 rfl ?_
      obtain ⟨z15, e_z15, hf⟩ := olt_some hf
      refine g_cast rfl rfl (congrArg (fun q => Value.long q :: [.ref (ad 32)]) e_z15) rfl ?_
      obtain ⟨s16, e_s16, hf⟩ := olt_some hf
      refine g_put (ci := 0) (T := TX0) (N := 15) (ty := .long) (w2 := (wT cs ad s16)) 32 13 (.long z15) tyX0 dX0_become_177 iX0_become_X0 tyX0_ok nmX0 rfl jX0_become_53 (by decide) rfl rfl rfl rfl wlaT_32 (Nat.le_of_ble_eq_true rfl) (wlpT_32_13.trans (congrArg (wT cs ad) e_s16)) ?_
      refine g_aload_n 0 dX0_become_180 rfl rfl ?_
      refine g_aload_n 1 dX0_become_181 rfl rfl ?_
      refine g_get (ci := 0) (T := TX0) (N := 15) 20 14 (.int (B_lot (T_book s16))) dX0_become_182 iX0_become_X0 rfl jX0_become_56 (by decide) wlaT_20 rfl ?_
      obtain ⟨z17, e_z17, hf⟩ := olt_some hf
      refine g_cast rfl rfl (congrArg (fun q => Value.int q :: [.ref (ad 32)]) e_z17) rfl ?_
      obtain ⟨s18, e_s18, hf⟩ := olt_some hf
      refine g_put (ci := 0) (T := TX0) (N := 15) (ty := .int) (w2 := (wT cs ad s18)) 32 14 (.int z17) tyX0 dX0_become_185 iX0_become_X0 tyX0_ok nmX0 rfl jX0_become_56 (by decide) rfl rfl rfl rfl wlaT_32 (Nat.le_of_ble_eq_true rfl) (wlpT_32_14.trans (congrArg (wT cs ad) e_s18)) ?_
      obtain rfl := Option.some.inj hf
      exact hr _ _ dX0_become_188
    · have hf := iff_ h10 hf
      refine g_aload_n 0 dX0_become_114 rfl rfl ?_
      refine g_get (ci := 0) (T := TX0) (N := 15) 32 8 (.ref (ad 39)) dX0_become_115 iX0_become_X0 rfl jX0_become_30 (by decide) wlaT_32 rfl ?_
      refine g_iload_n 2 dX0_become_118 rfl rfl ?_
      refine g_aload_n 1 dX0_become_119 rfl rfl ?_
      refine g_get (ci := 0) (T := TX0) (N := 15) 20 8 (.ref (ad 27)) dX0_become_120 iX0_become_X0 rfl jX0_become_30 (by decide) wlaT_20 rfl ?_
      refine g_iload_n 2 dX0_become_123 rfl rfl ?_
      obtain ⟨h19, hf⟩ := ochi_some hf
      refine g_iald 27 0 dX0_become_124 wlaT_27 (tI hty) h19 ?_
      obtain ⟨z20, e_z20, hf⟩ := olt_some hf
      refine g_cast rfl rfl (congrArg (fun q => Value.int q :: [.int x8, .ref (ad 39)]) e_z20) rfl ?_
      obtain ⟨h21, hf⟩ := ochi_some hf
      obtain ⟨s22, e_s22, hf⟩ := olt_some hf
      refine g_iast (w2 := (wT cs ad s22)) 39 0 dX0_become_125 wlaT_39 (tI hty) h21 (wlsT_39.trans (congrArg (wT cs ad) e_s22)) ?_
      refine g_aload_n 0 dX0_become_126 rfl rfl ?_
      refine g_get (ci := 0) (T := TX0) (N := 15) 32 9 (.ref (ad 40)) dX0_become_127 iX0_become_X0 rfl jX0_become_33 (by decide) wlaT_32 rfl ?_
      refine g_iload_n 2 dX0_become_130 rfl rfl ?_
      refine g_aload_n 1 dX0_become_131 rfl rfl ?_
      refine g_get (ci := 0) (T := TX0) (N := 15) 20 9 (.ref (ad 28)) dX0_become_132 iX0_become_X0 rfl jX0_become_33 (by decide) wlaT_20 rfl ?_
      refine g_iload_n 2 dX0_become_135 rfl rfl ?_
      obtain ⟨h23, hf⟩ := ochi_some hf
      refine g_iald 28 0 dX0_become_136 wlaT_28 (tI hty) h23 ?_
      obtain ⟨z24, e_z24, hf⟩ := olt_some hf
      refine g_cast rfl rfl (congrArg (fun q => Value.int q :: [.int x8, .ref (ad 40)]) e_z24) rfl ?_
      obtain ⟨h25, hf⟩ := ochi_some hf
      obtain ⟨s26, e_s26, hf⟩ := olt_some hf
      refine g_iast (w2 := (wT cs ad s26)) 40 0 dX0_become_137 wlaT_40 (tI hty) h25 (wlsT_40.trans (congrArg (wT cs ad) e_s26)) ?_
      refine g_aload_n 0 dX0_become_138 rfl rfl ?_
      refine g_get (ci := 0) (T := TX0) (N := 15) 32 10 (.ref (ad 41)) dX0_become_139 iX0_become_X0 rfl jX0_become_36 (by decide) wlaT_32 rfl ?_
      refine g_iload_n 2 dX0_become_142 rfl rfl ?_
      refine g_aload_n 1 dX0_become_143 rfl rfl ?_
      refine g_get (ci := 0) (T := TX0) (N := 15) 20 10 (.ref (ad 29)) dX0_become_144 iX0_become_X0 rfl jX0_become_36 (by decide) wlaT_20 rfl ?_
      refine g_iload_n 2 dX0_become_147 rfl rfl ?_
      obtain ⟨h27, hf⟩ := ochi_some hf
      refine g_iald 29 0 dX0_become_148 wlaT_29 (tI hty) h27 ?_
      obtain ⟨z28, e_z28, hf⟩ := olt_some hf
      refine g_cast rfl rfl (congrArg (fun q => Value.int q :: [.int x8, .ref (ad 41)]) e_z28) rfl ?_
      obtain ⟨h29, hf⟩ := ochi_some hf
      obtain ⟨s30, e_s30, hf⟩ := olt_some hf
      refine g_iast (w2 := (wT cs ad s30)) 41 0 dX0_become_149 wlaT_41 (tI hty) h29 (wlsT_41.trans (congrArg (wT cs ad) e_s30)) ?_
      refine g_iinc (lv2 := [(2, .int (x8 + 1)), (0, .ref (ad 32)), (1, .ref (ad 20))]) 2 dX0_become_150 rfl (ii1 _) (by decide) rfl ?_
      refine g_goto (tgt := 106) dX0_become_153 (by decide) ?_
      exact g_sub [1, 2, 0] rfl (ih (x8 + 1) s30 hf)

set_option maxHeartbeats 4000000 in
set_option maxRecDepth 100000 in
theorem w_X0_become_32_20_L10 {E : GE} {cs : CS} {ad : Nat → Nat} {F : Nat} {r : ST} (hty : eT E = tyA cs) (hr : Rv E kX0_become (wT cs ad r)) : ∀ (n : Nat) (x3 : Int32) (s4 : ST), f_X0_become_32_20_L10 F n x3 s4 = some r → G E kX0_become 0 0 10 [(0, .ref (ad 32)), (1, .ref (ad 20)), (2, .int x3)] [] (wT cs ad s4) := by
  intro n
  induction n with
  | zero =>
    intro x3 s4 hf
    cases (show (none : Option ST) = some r from hf)
  | succ n ih =>
    intro x3 s4 hf
    rw [f_X0_become_32_20_L10] at hf
    refine g_iload_n 2 dX0_become_10 rfl rfl ?_
    refine g_aload_n 0 dX0_become_11 rfl rfl ?_
    refine g_get (ci := 0) (T := TX0) (N := 15) 32 0 (.int (B_bags (T_img0 s4))) dX0_become_12 iX0_become_X0 rfl jX0_become_39 (by decide) wlaT_32 rfl ?_
    refine g_icmp_ge (tgt := 96) dX0_become_15 (by decide) (fun h5 => ?_) (fun h5 => ?_)
    · have hf := ift h5 hf
      refine g_aload_n 0 dX0_become_96 rfl rfl ?_
      refine g_aload_n 1 dX0_become_97 rfl rfl ?_
      refine g_get (ci := 0) (T := TX0) (N := 15) 20 7 (.int (B_trials (T_book s4))) dX0_become_98 iX0_become_X0 rfl jX0_become_43 (by decide) wlaT_20 rfl ?_
      obtain ⟨z6, e_z6, hf⟩ := olt_some hf
      refine g_cast rfl rfl (congrArg (fun q => Value.int q :: [.ref (ad 32)]) e_z6) rfl ?_
      obtain ⟨s7, e_s7, hf⟩ := olt_some hf
      refine g_put (ci := 0) (T := TX0) (N := 15) (ty := .int) (w2 := (wT cs ad s7)) 32 7 (.int z6) tyX0 dX0_become_101 iX0_become_X0 tyX0_ok nmX0 rfl jX0_become_43 (by decide) rfl rfl rfl rfl wlaT_32 (Nat.le_of_ble_eq_true rfl) (wlpT_32_7.trans (congrArg (wT cs ad) e_s7)) ?_
      refine g_iconst (v := (0 : Int32)) dX0_become_104 (by decide) ?_
      refine g_istore_n (lv2 := [(2, .int (0 : Int32)), (0, .ref (ad 32)), (1, .ref (ad 20))]) dX0_become_105 rfl (by decide) rfl ?_
      exact g_sub [1, 2, 0] rfl (w_X0_become_32_20_L106 hty hr F (0 : Int32) s7 hf)
    · have hf := iff_ h5 hf
      refine g_aload_n 0 dX0_become_18 rfl rfl ?_
      refine g_get (ci := 0) (T := TX0) (N := 15) 32 1 (.ref (ad 33)) dX0_become_19 iX0_become_X0 rfl jX0_become_9 (by decide) wlaT_32 rfl ?_
      refine g_iload_n 2 dX0_become_22 rfl rfl ?_
      refine g_aload_n 1 dX0_become_23 rfl rfl ?_
      refine g_get (ci := 0) (T := TX0) (N := 15) 20 1 (.ref (ad 21)) dX0_become_24 iX0_become_X0 rfl jX0_become_9 (by decide) wlaT_20 rfl ?_
      refine g_iload_n 2 dX0_become_27 rfl rfl ?_
      obtain ⟨h31, hf⟩ := ochi_some hf
      refine g_iald 21 0 dX0_become_28 wlaT_21 (tI hty) h31 ?_
      obtain ⟨z32, e_z32, hf⟩ := olt_some hf
      refine g_cast rfl rfl (congrArg (fun q => Value.int q :: [.int x3, .ref (ad 33)]) e_z32) rfl ?_
      obtain ⟨h33, hf⟩ := ochi_some hf
      obtain ⟨s34, e_s34, hf⟩ := olt_some hf
      refine g_iast (w2 := (wT cs ad s34)) 33 0 dX0_become_29 wlaT_33 (tI hty) h33 (wlsT_33.trans (congrArg (wT cs ad) e_s34)) ?_
      refine g_aload_n 0 dX0_become_30 rfl rfl ?_
      refine g_get (ci := 0) (T := TX0) (N := 15) 32 2 (.ref (ad 34)) dX0_become_31 iX0_become_X0 rfl jX0_become_15 (by decide) wlaT_32 rfl ?_
      refine g_iload_n 2 dX0_become_34 rfl rfl ?_
      refine g_aload_n 1 dX0_become_35 rfl rfl ?_
      refine g_get (ci := 0) (T := TX0) (N := 15) 20 2 (.ref (ad 22)) dX0_become_36 iX0_become_X0 rfl jX0_become_15 (by decide) wlaT_20 rfl ?_
      refine g_iload_n 2 dX0_become_39 rfl rfl ?_
      obtain ⟨h35, hf⟩ := ochi_some hf
      refine g_iald 22 0 dX0_become_40 wlaT_22 (tI hty) h35 ?_
      obtain ⟨z36, e_z36, hf⟩ := olt_some hf
      refine g_cast rfl rfl (congrArg (fun q => Value.int q :: [.int x3, .ref (ad 34)]) e_z36) rfl ?_
      obtain ⟨h37, hf⟩ := ochi_some hf
      obtain ⟨s38, e_s38, hf⟩ := olt_some hf
      refine g_iast (w2 := (wT cs ad s38)) 34 0 dX0_become_41 wlaT_34 (tI hty) h37 (wlsT_34.trans (congrArg (wT cs ad) e_s38)) ?_
      refine g_aload_n 0 dX0_become_42 rfl rfl ?_
      refine g_get (ci := 0) (T := TX0) (N := 15) 32 3 (.ref (ad 35)) dX0_become_43 iX0_become_X0 rfl jX0_become_18 (by decide) wlaT_32 rfl ?_
      refine g_iload_n 2 dX0_become_46 rfl rfl ?_
      refine g_aload_n 1 dX0_become_47 rfl rfl ?_
      refine g_get (ci := 0) (T := TX0) (N := 15) 20 3 (.ref (ad 23)) dX0_become_48 iX0_become_X0 rfl jX0_become_18 (by decide) wlaT_20 rfl ?_
      refine g_iload_n 2 dX0_become_51 rfl rfl ?_
      obtain ⟨h39, hf⟩ := ochi_some hf
      refine g_iald 23 0 dX0_become_52 wlaT_23 (tI hty) h39 ?_
      obtain ⟨z40, e_z40, hf⟩ := olt_some hf
      refine g_cast rfl rfl (congrArg (fun q => Value.int q :: [.int x3, .ref (ad 35)]) e_z40) rfl ?_
      obtain ⟨h41, hf⟩ := ochi_some hf
      obtain ⟨s42, e_s42, hf⟩ := olt_some hf
      refine g_iast (w2 := (wT cs ad s42)) 35 0 dX0_become_53 wlaT_35 (tI hty) h41 (wlsT_35.trans (congrArg (wT cs ad) e_s42)) ?_
      refine g_aload_n 0 dX0_become_54 rfl rfl ?_
      refine g_get (ci := 0) (T := TX0) (N := 15) 32 4 (.ref (ad 36)) dX0_become_55 iX0_become_X0 rfl jX0_become_21 (by decide) wlaT_32 rfl ?_
      refine g_iload_n 2 dX0_become_58 rfl rfl ?_
      refine g_aload_n 1 dX0_become_59 rfl rfl ?_
      refine g_get (ci := 0) (T := TX0) (N := 15) 20 4 (.ref (ad 24)) dX0_become_60 iX0_become_X0 rfl jX0_become_21 (by decide) wlaT_20 rfl ?_
      refine g_iload_n 2 dX0_become_63 rfl rfl ?_
      obtain ⟨h43, hf⟩ := ochi_some hf
      refine g_iald 24 0 dX0_become_64 wlaT_24 (tI hty) h43 ?_
      obtain ⟨z44, e_z44, hf⟩ := olt_some hf
      refine g_cast rfl rfl (congrArg (fun q => Value.int q :: [.int x3, .ref (ad 36)]) e_z44) rfl ?_
      obtain ⟨h45, hf⟩ := ochi_some hf
      obtain ⟨s46, e_s46, hf⟩ := olt_some hf
      refine g_iast (w2 := (wT cs ad s46)) 36 0 dX0_become_65 wlaT_36 (tI hty) h45 (wlsT_36.trans (congrArg (wT cs ad) e_s46)) ?_
      refine g_aload_n 0 dX0_become_66 rfl rfl ?_
      refine g_get (ci := 0) (T := TX0) (N := 15) 32 5 (.ref (ad 37)) dX0_become_67 iX0_become_X0 rfl jX0_become_24 (by decide) wlaT_32 rfl ?_
      refine g_iload_n 2 dX0_become_70 rfl rfl ?_
      refine g_aload_n 1 dX0_become_71 rfl rfl ?_
      refine g_get (ci := 0) (T := TX0) (N := 15) 20 5 (.ref (ad 25)) dX0_become_72 iX0_become_X0 rfl jX0_become_24 (by decide) wlaT_20 rfl ?_
      refine g_iload_n 2 dX0_become_75 rfl rfl ?_
      obtain ⟨h47, hf⟩ := ochi_some hf
      refine g_iald 25 0 dX0_become_76 wlaT_25 (tI hty) h47 ?_
      obtain ⟨z48, e_z48, hf⟩ := olt_some hf
      refine g_cast rfl rfl (congrArg (fun q => Value.int q :: [.int x3, .ref (ad 37)]) e_z48) rfl ?_
      obtain ⟨h49, hf⟩ := ochi_some hf
      obtain ⟨s50, e_s50, hf⟩ := olt_some hf
      refine g_iast (w2 := (wT cs ad s50)) 37 0 dX0_become_77 wlaT_37 (tI hty) h49 (wlsT_37.trans (congrArg (wT cs ad) e_s50)) ?_
      refine g_aload_n 0 dX0_become_78 rfl rfl ?_
      refine g_get (ci := 0) (T := TX0) (N := 15) 32 6 (.ref (ad 38)) dX0_become_79 iX0_become_X0 rfl jX0_become_27 (by decide) wlaT_32 rfl ?_
      refine g_iload_n 2 dX0_become_82 rfl rfl ?_
      refine g_aload_n 1 dX0_become_83 rfl rfl ?_
      refine g_get (ci := 0) (T := TX0) (N := 15) 20 6 (.ref (ad 26)) dX0_become_84 iX0_become_X0 rfl jX0_become_27 (by decide) wlaT_20 rfl ?_
      refine g_iload_n 2 dX0_become_87 rfl rfl ?_
      obtain ⟨h51, hf⟩ := ochi_some hf
      refine g_iald 26 0 dX0_become_88 wlaT_26 (tI hty) h51 ?_
      obtain ⟨z52, e_z52, hf⟩ := olt_some hf
      refine g_cast rfl rfl (congrArg (fun q => Value.int q :: [.int x3, .ref (ad 38)]) e_z52) rfl ?_
      obtain ⟨h53, hf⟩ := ochi_some hf
      obtain ⟨s54, e_s54, hf⟩ := olt_some hf
      refine g_iast (w2 := (wT cs ad s54)) 38 0 dX0_become_89 wlaT_38 (tI hty) h53 (wlsT_38.trans (congrArg (wT cs ad) e_s54)) ?_
      refine g_iinc (lv2 := [(2, .int (x3 + 1)), (0, .ref (ad 32)), (1, .ref (ad 20))]) 2 dX0_become_90 rfl (ii1 _) (by decide) rfl ?_
      refine g_goto (tgt := 10) dX0_become_93 (by decide) ?_
      exact g_sub [1, 2, 0] rfl (ih (x3 + 1) s54 hf)

set_option maxHeartbeats 4000000 in
set_option maxRecDepth 100000 in
theorem c_X0_become_32_20 {l : Launch} {D : va_G} {tys : List (ClassId × FieldType)} {X : XT} {cs : CS} (ad : Nat → Nat) {F : Nat} {s : ST} {r : ST} (htyM : tys = tyA cs) (hf : f_X0_become_32_20 F s = some r) : Cv l D tys X yX0_become wsX0_become rmX0_become [.ref (ad 32), .ref (ad 20)] (wT cs ad s) (wT cs ad r) := by
  refine Cv_ofG (by decide +kernel) rfl (Nat.le_of_ble_eq_true rfl) (fun E _ _ hty0 hX0 hr => ?_)
  have hty := hty0.trans htyM
  have hr : Rv E kX0_become (wT cs ad r) := hr
  show G E kX0_become 0 0 0 [(0, .ref (ad 32)), (1, .ref (ad 20))] [] (wT cs ad s)
  unfold f_X0_become_32_20 at hf
  refine g_aload_n 0 dX0_become_0 rfl rfl ?_
  refine g_aload_n 1 dX0_become_1 rfl rfl ?_
  refine g_get (ci := 0) (T := TX0) (N := 15) 20 0 (.int (B_bags (T_book s))) dX0_become_2 iX0_become_X0 rfl jX0_become_39 (by decide) wlaT_20 rfl ?_
  obtain ⟨z1, e_z1, hf⟩ := olt_some hf
  refine g_cast rfl rfl (congrArg (fun q => Value.int q :: [.ref (ad 32)]) e_z1) rfl ?_
  obtain ⟨s2, e_s2, hf⟩ := olt_some hf
  refine g_put (ci := 0) (T := TX0) (N := 15) (ty := .int) (w2 := (wT cs ad s2)) 32 0 (.int z1) tyX0 dX0_become_5 iX0_become_X0 tyX0_ok nmX0 rfl jX0_become_39 (by decide) rfl rfl rfl rfl wlaT_32 (Nat.le_of_ble_eq_true rfl) (wlpT_32_0.trans (congrArg (wT cs ad) e_s2)) ?_
  refine g_iconst (v := (0 : Int32)) dX0_become_8 (by decide) ?_
  refine g_istore_n (lv2 := [(2, .int (0 : Int32)), (0, .ref (ad 32)), (1, .ref (ad 20))]) dX0_become_9 rfl (by decide) rfl ?_
  exact g_sub [1, 2, 0] rfl (w_X0_become_32_20_L10 hty hr F (0 : Int32) s2 hf)

-- ThumbScale$Book become (LThumbScale$Book;)V

def f_X0_become_42_20_L106 (F : Nat) : Nat → Int32 → ST → Option ST
  | 0, _, _ => none
  | n + 1, x8, s9 =>
    (if (B_trials (T_img1 s9)) ≤ x8 then
    olt (B_looks (T_book s9)) (fun z11 =>
    olt (uT_img1 s9 (uB_looks (T_img1 s9) z11)) (fun s12 =>
    olt (B_lookRows (T_book s12)) (fun z13 =>
    olt (uT_img1 s12 (uB_lookRows (T_img1 s12) z13)) (fun s14 =>
    olt (B_lookAll (T_book s14)) (fun z15 =>
    olt (uT_img1 s14 (uB_lookAll (T_img1 s14) z15)) (fun s16 =>
    olt (B_lot (T_book s16)) (fun z17 =>
    olt (uT_img1 s16 (uB_lot (T_img1 s16) z17)) (fun s18 =>
    some s18))))))))
    else
    ochi x8 20 (
    olt ((B_trialStall (T_book s9)) (Int32.toNatClampNeg x8)) (fun z20 =>
    ochi x8 20 (olt (uT_img1 s9 (uB_trialStall (T_img1 s9) (upd (B_trialStall (T_img1 s9)) (Int32.toNatClampNeg x8) z20))) (fun s22 =>
    ochi x8 20 (
    olt ((B_trialDay (T_book s22)) (Int32.toNatClampNeg x8)) (fun z24 =>
    ochi x8 20 (olt (uT_img1 s22 (uB_trialDay (T_img1 s22) (upd (B_trialDay (T_img1 s22)) (Int32.toNatClampNeg x8) z24))) (fun s26 =>
    ochi x8 20 (
    olt ((B_trialOff (T_book s26)) (Int32.toNatClampNeg x8)) (fun z28 =>
    ochi x8 20 (olt (uT_img1 s26 (uB_trialOff (T_img1 s26) (upd (B_trialOff (T_img1 s26)) (Int32.toNatClampNeg x8) z28))) (fun s30 =>
    f_X0_become_42_20_L106 F n (x8 + 1) s30)))))))))))))

def f_X0_become_42_20_L10 (F : Nat) : Nat → Int32 → ST → Option ST
  | 0, _, _ => none
  | n + 1, x3, s4 =>
    (if (B_bags (T_img1 s4)) ≤ x3 then
    olt (B_trials (T_book s4)) (fun z6 =>
    olt (uT_img1 s4 (uB_trials (T_img1 s4) z6)) (fun s7 =>
    f_X0_become_42_20_L106 F F (0 : Int32) s7))
    else
    ochi x3 30 (
    olt ((B_bagStall (T_book s4)) (Int32.toNatClampNeg x3)) (fun z32 =>
    ochi x3 30 (olt (uT_img1 s4 (uB_bagStall (T_img1 s4) (upd (B_bagStall (T_img1 s4)) (Int32.toNatClampNeg x3) z32))) (fun s34 =>
    ochi x3 30 (
    olt ((B_bagHour (T_book s34)) (Int32.toNatClampNeg x3)) (fun z36 =>
    ochi x3 30 (olt (uT_img1 s34 (uB_bagHour (T_img1 s34) (upd (B_bagHour (T_img1 s34)) (Int32.toNatClampNeg x3) z36))) (fun s38 =>
    ochi x3 30 (
    olt ((B_bagSort (T_book s38)) (Int32.toNatClampNeg x3)) (fun z40 =>
    ochi x3 30 (olt (uT_img1 s38 (uB_bagSort (T_img1 s38) (upd (B_bagSort (T_img1 s38)) (Int32.toNatClampNeg x3) z40))) (fun s42 =>
    ochi x3 30 (
    olt ((B_bagTold (T_book s42)) (Int32.toNatClampNeg x3)) (fun z44 =>
    ochi x3 30 (olt (uT_img1 s42 (uB_bagTold (T_img1 s42) (upd (B_bagTold (T_img1 s42)) (Int32.toNatClampNeg x3) z44))) (fun s46 =>
    ochi x3 30 (
    olt ((B_bagShort (T_book s46)) (Int32.toNatClampNeg x3)) (fun z48 =>
    ochi x3 30 (olt (uT_img1 s46 (uB_bagShort (T_img1 s46) (upd (B_bagShort (T_img1 s46)) (Int32.toNatClampNeg x3) z48))) (fun s50 =>
    ochi x3 30 (
    olt ((B_bagSteps (T_book s50)) (Int32.toNatClampNeg x3)) (fun z52 =>
    ochi x3 30 (olt (uT_img1 s50 (uB_bagSteps (T_img1 s50) (upd (B_bagSteps (T_img1 s50)) (Int32.toNatClampNeg x3) z52))) (fun s54 =>
    f_X0_become_42_20_L10 F n (x3 + 1) s54)))))))))))))))))))))))))

def f_X0_become_42_20 (F : Nat) (s : ST) : Option ST :=
    olt (B_bags (T_book s)) (fun z1 =>
    olt (uT_img1 s (uB_bags (T_img1 s) z1)) (fun s2 =>
    f_X0_become_42_20_L10 F F (0 : Int32) s2))

set_option maxHeartbeats 4000000 in
set_option maxRecDepth 100000 in
theorem w_X0_become_42_20_L106 {E : GE} {cs : CS} {ad : Nat → Nat} {F : Nat} {r : ST} (hty : eT E = tyA cs) (hr : Rv E kX0_become (wT cs ad r)) : ∀ (n : Nat) (x8 : Int32) (s9 : ST), f_X0_become_42_20_L106 F n x8 s9 = some r → G E kX0_become 0 0 106 [(0, .ref (ad 42)), (1, .ref (ad 20)), (2, .int x8)] [] (wT cs ad s9) := by
  intro n
  induction n with
  | zero =>
    intro x8 s9 hf
    cases (show (none : Option ST) = some r from hf)
  | succ n ih =>
    intro x8 s9 hf
    rw [f_X0_become_42_20_L106] at hf
    refine g_iload_n 2 dX0_become_106 rfl rfl ?_
    refine g_aload_n 0 dX0_become_107 rfl rfl ?_
    refine g_get (ci := 0) (T := TX0) (N := 15) 42 7 (.int (B_trials (T_img1 s9))) dX0_become_108 iX0_become_X0 rfl jX0_become_43 (by decide) wlaT_42 rfl ?_
    refine g_icmp_ge (tgt := 156) dX0_become_111 (by decide) (fun h10 => ?_) (fun h10 => ?_)
    · have hf := ift h10 hf
      refine g_aload_n 0 dX0_become_156 rfl rfl ?_
      refine g_aload_n 1 dX0_become_157 rfl rfl ?_
      refine g_get (ci := 0) (T := TX0) (N := 15) 20 11 (.int (B_looks (T_book s9))) dX0_become_158 iX0_become_X0 rfl jX0_become_46 (by decide) wlaT_20 rfl ?_
      obtain ⟨z11, e_z11, hf⟩ := olt_some hf
      refine g_cast rfl rfl (congrArg (fun q => Value.int q :: [.ref (ad 42)]) e_z11) rfl ?_
      obtain ⟨s12, e_s12, hf⟩ := olt_some hf
      refine g_put (ci := 0) (T := TX0) (N := 15) (ty := .int) (w2 := (wT cs ad s12)) 42 11 (.int z11) tyX0 dX0_become_161 iX0_become_X0 tyX0_ok nmX0 rfl jX0_become_46 (by decide) rfl rfl rfl rfl wlaT_42 (Nat.le_of_ble_eq_true rfl) (wlpT_42_11.trans (congrArg (wT cs ad) e_s12)) ?_
      refine g_aload_n 0 dX0_become_164 rfl rfl ?_
      refine g_aload_n 1 dX0_become_165 rfl rfl ?_
      refine g_get (ci := 0) (T := TX0) (N := 15) 20 12 (.long (B_lookRows (T_book s12))) dX0_become_166 iX0_become_X0 rfl jX0_become_49 (by decide) wlaT_20 rfl ?_
      obtain ⟨z13, e_z13, hf⟩ := olt_some hf
      refine g_cast rfl rfl (congrArg (fun q => Value.long q :: [.ref (ad 42)]) e_z13) rfl ?_
      obtain ⟨s14, e_s14, hf⟩ := olt_some hf
      refine g_put (ci := 0) (T := TX0) (N := 15) (ty := .long) (w2 := (wT cs ad s14)) 42 12 (.long z13) tyX0 dX0_become_169 iX0_become_X0 tyX0_ok nmX0 rfl jX0_become_49 (by decide) rfl rfl rfl rfl wlaT_42 (Nat.le_of_ble_eq_true rfl) (wlpT_42_12.trans (congrArg (wT cs ad) e_s14)) ?_
      refine g_aload_n 0 dX0_become_172 rfl rfl ?_
      refine g_aload_n 1 dX0_become_173 rfl rfl ?_
      refine g_get (ci := 0) (T := TX0) (N := 15) 20 13 (.long (B_lookAll (T_book s14))) dX0_become_174 iX0_become_X0 rfl jX0_become_53 (by decide) wlaT_20 rfl ?_
      obtain ⟨z15, e_z15, hf⟩ := olt_some hf
      refine g_cast rfl rfl (congrArg (fun q => Value.long q :: [.ref (ad 42)]) e_z15) rfl ?_
      obtain ⟨s16, e_s16, hf⟩ := olt_some hf
      refine g_put (ci := 0) (T := TX0) (N := 15) (ty := .long) (w2 := (wT cs ad s16)) 42 13 (.long z15) tyX0 dX0_become_177 iX0_become_X0 tyX0_ok nmX0 rfl jX0_become_53 (by decide) rfl rfl rfl rfl wlaT_42 (Nat.le_of_ble_eq_true rfl) (wlpT_42_13.trans (congrArg (wT cs ad) e_s16)) ?_
      refine g_aload_n 0 dX0_become_180 rfl rfl ?_
      refine g_aload_n 1 dX0_become_181 rfl rfl ?_
      refine g_get (ci := 0) (T := TX0) (N := 15) 20 14 (.int (B_lot (T_book s16))) dX0_become_182 iX0_become_X0 rfl jX0_become_56 (by decide) wlaT_20 rfl ?_
      obtain ⟨z17, e_z17, hf⟩ := olt_some hf
      refine g_cast rfl rfl (congrArg (fun q => Value.int q :: [.ref (ad 42)]) e_z17) rfl ?_
      obtain ⟨s18, e_s18, hf⟩ := olt_some hf
      refine g_put (ci := 0) (T := TX0) (N := 15) (ty := .int) (w2 := (wT cs ad s18)) 42 14 (.int z17) tyX0 dX0_become_185 iX0_become_X0 tyX0_ok nmX0 rfl jX0_become_56 (by decide) rfl rfl rfl rfl wlaT_42 (Nat.le_of_ble_eq_true rfl) (wlpT_42_14.trans (congrArg (wT cs ad) e_s18)) ?_
      obtain rfl := Option.some.inj hf
      exact hr _ _ dX0_become_188
    · have hf := iff_ h10 hf
      refine g_aload_n 0 dX0_become_114 rfl rfl ?_
      refine g_get (ci := 0) (T := TX0) (N := 15) 42 8 (.ref (ad 49)) dX0_become_115 iX0_become_X0 rfl jX0_become_30 (by decide) wlaT_42 rfl ?_
      refine g_iload_n 2 dX0_become_118 rfl rfl ?_
      refine g_aload_n 1 dX0_become_119 rfl rfl ?_
      refine g_get (ci := 0) (T := TX0) (N := 15) 20 8 (.ref (ad 27)) dX0_become_120 iX0_become_X0 rfl jX0_become_30 (by decide) wlaT_20 rfl ?_
      refine g_iload_n 2 dX0_become_123 rfl rfl ?_
      obtain ⟨h19, hf⟩ := ochi_some hf
      refine g_iald 27 0 dX0_become_124 wlaT_27 (tI hty) h19 ?_
      obtain ⟨z20, e_z20, hf⟩ := olt_some hf
      refine g_cast rfl rfl (congrArg (fun q => Value.int q :: [.int x8, .ref (ad 49)]) e_z20) rfl ?_
      obtain ⟨h21, hf⟩ := ochi_some hf
      obtain ⟨s22, e_s22, hf⟩ := olt_some hf
      refine g_iast (w2 := (wT cs ad s22)) 49 0 dX0_become_125 wlaT_49 (tI hty) h21 (wlsT_49.trans (congrArg (wT cs ad) e_s22)) ?_
      refine g_aload_n 0 dX0_become_126 rfl rfl ?_
      refine g_get (ci := 0) (T := TX0) (N := 15) 42 9 (.ref (ad 50)) dX0_become_127 iX0_become_X0 rfl jX0_become_33 (by decide) wlaT_42 rfl ?_
      refine g_iload_n 2 dX0_become_130 rfl rfl ?_
      refine g_aload_n 1 dX0_become_131 rfl rfl ?_
      refine g_get (ci := 0) (T := TX0) (N := 15) 20 9 (.ref (ad 28)) dX0_become_132 iX0_become_X0 rfl jX0_become_33 (by decide) wlaT_20 rfl ?_
      refine g_iload_n 2 dX0_become_135 rfl rfl ?_
      obtain ⟨h23, hf⟩ := ochi_some hf
      refine g_iald 28 0 dX0_become_136 wlaT_28 (tI hty) h23 ?_
      obtain ⟨z24, e_z24, hf⟩ := olt_some hf
      refine g_cast rfl rfl (congrArg (fun q => Value.int q :: [.int x8, .ref (ad 50)]) e_z24) rfl ?_
      obtain ⟨h25, hf⟩ := ochi_some hf
      obtain ⟨s26, e_s26, hf⟩ := olt_some hf
      refine g_iast (w2 := (wT cs ad s26)) 50 0 dX0_become_137 wlaT_50 (tI hty) h25 (wlsT_50.trans (congrArg (wT cs ad) e_s26)) ?_
      refine g_aload_n 0 dX0_become_138 rfl rfl ?_
      refine g_get (ci := 0) (T := TX0) (N := 15) 42 10 (.ref (ad 51)) dX0_become_139 iX0_become_X0 rfl jX0_become_36 (by decide) wlaT_42 rfl ?_
      refine g_iload_n 2 dX0_become_142 rfl rfl ?_
      refine g_aload_n 1 dX0_become_143 rfl rfl ?_
      refine g_get (ci := 0) (T := TX0) (N := 15) 20 10 (.ref (ad 29)) dX0_become_144 iX0_become_X0 rfl jX0_become_36 (by decide) wlaT_20 rfl ?_
      refine g_iload_n 2 dX0_become_147 rfl rfl ?_
      obtain ⟨h27, hf⟩ := ochi_some hf
      refine g_iald 29 0 dX0_become_148 wlaT_29 (tI hty) h27 ?_
      obtain ⟨z28, e_z28, hf⟩ := olt_some hf
      refine g_cast rfl rfl (congrArg (fun q => Value.int q :: [.int x8, .ref (ad 51)]) e_z28) rfl ?_
      obtain ⟨h29, hf⟩ := ochi_some hf
      obtain ⟨s30, e_s30, hf⟩ := olt_some hf
      refine g_iast (w2 := (wT cs ad s30)) 51 0 dX0_become_149 wlaT_51 (tI hty) h29 (wlsT_51.trans (congrArg (wT cs ad) e_s30)) ?_
      refine g_iinc (lv2 := [(2, .int (x8 + 1)), (0, .ref (ad 42)), (1, .ref (ad 20))]) 2 dX0_become_150 rfl (ii1 _) (by decide) rfl ?_
      refine g_goto (tgt := 106) dX0_become_153 (by decide) ?_
      exact g_sub [1, 2, 0] rfl (ih (x8 + 1) s30 hf)

set_option maxHeartbeats 4000000 in
set_option maxRecDepth 100000 in
theorem w_X0_become_42_20_L10 {E : GE} {cs : CS} {ad : Nat → Nat} {F : Nat} {r : ST} (hty : eT E = tyA cs) (hr : Rv E kX0_become (wT cs ad r)) : ∀ (n : Nat) (x3 : Int32) (s4 : ST), f_X0_become_42_20_L10 F n x3 s4 = some r → G E kX0_become 0 0 10 [(0, .ref (ad 42)), (1, .ref (ad 20)), (2, .int x3)] [] (wT cs ad s4) := by
  intro n
  induction n with
  | zero =>
    intro x3 s4 hf
    cases (show (none : Option ST) = some r from hf)
  | succ n ih =>
    intro x3 s4 hf
    rw [f_X0_become_42_20_L10] at hf
    refine g_iload_n 2 dX0_become_10 rfl rfl ?_
    refine g_aload_n 0 dX0_become_11 rfl rfl ?_
    refine g_get (ci := 0) (T := TX0) (N := 15) 42 0 (.int (B_bags (T_img1 s4))) dX0_become_12 iX0_become_X0 rfl jX0_become_39 (by decide) wlaT_42 rfl ?_
    refine g_icmp_ge (tgt := 96) dX0_become_15 (by decide) (fun h5 => ?_) (fun h5 => ?_)
    · have hf := ift h5 hf
      refine g_aload_n 0 dX0_become_96 rfl rfl ?_
      refine g_aload_n 1 dX0_become_97 rfl rfl ?_
      refine g_get (ci := 0) (T := TX0) (N := 15) 20 7 (.int (B_trials (T_book s4))) dX0_become_98 iX0_become_X0 rfl jX0_become_43 (by decide) wlaT_20 rfl ?_
      obtain ⟨z6, e_z6, hf⟩ := olt_some hf
      refine g_cast rfl rfl (congrArg (fun q => Value.int q :: [.ref (ad 42)]) e_z6) rfl ?_
      obtain ⟨s7, e_s7, hf⟩ := olt_some hf
      refine g_put (ci := 0) (T := TX0) (N := 15) (ty := .int) (w2 := (wT cs ad s7)) 42 7 (.int z6) tyX0 dX0_become_101 iX0_become_X0 tyX0_ok nmX0 rfl jX0_become_43 (by decide) rfl rfl rfl rfl wlaT_42 (Nat.le_of_ble_eq_true rfl) (wlpT_42_7.trans (congrArg (wT cs ad) e_s7)) ?_
      refine g_iconst (v := (0 : Int32)) dX0_become_104 (by decide) ?_
      refine g_istore_n (lv2 := [(2, .int (0 : Int32)), (0, .ref (ad 42)), (1, .ref (ad 20))]) dX0_become_105 rfl (by decide) rfl ?_
      exact g_sub [1, 2, 0] rfl (w_X0_become_42_20_L106 hty hr F (0 : Int32) s7 hf)
    · have hf := iff_ h5 hf
      refine g_aload_n 0 dX0_become_18 rfl rfl ?_
      refine g_get (ci := 0) (T := TX0) (N := 15) 42 1 (.ref (ad 43)) dX0_become_19 iX0_become_X0 rfl jX0_become_9 (by decide) wlaT_42 rfl ?_
      refine g_iload_n 2 dX0_become_22 rfl rfl ?_
      refine g_aload_n 1 dX0_become_23 rfl rfl ?_
      refine g_get (ci := 0) (T := TX0) (N := 15) 20 1 (.ref (ad 21)) dX0_become_24 iX0_become_X0 rfl jX0_become_9 (by decide) wlaT_20 rfl ?_
      refine g_iload_n 2 dX0_become_27 rfl rfl ?_
      obtain ⟨h31, hf⟩ := ochi_some hf
      refine g_iald 21 0 dX0_become_28 wlaT_21 (tI hty) h31 ?_
      obtain ⟨z32, e_z32, hf⟩ := olt_some hf
      refine g_cast rfl rfl (congrArg (fun q => Value.int q :: [.int x3, .ref (ad 43)]) e_z32) rfl ?_
      obtain ⟨h33, hf⟩ := ochi_some hf
      obtain ⟨s34, e_s34, hf⟩ := olt_some hf
      refine g_iast (w2 := (wT cs ad s34)) 43 0 dX0_become_29 wlaT_43 (tI hty) h33 (wlsT_43.trans (congrArg (wT cs ad) e_s34)) ?_
      refine g_aload_n 0 dX0_become_30 rfl rfl ?_
      refine g_get (ci := 0) (T := TX0) (N := 15) 42 2 (.ref (ad 44)) dX0_become_31 iX0_become_X0 rfl jX0_become_15 (by decide) wlaT_42 rfl ?_
      refine g_iload_n 2 dX0_become_34 rfl rfl ?_
      refine g_aload_n 1 dX0_become_35 rfl rfl ?_
      refine g_get (ci := 0) (T := TX0) (N := 15) 20 2 (.ref (ad 22)) dX0_become_36 iX0_become_X0 rfl jX0_become_15 (by decide) wlaT_20 rfl ?_
      refine g_iload_n 2 dX0_become_39 rfl rfl ?_
      obtain ⟨h35, hf⟩ := ochi_some hf
      refine g_iald 22 0 dX0_become_40 wlaT_22 (tI hty) h35 ?_
      obtain ⟨z36, e_z36, hf⟩ := olt_some hf
      refine g_cast rfl rfl (congrArg (fun q => Value.int q :: [.int x3, .ref (ad 44)]) e_z36) rfl ?_
      obtain ⟨h37, hf⟩ := ochi_some hf
      obtain ⟨s38, e_s38, hf⟩ := olt_some hf
      refine g_iast (w2 := (wT cs ad s38)) 44 0 dX0_become_41 wlaT_44 (tI hty) h37 (wlsT_44.trans (congrArg (wT cs ad) e_s38)) ?_
      refine g_aload_n 0 dX0_become_42 rfl rfl ?_
      refine g_get (ci := 0) (T := TX0) (N := 15) 42 3 (.ref (ad 45)) dX0_become_43 iX0_become_X0 rfl jX0_become_18 (by decide) wlaT_42 rfl ?_
      refine g_iload_n 2 dX0_become_46 rfl rfl ?_
      refine g_aload_n 1 dX0_become_47 rfl rfl ?_
      refine g_get (ci := 0) (T := TX0) (N := 15) 20 3 (.ref (ad 23)) dX0_become_48 iX0_become_X0 rfl jX0_become_18 (by decide) wlaT_20 rfl ?_
      refine g_iload_n 2 dX0_become_51 rfl rfl ?_
      obtain ⟨h39, hf⟩ := ochi_some hf
      refine g_iald 23 0 dX0_become_52 wlaT_23 (tI hty) h39 ?_
      obtain ⟨z40, e_z40, hf⟩ := olt_some hf
      refine g_cast rfl rfl (congrArg (fun q => Value.int q :: [.int x3, .ref (ad 45)]) e_z40) rfl ?_
      obtain ⟨h41, hf⟩ := ochi_some hf
      obtain ⟨s42, e_s42, hf⟩ := olt_some hf
      refine g_iast (w2 := (wT cs ad s42)) 45 0 dX0_become_53 wlaT_45 (tI hty) h41 (wlsT_45.trans (congrArg (wT cs ad) e_s42)) ?_
      refine g_aload_n 0 dX0_become_54 rfl rfl ?_
      refine g_get (ci := 0) (T := TX0) (N := 15) 42 4 (.ref (ad 46)) dX0_become_55 iX0_become_X0 rfl jX0_become_21 (by decide) wlaT_42 rfl ?_
      refine g_iload_n 2 dX0_become_58 rfl rfl ?_
      refine g_aload_n 1 dX0_become_59 rfl rfl ?_
      refine g_get (ci := 0) (T := TX0) (N := 15) 20 4 (.ref (ad 24)) dX0_become_60 iX0_become_X0 rfl jX0_become_21 (by decide) wlaT_20 rfl ?_
      refine g_iload_n 2 dX0_become_63 rfl rfl ?_
      obtain ⟨h43, hf⟩ := ochi_some hf
      refine g_iald 24 0 dX0_become_64 wlaT_24 (tI hty) h43 ?_
      obtain ⟨z44, e_z44, hf⟩ := olt_some hf
      refine g_cast rfl rfl (congrArg (fun q => Value.int q :: [.int x3, .ref (ad 46)]) e_z44) rfl ?_
      obtain ⟨h45, hf⟩ := ochi_some hf
      obtain ⟨s46, e_s46, hf⟩ := olt_some hf
      refine g_iast (w2 := (wT cs ad s46)) 46 0 dX0_become_65 wlaT_46 (tI hty) h45 (wlsT_46.trans (congrArg (wT cs ad) e_s46)) ?_
      refine g_aload_n 0 dX0_become_66 rfl rfl ?_
      refine g_get (ci := 0) (T := TX0) (N := 15) 42 5 (.ref (ad 47)) dX0_become_67 iX0_become_X0 rfl jX0_become_24 (by decide) wlaT_42 rfl ?_
      refine g_iload_n 2 dX0_become_70 rfl rfl ?_
      refine g_aload_n 1 dX0_become_71 rfl rfl ?_
      refine g_get (ci := 0) (T := TX0) (N := 15) 20 5 (.ref (ad 25)) dX0_become_72 iX0_become_X0 rfl jX0_become_24 (by decide) wlaT_20 rfl ?_
      refine g_iload_n 2 dX0_become_75 rfl rfl ?_
      obtain ⟨h47, hf⟩ := ochi_some hf
      refine g_iald 25 0 dX0_become_76 wlaT_25 (tI hty) h47 ?_
      obtain ⟨z48, e_z48, hf⟩ := olt_some hf
      refine g_cast rfl rfl (congrArg (fun q => Value.int q :: [.int x3, .ref (ad 47)]) e_z48) rfl ?_
      obtain ⟨h49, hf⟩ := ochi_some hf
      obtain ⟨s50, e_s50, hf⟩ := olt_some hf
      refine g_iast (w2 := (wT cs ad s50)) 47 0 dX0_become_77 wlaT_47 (tI hty) h49 (wlsT_47.trans (congrArg (wT cs ad) e_s50)) ?_
      refine g_aload_n 0 dX0_become_78 rfl rfl ?_
      refine g_get (ci := 0) (T := TX0) (N := 15) 42 6 (.ref (ad 48)) dX0_become_79 iX0_become_X0 rfl jX0_become_27 (by decide) wlaT_42 rfl ?_
      refine g_iload_n 2 dX0_become_82 rfl rfl ?_
      refine g_aload_n 1 dX0_become_83 rfl rfl ?_
      refine g_get (ci := 0) (T := TX0) (N := 15) 20 6 (.ref (ad 26)) dX0_become_84 iX0_become_X0 rfl jX0_become_27 (by decide) wlaT_20 rfl ?_
      refine g_iload_n 2 dX0_become_87 rfl rfl ?_
      obtain ⟨h51, hf⟩ := ochi_some hf
      refine g_iald 26 0 dX0_become_88 wlaT_26 (tI hty) h51 ?_
      obtain ⟨z52, e_z52, hf⟩ := olt_some hf
      refine g_cast rfl rfl (congrArg (fun q => Value.int q :: [.int x3, .ref (ad 48)]) e_z52) rfl ?_
      obtain ⟨h53, hf⟩ := ochi_some hf
      obtain ⟨s54, e_s54, hf⟩ := olt_some hf
      refine g_iast (w2 := (wT cs ad s54)) 48 0 dX0_become_89 wlaT_48 (tI hty) h53 (wlsT_48.trans (congrArg (wT cs ad) e_s54)) ?_
      refine g_iinc (lv2 := [(2, .int (x3 + 1)), (0, .ref (ad 42)), (1, .ref (ad 20))]) 2 dX0_become_90 rfl (ii1 _) (by decide) rfl ?_
      refine g_goto (tgt := 10) dX0_become_93 (by decide) ?_
      exact g_sub [1, 2, 0] rfl (ih (x3 + 1) s54 hf)

set_option maxHeartbeats 4000000 in
set_option maxRecDepth 100000 in
theorem c_X0_become_42_20 {l : Launch} {D : va_G} {tys : List (ClassId × FieldType)} {X : XT} {cs : CS} (ad : Nat → Nat) {F : Nat} {s : ST} {r : ST} (htyM : tys = tyA cs) (hf : f_X0_become_42_20 F s = some r) : Cv l D tys X yX0_become wsX0_become rmX0_become [.ref (ad 42), .ref (ad 20)] (wT cs ad s) (wT cs ad r) := by
  refine Cv_ofG (by decide +kernel) rfl (Nat.le_of_ble_eq_true rfl) (fun E _ _ hty0 hX0 hr => ?_)
  have hty := hty0.trans htyM
  have hr : Rv E kX0_become (wT cs ad r) := hr
  show G E kX0_become 0 0 0 [(0, .ref (ad 42)), (1, .ref (ad 20))] [] (wT cs ad s)
  unfold f_X0_become_42_20 at hf
  refine g_aload_n 0 dX0_become_0 rfl rfl ?_
  refine g_aload_n 1 dX0_become_1 rfl rfl ?_
  refine g_get (ci := 0) (T := TX0) (N := 15) 20 0 (.int (B_bags (T_book s))) dX0_become_2 iX0_become_X0 rfl jX0_become_39 (by decide) wlaT_20 rfl ?_
  obtain ⟨z1, e_z1, hf⟩ := olt_some hf
  refine g_cast rfl rfl (congrArg (fun q => Value.int q :: [.ref (ad 42)]) e_z1) rfl ?_
  obtain ⟨s2, e_s2, hf⟩ := olt_some hf
  refine g_put (ci := 0) (T := TX0) (N := 15) (ty := .int) (w2 := (wT cs ad s2)) 42 0 (.int z1) tyX0 dX0_become_5 iX0_become_X0 tyX0_ok nmX0 rfl jX0_become_39 (by decide) rfl rfl rfl rfl wlaT_42 (Nat.le_of_ble_eq_true rfl) (wlpT_42_0.trans (congrArg (wT cs ad) e_s2)) ?_
  refine g_iconst (v := (0 : Int32)) dX0_become_8 (by decide) ?_
  refine g_istore_n (lv2 := [(2, .int (0 : Int32)), (0, .ref (ad 42)), (1, .ref (ad 20))]) dX0_become_9 rfl (by decide) rfl ?_
  exact g_sub [1, 2, 0] rfl (w_X0_become_42_20_L10 hty hr F (0 : Int32) s2 hf)

-- ThumbScale$Book become (LThumbScale$Book;)V

def f_X0_become_20_32_L106 (F : Nat) : Nat → Int32 → ST → Option ST
  | 0, _, _ => none
  | n + 1, x8, s9 =>
    (if (B_trials (T_book s9)) ≤ x8 then
    olt (B_looks (T_img0 s9)) (fun z11 =>
    olt (uT_book s9 (uB_looks (T_book s9) z11)) (fun s12 =>
    olt (B_lookRows (T_img0 s12)) (fun z13 =>
    olt (uT_book s12 (uB_lookRows (T_book s12) z13)) (fun s14 =>
    olt (B_lookAll (T_img0 s14)) (fun z15 =>
    olt (uT_book s14 (uB_lookAll (T_book s14) z15)) (fun s16 =>
    olt (B_lot (T_img0 s16)) (fun z17 =>
    olt (uT_book s16 (uB_lot (T_book s16) z17)) (fun s18 =>
    some s18))))))))
    else
    ochi x8 20 (
    olt ((B_trialStall (T_img0 s9)) (Int32.toNatClampNeg x8)) (fun z20 =>
    ochi x8 20 (olt (uT_book s9 (uB_trialStall (T_book s9) (upd (B_trialStall (T_book s9)) (Int32.toNatClampNeg x8) z20))) (fun s22 =>
    ochi x8 20 (
    olt ((B_trialDay (T_img0 s22)) (Int32.toNatClampNeg x8)) (fun z24 =>
    ochi x8 20 (olt (uT_book s22 (uB_trialDay (T_book s22) (upd (B_trialDay (T_book s22)) (Int32.toNatClampNeg x8) z24))) (fun s26 =>
    ochi x8 20 (
    olt ((B_trialOff (T_img0 s26)) (Int32.toNatClampNeg x8)) (fun z28 =>
    ochi x8 20 (olt (uT_book s26 (uB_trialOff (T_book s26) (upd (B_trialOff (T_book s26)) (Int32.toNatClampNeg x8) z28))) (fun s30 =>
    f_X0_become_20_32_L106 F n (x8 + 1) s30)))))))))))))

def f_X0_become_20_32_L10 (F : Nat) : Nat → Int32 → ST → Option ST
  | 0, _, _ => none
  | n + 1, x3, s4 =>
    (if (B_bags (T_book s4)) ≤ x3 then
    olt (B_trials (T_img0 s4)) (fun z6 =>
    olt (uT_book s4 (uB_trials (T_book s4) z6)) (fun s7 =>
    f_X0_become_20_32_L106 F F (0 : Int32) s7))
    else
    ochi x3 30 (
    olt ((B_bagStall (T_img0 s4)) (Int32.toNatClampNeg x3)) (fun z32 =>
    ochi x3 30 (olt (uT_book s4 (uB_bagStall (T_book s4) (upd (B_bagStall (T_book s4)) (Int32.toNatClampNeg x3) z32))) (fun s34 =>
    ochi x3 30 (
    olt ((B_bagHour (T_img0 s34)) (Int32.toNatClampNeg x3)) (fun z36 =>
    ochi x3 30 (olt (uT_book s34 (uB_bagHour (T_book s34) (upd (B_bagHour (T_book s34)) (Int32.toNatClampNeg x3) z36))) (fun s38 =>
    ochi x3 30 (
    olt ((B_bagSort (T_img0 s38)) (Int32.toNatClampNeg x3)) (fun z40 =>
    ochi x3 30 (olt (uT_book s38 (uB_bagSort (T_book s38) (upd (B_bagSort (T_book s38)) (Int32.toNatClampNeg x3) z40))) (fun s42 =>
    ochi x3 30 (
    olt ((B_bagTold (T_img0 s42)) (Int32.toNatClampNeg x3)) (fun z44 =>
    ochi x3 30 (olt (uT_book s42 (uB_bagTold (T_book s42) (upd (B_bagTold (T_book s42)) (Int32.toNatClampNeg x3) z44))) (fun s46 =>
    ochi x3 30 (
    olt ((B_bagShort (T_img0 s46)) (Int32.toNatClampNeg x3)) (fun z48 =>
    ochi x3 30 (olt (uT_book s46 (uB_bagShort (T_book s46) (upd (B_bagShort (T_book s46)) (Int32.toNatClampNeg x3) z48))) (fun s50 =>
    ochi x3 30 (
    olt ((B_bagSteps (T_img0 s50)) (Int32.toNatClampNeg x3)) (fun z52 =>
    ochi x3 30 (olt (uT_book s50 (uB_bagSteps (T_book s50) (upd (B_bagSteps (T_book s50)) (Int32.toNatClampNeg x3) z52))) (fun s54 =>
    f_X0_become_20_32_L10 F n (x3 + 1) s54)))))))))))))))))))))))))

def f_X0_become_20_32 (F : Nat) (s : ST) : Option ST :=
    olt (B_bags (T_img0 s)) (fun z1 =>
    olt (uT_book s (uB_bags (T_book s) z1)) (fun s2 =>
    f_X0_become_20_32_L10 F F (0 : Int32) s2))

set_option maxHeartbeats 4000000 in
set_option maxRecDepth 100000 in
theorem w_X0_become_20_32_L106 {E : GE} {cs : CS} {ad : Nat → Nat} {F : Nat} {r : ST} (hty : eT E = tyA cs) (hr : Rv E kX0_become (wT cs ad r)) : ∀ (n : Nat) (x8 : Int32) (s9 : ST), f_X0_become_20_32_L106 F n x8 s9 = some r → G E kX0_become 0 0 106 [(0, .ref (ad 20)), (1, .ref (ad 32)), (2, .int x8)] [] (wT cs ad s9) := by
  intro n
  induction n with
  | zero =>
    intro x8 s9 hf
    cases (show (none : Option ST) = some r from hf)
  | succ n ih =>
    intro x8 s9 hf
    rw [f_X0_become_20_32_L106] at hf
    refine g_iload_n 2 dX0_become_106 rfl rfl ?_
    refine g_aload_n 0 dX0_become_107 rfl rfl ?_
    refine g_get (ci := 0) (T := TX0) (N := 15) 20 7 (.int (B_trials (T_book s9))) dX0_become_108 iX0_become_X0 rfl jX0_become_43 (by decide) wlaT_20 rfl ?_
    refine g_icmp_ge (tgt := 156) dX0_become_111 (by decide) (fun h10 => ?_) (fun h10 => ?_)
    · have hf := ift h10 hf
      refine g_aload_n 0 dX0_become_156 rfl rfl ?_
      refine g_aload_n 1 dX0_become_157 rfl rfl ?_
      refine g_get (ci := 0) (T := TX0) (N := 15) 32 11 (.int (B_looks (T_img0 s9))) dX0_become_158 iX0_become_X0 rfl jX0_become_46 (by decide) wlaT_32 rfl ?_
      obtain ⟨z11, e_z11, hf⟩ := olt_some hf
      refine g_cast rfl rfl (congrArg (fun q => Value.int q :: [.ref (ad 20)]) e_z11) rfl ?_
      obtain ⟨s12, e_s12, hf⟩ := olt_some hf
      refine g_put (ci := 0) (T := TX0) (N := 15) (ty := .int) (w2 := (wT cs ad s12)) 20 11 (.int z11) tyX0 dX0_become_161 iX0_become_X0 tyX0_ok nmX0 rfl jX0_become_46 (by decide) rfl rfl rfl rfl wlaT_20 (Nat.le_of_ble_eq_true rfl) (wlpT_20_11.trans (congrArg (wT cs ad) e_s12)) ?_
      refine g_aload_n 0 dX0_become_164 rfl rfl ?_
      refine g_aload_n 1 dX0_become_165 rfl rfl ?_
      refine g_get (ci := 0) (T := TX0) (N := 15) 32 12 (.long (B_lookRows (T_img0 s12))) dX0_become_166 iX0_become_X0 rfl jX0_become_49 (by decide) wlaT_32 rfl ?_
      obtain ⟨z13, e_z13, hf⟩ := olt_some hf
      refine g_cast rfl rfl (congrArg (fun q => Value.long q :: [.ref (ad 20)]) e_z13) rfl ?_
      obtain ⟨s14, e_s14, hf⟩ := olt_some hf
      refine g_put (ci := 0) (T := TX0) (N := 15) (ty := .long) (w2 := (wT cs ad s14)) 20 12 (.long z13) tyX0 dX0_become_169 iX0_become_X0 tyX0_ok nmX0 rfl jX0_become_49 (by decide) rfl rfl rfl rfl wlaT_20 (Nat.le_of_ble_eq_true rfl) (wlpT_20_12.trans (congrArg (wT cs ad) e_s14)) ?_
      refine g_aload_n 0 dX0_become_172 rfl rfl ?_
      refine g_aload_n 1 dX0_become_173 rfl rfl ?_
      refine g_get (ci := 0) (T := TX0) (N := 15) 32 13 (.long (B_lookAll (T_img0 s14))) dX0_become_174 iX0_become_X0 rfl jX0_become_53 (by decide) wlaT_32 rfl ?_
      obtain ⟨z15, e_z15, hf⟩ := olt_some hf
      refine g_cast rfl rfl (congrArg (fun q => Value.long q :: [.ref (ad 20)]) e_z15) rfl ?_
      obtain ⟨s16, e_s16, hf⟩ := olt_some hf
      refine g_put (ci := 0) (T := TX0) (N := 15) (ty := .long) (w2 := (wT cs ad s16)) 20 13 (.long z15) tyX0 dX0_become_177 iX0_become_X0 tyX0_ok nmX0 rfl jX0_become_53 (by decide) rfl rfl rfl rfl wlaT_20 (Nat.le_of_ble_eq_true rfl) (wlpT_20_13.trans (congrArg (wT cs ad) e_s16)) ?_
      refine g_aload_n 0 dX0_become_180 rfl rfl ?_
      refine g_aload_n 1 dX0_become_181 rfl rfl ?_
      refine g_get (ci := 0) (T := TX0) (N := 15) 32 14 (.int (B_lot (T_img0 s16))) dX0_become_182 iX0_become_X0 rfl jX0_become_56 (by decide) wlaT_32 rfl ?_
      obtain ⟨z17, e_z17, hf⟩ := olt_some hf
      refine g_cast rfl rfl (congrArg (fun q => Value.int q :: [.ref (ad 20)]) e_z17) rfl ?_
      obtain ⟨s18, e_s18, hf⟩ := olt_some hf
      refine g_put (ci := 0) (T := TX0) (N := 15) (ty := .int) (w2 := (wT cs ad s18)) 20 14 (.int z17) tyX0 dX0_become_185 iX0_become_X0 tyX0_ok nmX0 rfl jX0_become_56 (by decide) rfl rfl rfl rfl wlaT_20 (Nat.le_of_ble_eq_true rfl) (wlpT_20_14.trans (congrArg (wT cs ad) e_s18)) ?_
      obtain rfl := Option.some.inj hf
      exact hr _ _ dX0_become_188
    · have hf := iff_ h10 hf
      refine g_aload_n 0 dX0_become_114 rfl rfl ?_
      refine g_get (ci := 0) (T := TX0) (N := 15) 20 8 (.ref (ad 27)) dX0_become_115 iX0_become_X0 rfl jX0_become_30 (by decide) wlaT_20 rfl ?_
      refine g_iload_n 2 dX0_become_118 rfl rfl ?_
      refine g_aload_n 1 dX0_become_119 rfl rfl ?_
      refine g_get (ci := 0) (T := TX0) (N := 15) 32 8 (.ref (ad 39)) dX0_become_120 iX0_become_X0 rfl jX0_become_30 (by decide) wlaT_32 rfl ?_
      refine g_iload_n 2 dX0_become_123 rfl rfl ?_
      obtain ⟨h19, hf⟩ := ochi_some hf
      refine g_iald 39 0 dX0_become_124 wlaT_39 (tI hty) h19 ?_
      obtain ⟨z20, e_z20, hf⟩ := olt_some hf
      refine g_cast rfl rfl (congrArg (fun q => Value.int q :: [.int x8, .ref (ad 27)]) e_z20) rfl ?_
      obtain ⟨h21, hf⟩ := ochi_some hf
      obtain ⟨s22, e_s22, hf⟩ := olt_some hf
      refine g_iast (w2 := (wT cs ad s22)) 27 0 dX0_become_125 wlaT_27 (tI hty) h21 (wlsT_27.trans (congrArg (wT cs ad) e_s22)) ?_
      refine g_aload_n 0 dX0_become_126 rfl rfl ?_
      refine g_get (ci := 0) (T := TX0) (N := 15) 20 9 (.ref (ad 28)) dX0_become_127 iX0_become_X0 rfl jX0_become_33 (by decide) wlaT_20 rfl ?_
      refine g_iload_n 2 dX0_become_130 rfl rfl ?_
      refine g_aload_n 1 dX0_become_131 rfl rfl ?_
      refine g_get (ci := 0) (T := TX0) (N := 15) 32 9 (.ref (ad 40)) dX0_become_132 iX0_become_X0 rfl jX0_become_33 (by decide) wlaT_32 rfl ?_
      refine g_iload_n 2 dX0_become_135 rfl rfl ?_
      obtain ⟨h23, hf⟩ := ochi_some hf
      refine g_iald 40 0 dX0_become_136 wlaT_40 (tI hty) h23 ?_
      obtain ⟨z24, e_z24, hf⟩ := olt_some hf
      refine g_cast rfl rfl (congrArg (fun q => Value.int q :: [.int x8, .ref (ad 28)]) e_z24) rfl ?_
      obtain ⟨h25, hf⟩ := ochi_some hf
      obtain ⟨s26, e_s26, hf⟩ := olt_some hf
      refine g_iast (w2 := (wT cs ad s26)) 28 0 dX0_become_137 wlaT_28 (tI hty) h25 (wlsT_28.trans (congrArg (wT cs ad) e_s26)) ?_
      refine g_aload_n 0 dX0_become_138 rfl rfl ?_
      refine g_get (ci := 0) (T := TX0) (N := 15) 20 10 (.ref (ad 29)) dX0_become_139 iX0_become_X0 rfl jX0_become_36 (by decide) wlaT_20 rfl ?_
      refine g_iload_n 2 dX0_become_142 rfl rfl ?_
      refine g_aload_n 1 dX0_become_143 rfl rfl ?_
      refine g_get (ci := 0) (T := TX0) (N := 15) 32 10 (.ref (ad 41)) dX0_become_144 iX0_become_X0 rfl jX0_become_36 (by decide) wlaT_32 rfl ?_
      refine g_iload_n 2 dX0_become_147 rfl rfl ?_
      obtain ⟨h27, hf⟩ := ochi_some hf
      refine g_iald 41 0 dX0_become_148 wlaT_41 (tI hty) h27 ?_
      obtain ⟨z28, e_z28, hf⟩ := olt_some hf
      refine g_cast rfl rfl (congrArg (fun q => Value.int q :: [.int x8, .ref (ad 29)]) e_z28) rfl ?_
      obtain ⟨h29, hf⟩ := ochi_some hf
      obtain ⟨s30, e_s30, hf⟩ := olt_some hf
      refine g_iast (w2 := (wT cs ad s30)) 29 0 dX0_become_149 wlaT_29 (tI hty) h29 (wlsT_29.trans (congrArg (wT cs ad) e_s30)) ?_
      refine g_iinc (lv2 := [(2, .int (x8 + 1)), (0, .ref (ad 20)), (1, .ref (ad 32))]) 2 dX0_become_150 rfl (ii1 _) (by decide) rfl ?_
      refine g_goto (tgt := 106) dX0_become_153 (by decide) ?_
      exact g_sub [1, 2, 0] rfl (ih (x8 + 1) s30 hf)

set_option maxHeartbeats 4000000 in
set_option maxRecDepth 100000 in
theorem w_X0_become_20_32_L10 {E : GE} {cs : CS} {ad : Nat → Nat} {F : Nat} {r : ST} (hty : eT E = tyA cs) (hr : Rv E kX0_become (wT cs ad r)) : ∀ (n : Nat) (x3 : Int32) (s4 : ST), f_X0_become_20_32_L10 F n x3 s4 = some r → G E kX0_become 0 0 10 [(0, .ref (ad 20)), (1, .ref (ad 32)), (2, .int x3)] [] (wT cs ad s4) := by
  intro n
  induction n with
  | zero =>
    intro x3 s4 hf
    cases (show (none : Option ST) = some r from hf)
  | succ n ih =>
    intro x3 s4 hf
    rw [f_X0_become_20_32_L10] at hf
    refine g_iload_n 2 dX0_become_10 rfl rfl ?_
    refine g_aload_n 0 dX0_become_11 rfl rfl ?_
    refine g_get (ci := 0) (T := TX0) (N := 15) 20 0 (.int (B_bags (T_book s4))) dX0_become_12 iX0_become_X0 rfl jX0_become_39 (by decide) wlaT_20 rfl ?_
    refine g_icmp_ge (tgt := 96) dX0_become_15 (by decide) (fun h5 => ?_) (fun h5 => ?_)
    · have hf := ift h5 hf
      refine g_aload_n 0 dX0_become_96 rfl rfl ?_
      refine g_aload_n 1 dX0_become_97 rfl rfl ?_
      refine g_get (ci := 0) (T := TX0) (N := 15) 32 7 (.int (B_trials (T_img0 s4))) dX0_become_98 iX0_become_X0 rfl jX0_become_43 (by decide) wlaT_32 rfl ?_
      obtain ⟨z6, e_z6, hf⟩ := olt_some hf
      refine g_cast rfl rfl (congrArg (fun q => Value.int q :: [.ref (ad 20)]) e_z6) rfl ?_
      obtain ⟨s7, e_s7, hf⟩ := olt_some hf
      refine g_put (ci := 0) (T := TX0) (N := 15) (ty := .int) (w2 := (wT cs ad s7)) 20 7 (.int z6) tyX0 dX0_become_101 iX0_become_X0 tyX0_ok nmX0 rfl jX0_become_43 (by decide) rfl rfl rfl rfl wlaT_20 (Nat.le_of_ble_eq_true rfl) (wlpT_20_7.trans (congrArg (wT cs ad) e_s7)) ?_
      refine g_iconst (v := (0 : Int32)) dX0_become_104 (by decide) ?_
      refine g_istore_n (lv2 := [(2, .int (0 : Int32)), (0, .ref (ad 20)), (1, .ref (ad 32))]) dX0_become_105 rfl (by decide) rfl ?_
      exact g_sub [1, 2, 0] rfl (w_X0_become_20_32_L106 hty hr F (0 : Int32) s7 hf)
    · have hf := iff_ h5 hf
      refine g_aload_n 0 dX0_become_18 rfl rfl ?_
      refine g_get (ci := 0) (T := TX0) (N := 15) 20 1 (.ref (ad 21)) dX0_become_19 iX0_become_X0 rfl jX0_become_9 (by decide) wlaT_20 rfl ?_
      refine g_iload_n 2 dX0_become_22 rfl rfl ?_
      refine g_aload_n 1 dX0_become_23 rfl rfl ?_
      refine g_get (ci := 0) (T := TX0) (N := 15) 32 1 (.ref (ad 33)) dX0_become_24 iX0_become_X0 rfl jX0_become_9 (by decide) wlaT_32 rfl ?_
      refine g_iload_n 2 dX0_become_27 rfl rfl ?_
      obtain ⟨h31, hf⟩ := ochi_some hf
      refine g_iald 33 0 dX0_become_28 wlaT_33 (tI hty) h31 ?_
      obtain ⟨z32, e_z32, hf⟩ := olt_some hf
      refine g_cast rfl rfl (congrArg (fun q => Value.int q :: [.int x3, .ref (ad 21)]) e_z32) rfl ?_
      obtain ⟨h33, hf⟩ := ochi_some hf
      obtain ⟨s34, e_s34, hf⟩ := olt_some hf
      refine g_iast (w2 := (wT cs ad s34)) 21 0 dX0_become_29 wlaT_21 (tI hty) h33 (wlsT_21.trans (congrArg (wT cs ad) e_s34)) ?_
      refine g_aload_n 0 dX0_become_30 rfl rfl ?_
      refine g_get (ci := 0) (T := TX0) (N := 15) 20 2 (.ref (ad 22)) dX0_become_31 iX0_become_X0 rfl jX0_become_15 (by decide) wlaT_20 rfl ?_
      refine g_iload_n 2 dX0_become_34 rfl rfl ?_
      refine g_aload_n 1 dX0_become_35 rfl rfl ?_
      refine g_get (ci := 0) (T := TX0) (N := 15) 32 2 (.ref (ad 34)) dX0_become_36 iX0_become_X0 rfl jX0_become_15 (by decide) wlaT_32 rfl ?_
      refine g_iload_n 2 dX0_become_39 rfl rfl ?_
      obtain ⟨h35, hf⟩ := ochi_some hf
      refine g_iald 34 0 dX0_become_40 wlaT_34 (tI hty) h35 ?_
      obtain ⟨z36, e_z36, hf⟩ := olt_some hf
      refine g_cast rfl rfl (congrArg (fun q => Value.int q :: [.int x3, .ref (ad 22)]) e_z36) rfl ?_
      obtain ⟨h37, hf⟩ := ochi_some hf
      obtain ⟨s38, e_s38, hf⟩ := olt_some hf
      refine g_iast (w2 := (wT cs ad s38)) 22 0 dX0_become_41 wlaT_22 (tI hty) h37 (wlsT_22.trans (congrArg (wT cs ad) e_s38)) ?_
      refine g_aload_n 0 dX0_become_42 rfl rfl ?_
      refine g_get (ci := 0) (T := TX0) (N := 15) 20 3 (.ref (ad 23)) dX0_become_43 iX0_become_X0 rfl jX0_become_18 (by decide) wlaT_20 rfl ?_
      refine g_iload_n 2 dX0_become_46 rfl rfl ?_
      refine g_aload_n 1 dX0_become_47 rfl rfl ?_
      refine g_get (ci := 0) (T := TX0) (N := 15) 32 3 (.ref (ad 35)) dX0_become_48 iX0_become_X0 rfl jX0_become_18 (by decide) wlaT_32 rfl ?_
      refine g_iload_n 2 dX0_become_51 rfl rfl ?_
      obtain ⟨h39, hf⟩ := ochi_some hf
      refine g_iald 35 0 dX0_become_52 wlaT_35 (tI hty) h39 ?_
      obtain ⟨z40, e_z40, hf⟩ := olt_some hf
      refine g_cast rfl rfl (congrArg (fun q => Value.int q :: [.int x3, .ref (ad 23)]) e_z40) rfl ?_
      obtain ⟨h41, hf⟩ := ochi_some hf
      obtain ⟨s42, e_s42, hf⟩ := olt_some hf
      refine g_iast (w2 := (wT cs ad s42)) 23 0 dX0_become_53 wlaT_23 (tI hty) h41 (wlsT_23.trans (congrArg (wT cs ad) e_s42)) ?_
      refine g_aload_n 0 dX0_become_54 rfl rfl ?_
      refine g_get (ci := 0) (T := TX0) (N := 15) 20 4 (.ref (ad 24)) dX0_become_55 iX0_become_X0 rfl jX0_become_21 (by decide) wlaT_20 rfl ?_
      refine g_iload_n 2 dX0_become_58 rfl rfl ?_
      refine g_aload_n 1 dX0_become_59 rfl rfl ?_
      refine g_get (ci := 0) (T := TX0) (N := 15) 32 4 (.ref (ad 36)) dX0_become_60 iX0_become_X0 rfl jX0_become_21 (by decide) wlaT_32 rfl ?_
      refine g_iload_n 2 dX0_become_63 rfl rfl ?_
      obtain ⟨h43, hf⟩ := ochi_some hf
      refine g_iald 36 0 dX0_become_64 wlaT_36 (tI hty) h43 ?_
      obtain ⟨z44, e_z44, hf⟩ := olt_some hf
      refine g_cast rfl rfl (congrArg (fun q => Value.int q :: [.int x3, .ref (ad 24)]) e_z44) rfl ?_
      obtain ⟨h45, hf⟩ := ochi_some hf
      obtain ⟨s46, e_s46, hf⟩ := olt_some hf
      refine g_iast (w2 := (wT cs ad s46)) 24 0 dX0_become_65 wlaT_24 (tI hty) h45 (wlsT_24.trans (congrArg (wT cs ad) e_s46)) ?_
      refine g_aload_n 0 dX0_become_66 rfl rfl ?_
      refine g_get (ci := 0) (T := TX0) (N := 15) 20 5 (.ref (ad 25)) dX0_become_67 iX0_become_X0 rfl jX0_become_24 (by decide) wlaT_20 rfl ?_
      refine g_iload_n 2 dX0_become_70 rfl rfl ?_
      refine g_aload_n 1 dX0_become_71 rfl rfl ?_
      refine g_get (ci := 0) (T := TX0) (N := 15) 32 5 (.ref (ad 37)) dX0_become_72 iX0_become_X0 rfl jX0_become_24 (by decide) wlaT_32 rfl ?_
      refine g_iload_n 2 dX0_become_75 rfl rfl ?_
      obtain ⟨h47, hf⟩ := ochi_some hf
      refine g_iald 37 0 dX0_become_76 wlaT_37 (tI hty) h47 ?_
      obtain ⟨z48, e_z48, hf⟩ := olt_some hf
      refine g_cast rfl rfl (congrArg (fun q => Value.int q :: [.int x3, .ref (ad 25)]) e_z48) rfl ?_
      obtain ⟨h49, hf⟩ := ochi_some hf
      obtain ⟨s50, e_s50, hf⟩ := olt_some hf
      refine g_iast (w2 := (wT cs ad s50)) 25 0 dX0_become_77 wlaT_25 (tI hty) h49 (wlsT_25.trans (congrArg (wT cs ad) e_s50)) ?_
      refine g_aload_n 0 dX0_become_78 rfl rfl ?_
      refine g_get (ci := 0) (T := TX0) (N := 15) 20 6 (.ref (ad 26)) dX0_become_79 iX0_become_X0 rfl jX0_become_27 (by decide) wlaT_20 rfl ?_
      refine g_iload_n 2 dX0_become_82 rfl rfl ?_
      refine g_aload_n 1 dX0_become_83 rfl rfl ?_
      refine g_get (ci := 0) (T := TX0) (N := 15) 32 6 (.ref (ad 38)) dX0_become_84 iX0_become_X0 rfl jX0_become_27 (by decide) wlaT_32 rfl ?_
      refine g_iload_n 2 dX0_become_87 rfl rfl ?_
      obtain ⟨h51, hf⟩ := ochi_some hf
      refine g_iald 38 0 dX0_become_88 wlaT_38 (tI hty) h51 ?_
      obtain ⟨z52, e_z52, hf⟩ := olt_some hf
      refine g_cast rfl rfl (congrArg (fun q => Value.int q :: [.int x3, .ref (ad 26)]) e_z52) rfl ?_
      obtain ⟨h53, hf⟩ := ochi_some hf
      obtain ⟨s54, e_s54, hf⟩ := olt_some hf
      refine g_iast (w2 := (wT cs ad s54)) 26 0 dX0_become_89 wlaT_26 (tI hty) h53 (wlsT_26.trans (congrArg (wT cs ad) e_s54)) ?_
      refine g_iinc (lv2 := [(2, .int (x3 + 1)), (0, .ref (ad 20)), (1, .ref (ad 32))]) 2 dX0_become_90 rfl (ii1 _) (by decide) rfl ?_
      refine g_goto (tgt := 10) dX0_become_93 (by decide) ?_
      exact g_sub [1, 2, 0] rfl (ih (x3 + 1) s54 hf)

set_option maxHeartbeats 4000000 in
set_option maxRecDepth 100000 in
theorem c_X0_become_20_32 {l : Launch} {D : va_G} {tys : List (ClassId × FieldType)} {X : XT} {cs : CS} (ad : Nat → Nat) {F : Nat} {s : ST} {r : ST} (htyM : tys = tyA cs) (hf : f_X0_become_20_32 F s = some r) : Cv l D tys X yX0_become wsX0_become rmX0_become [.ref (ad 20), .ref (ad 32)] (wT cs ad s) (wT cs ad r) := by
  refine Cv_ofG (by decide +kernel) rfl (Nat.le_of_ble_eq_true rfl) (fun E _ _ hty0 hX0 hr => ?_)
  have hty := hty0.trans htyM
  have hr : Rv E kX0_become (wT cs ad r) := hr
  show G E kX0_become 0 0 0 [(0, .ref (ad 20)), (1, .ref (ad 32))] [] (wT cs ad s)
  unfold f_X0_become_20_32 at hf
  refine g_aload_n 0 dX0_become_0 rfl rfl ?_
  refine g_aload_n 1 dX0_become_1 rfl rfl ?_
  refine g_get (ci := 0) (T := TX0) (N := 15) 32 0 (.int (B_bags (T_img0 s))) dX0_become_2 iX0_become_X0 rfl jX0_become_39 (by decide) wlaT_32 rfl ?_
  obtain ⟨z1, e_z1, hf⟩ := olt_some hf
  refine g_cast rfl rfl (congrArg (fun q => Value.int q :: [.ref (ad 20)]) e_z1) rfl ?_
  obtain ⟨s2, e_s2, hf⟩ := olt_some hf
  refine g_put (ci := 0) (T := TX0) (N := 15) (ty := .int) (w2 := (wT cs ad s2)) 20 0 (.int z1) tyX0 dX0_become_5 iX0_become_X0 tyX0_ok nmX0 rfl jX0_become_39 (by decide) rfl rfl rfl rfl wlaT_20 (Nat.le_of_ble_eq_true rfl) (wlpT_20_0.trans (congrArg (wT cs ad) e_s2)) ?_
  refine g_iconst (v := (0 : Int32)) dX0_become_8 (by decide) ?_
  refine g_istore_n (lv2 := [(2, .int (0 : Int32)), (0, .ref (ad 20)), (1, .ref (ad 32))]) dX0_become_9 rfl (by decide) rfl ?_
  exact g_sub [1, 2, 0] rfl (w_X0_become_20_32_L10 hty hr F (0 : Int32) s2 hf)

-- ThumbScale$Book become (LThumbScale$Book;)V

def f_X0_become_20_42_L106 (F : Nat) : Nat → Int32 → ST → Option ST
  | 0, _, _ => none
  | n + 1, x8, s9 =>
    (if (B_trials (T_book s9)) ≤ x8 then
    olt (B_looks (T_img1 s9)) (fun z11 =>
    olt (uT_book s9 (uB_looks (T_book s9) z11)) (fun s12 =>
    olt (B_lookRows (T_img1 s12)) (fun z13 =>
    olt (uT_book s12 (uB_lookRows (T_book s12) z13)) (fun s14 =>
    olt (B_lookAll (T_img1 s14)) (fun z15 =>
    olt (uT_book s14 (uB_lookAll (T_book s14) z15)) (fun s16 =>
    olt (B_lot (T_img1 s16)) (fun z17 =>
    olt (uT_book s16 (uB_lot (T_book s16) z17)) (fun s18 =>
    some s18))))))))
    else
    ochi x8 20 (
    olt ((B_trialStall (T_img1 s9)) (Int32.toNatClampNeg x8)) (fun z20 =>
    ochi x8 20 (olt (uT_book s9 (uB_trialStall (T_book s9) (upd (B_trialStall (T_book s9)) (Int32.toNatClampNeg x8) z20))) (fun s22 =>
    ochi x8 20 (
    olt ((B_trialDay (T_img1 s22)) (Int32.toNatClampNeg x8)) (fun z24 =>
    ochi x8 20 (olt (uT_book s22 (uB_trialDay (T_book s22) (upd (B_trialDay (T_book s22)) (Int32.toNatClampNeg x8) z24))) (fun s26 =>
    ochi x8 20 (
    olt ((B_trialOff (T_img1 s26)) (Int32.toNatClampNeg x8)) (fun z28 =>
    ochi x8 20 (olt (uT_book s26 (uB_trialOff (T_book s26) (upd (B_trialOff (T_book s26)) (Int32.toNatClampNeg x8) z28))) (fun s30 =>
    f_X0_become_20_42_L106 F n (x8 + 1) s30)))))))))))))

def f_X0_become_20_42_L10 (F : Nat) : Nat → Int32 → ST → Option ST
  | 0, _, _ => none
  | n + 1, x3, s4 =>
    (if (B_bags (T_book s4)) ≤ x3 then
    olt (B_trials (T_img1 s4)) (fun z6 =>
    olt (uT_book s4 (uB_trials (T_book s4) z6)) (fun s7 =>
    f_X0_become_20_42_L106 F F (0 : Int32) s7))
    else
    ochi x3 30 (
    olt ((B_bagStall (T_img1 s4)) (Int32.toNatClampNeg x3)) (fun z32 =>
    ochi x3 30 (olt (uT_book s4 (uB_bagStall (T_book s4) (upd (B_bagStall (T_book s4)) (Int32.toNatClampNeg x3) z32))) (fun s34 =>
    ochi x3 30 (
    olt ((B_bagHour (T_img1 s34)) (Int32.toNatClampNeg x3)) (fun z36 =>
    ochi x3 30 (olt (uT_book s34 (uB_bagHour (T_book s34) (upd (B_bagHour (T_book s34)) (Int32.toNatClampNeg x3) z36))) (fun s38 =>
    ochi x3 30 (
    olt ((B_bagSort (T_img1 s38)) (Int32.toNatClampNeg x3)) (fun z40 =>
    ochi x3 30 (olt (uT_book s38 (uB_bagSort (T_book s38) (upd (B_bagSort (T_book s38)) (Int32.toNatClampNeg x3) z40))) (fun s42 =>
    ochi x3 30 (
    olt ((B_bagTold (T_img1 s42)) (Int32.toNatClampNeg x3)) (fun z44 =>
    ochi x3 30 (olt (uT_book s42 (uB_bagTold (T_book s42) (upd (B_bagTold (T_book s42)) (Int32.toNatClampNeg x3) z44))) (fun s46 =>
    ochi x3 30 (
    olt ((B_bagShort (T_img1 s46)) (Int32.toNatClampNeg x3)) (fun z48 =>
    ochi x3 30 (olt (uT_book s46 (uB_bagShort (T_book s46) (upd (B_bagShort (T_book s46)) (Int32.toNatClampNeg x3) z48))) (fun s50 =>
    ochi x3 30 (
    olt ((B_bagSteps (T_img1 s50)) (Int32.toNatClampNeg x3)) (fun z52 =>
    ochi x3 30 (olt (uT_book s50 (uB_bagSteps (T_book s50) (upd (B_bagSteps (T_book s50)) (Int32.toNatClampNeg x3) z52))) (fun s54 =>
    f_X0_become_20_42_L10 F n (x3 + 1) s54)))))))))))))))))))))))))

def f_X0_become_20_42 (F : Nat) (s : ST) : Option ST :=
    olt (B_bags (T_img1 s)) (fun z1 =>
    olt (uT_book s (uB_bags (T_book s) z1)) (fun s2 =>
    f_X0_become_20_42_L10 F F (0 : Int32) s2))

set_option maxHeartbeats 4000000 in
set_option maxRecDepth 100000 in
theorem w_X0_become_20_42_L106 {E : GE} {cs : CS} {ad : Nat → Nat} {F : Nat} {r : ST} (hty : eT E = tyA cs) (hr : Rv E kX0_become (wT cs ad r)) : ∀ (n : Nat) (x8 : Int32) (s9 : ST), f_X0_become_20_42_L106 F n x8 s9 = some r → G E kX0_become 0 0 106 [(0, .ref (ad 20)), (1, .ref (ad 42)), (2, .int x8)] [] (wT cs ad s9) := by
  intro n
  induction n with
  | zero =>
    intro x8 s9 hf
    cases (show (none : Option ST) = some r from hf)
  | succ n ih =>
    intro x8 s9 hf
    rw [f_X0_become_20_42_L106] at hf
    refine g_iload_n 2 dX0_become_106 rfl rfl ?_
    refine g_aload_n 0 dX0_become_107 rfl rfl ?_
    refine g_get (ci := 0) (T := TX0) (N := 15) 20 7 (.int (B_trials (T_book s9))) dX0_become_108 iX0_become_X0 rfl jX0_become_43 (by decide) wlaT_20 rfl ?_
    refine g_icmp_ge (tgt := 156) dX0_become_111 (by decide) (fun h10 => ?_) (fun h10 => ?_)
    · have hf := ift h10 hf
      refine g_aload_n 0 dX0_become_156 rfl rfl ?_
      refine g_aload_n 1 dX0_become_157 rfl rfl ?_
      refine g_get (ci := 0) (T := TX0) (N := 15) 42 11 (.int (B_looks (T_img1 s9))) dX0_become_158 iX0_become_X0 rfl jX0_become_46 (by decide) wlaT_42 rfl ?_
      obtain ⟨z11, e_z11, hf⟩ := olt_some hf
      refine g_cast rfl rfl (congrArg (fun q => Value.int q :: [.ref (ad 20)]) e_z11) rfl ?_
      obtain ⟨s12, e_s12, hf⟩ := olt_some hf
      refine g_put (ci := 0) (T := TX0) (N := 15) (ty := .int) (w2 := (wT cs ad s12)) 20 11 (.int z11) tyX0 dX0_become_161 iX0_become_X0 tyX0_ok nmX0 rfl jX0_become_46 (by decide) rfl rfl rfl rfl wlaT_20 (Nat.le_of_ble_eq_true rfl) (wlpT_20_11.trans (congrArg (wT cs ad) e_s12)) ?_
      refine g_aload_n 0 dX0_become_164 rfl rfl ?_
      refine g_aload_n 1 dX0_become_165 rfl rfl ?_
      refine g_get (ci := 0) (T := TX0) (N := 15) 42 12 (.long (B_lookRows (T_img1 s12))) dX0_become_166 iX0_become_X0 rfl jX0_become_49 (by decide) wlaT_42 rfl ?_
      obtain ⟨z13, e_z13, hf⟩ := olt_some hf
      refine g_cast rfl rfl (congrArg (fun q => Value.long q :: [.ref (ad 20)]) e_z13) rfl ?_
      obtain ⟨s14, e_s14, hf⟩ := olt_some hf
      refine g_put (ci := 0) (T := TX0) (N := 15) (ty := .long) (w2 := (wT cs ad s14)) 20 12 (.long z13) tyX0 dX0_become_169 iX0_become_X0 tyX0_ok nmX0 rfl jX0_become_49 (by decide) rfl rfl rfl rfl wlaT_20 (Nat.le_of_ble_eq_true rfl) (wlpT_20_12.trans (congrArg (wT cs ad) e_s14)) ?_
      refine g_aload_n 0 dX0_become_172 rfl rfl ?_
      refine g_aload_n 1 dX0_become_173 rfl rfl ?_
      refine g_get (ci := 0) (T := TX0) (N := 15) 42 13 (.long (B_lookAll (T_img1 s14))) dX0_become_174 iX0_become_X0 rfl jX0_become_53 (by decide) wlaT_42 rfl ?_
      obtain ⟨z15, e_z15, hf⟩ := olt_some hf
      refine g_cast rfl rfl (congrArg (fun q => Value.long q :: [.ref (ad 20)]) e_z15) rfl ?_
      obtain ⟨s16, e_s16, hf⟩ := olt_some hf
      refine g_put (ci := 0) (T := TX0) (N := 15) (ty := .long) (w2 := (wT cs ad s16)) 20 13 (.long z15) tyX0 dX0_become_177 iX0_become_X0 tyX0_ok nmX0 rfl jX0_become_53 (by decide) rfl rfl rfl rfl wlaT_20 (Nat.le_of_ble_eq_true rfl) (wlpT_20_13.trans (congrArg (wT cs ad) e_s16)) ?_
      refine g_aload_n 0 dX0_become_180 rfl rfl ?_
      refine g_aload_n 1 dX0_become_181 rfl rfl ?_
      refine g_get (ci := 0) (T := TX0) (N := 15) 42 14 (.int (B_lot (T_img1 s16))) dX0_become_182 iX0_become_X0 rfl jX0_become_56 (by decide) wlaT_42 rfl ?_
      obtain ⟨z17, e_z17, hf⟩ := olt_some hf
      refine g_cast rfl rfl (congrArg (fun q => Value.int q :: [.ref (ad 20)]) e_z17) rfl ?_
      obtain ⟨s18, e_s18, hf⟩ := olt_some hf
      refine g_put (ci := 0) (T := TX0) (N := 15) (ty := .int) (w2 := (wT cs ad s18)) 20 14 (.int z17) tyX0 dX0_become_185 iX0_become_X0 tyX0_ok nmX0 rfl jX0_become_56 (by decide) rfl rfl rfl rfl wlaT_20 (Nat.le_of_ble_eq_true rfl) (wlpT_20_14.trans (congrArg (wT cs ad) e_s18)) ?_
      obtain rfl := Option.some.inj hf
      exact hr _ _ dX0_become_188
    · have hf := iff_ h10 hf
      refine g_aload_n 0 dX0_become_114 rfl rfl ?_
      refine g_get (ci := 0) (T := TX0) (N := 15) 20 8 (.ref (ad 27)) dX0_become_115 iX0_become_X0 rfl jX0_become_30 (by decide) wlaT_20 rfl ?_
      refine g_iload_n 2 dX0_become_118 rfl rfl ?_
      refine g_aload_n 1 dX0_become_119 rfl rfl ?_
      refine g_get (ci := 0) (T := TX0) (N := 15) 42 8 (.ref (ad 49)) dX0_become_120 iX0_become_X0 rfl jX0_become_30 (by decide) wlaT_42 rfl ?_
      refine g_iload_n 2 dX0_become_123 rfl rfl ?_
      obtain ⟨h19, hf⟩ := ochi_some hf
      refine g_iald 49 0 dX0_become_124 wlaT_49 (tI hty) h19 ?_
      obtain ⟨z20, e_z20, hf⟩ := olt_some hf
      refine g_cast rfl rfl (congrArg (fun q => Value.int q :: [.int x8, .ref (ad 27)]) e_z20) rfl ?_
      obtain ⟨h21, hf⟩ := ochi_some hf
      obtain ⟨s22, e_s22, hf⟩ := olt_some hf
      refine g_iast (w2 := (wT cs ad s22)) 27 0 dX0_become_125 wlaT_27 (tI hty) h21 (wlsT_27.trans (congrArg (wT cs ad) e_s22)) ?_
      refine g_aload_n 0 dX0_become_126 rfl rfl ?_
      refine g_get (ci := 0) (T := TX0) (N := 15) 20 9 (.ref (ad 28)) dX0_become_127 iX0_become_X0 rfl jX0_become_33 (by decide) wlaT_20 rfl ?_
      refine g_iload_n 2 dX0_become_130 rfl rfl ?_
      refine g_aload_n 1 dX0_become_131 rfl rfl ?_
      refine g_get (ci := 0) (T := TX0) (N := 15) 42 9 (.ref (ad 50)) dX0_become_132 iX0_become_X0 rfl jX0_become_33 (by decide) wlaT_42 rfl ?_
      refine g_iload_n 2 dX0_become_135 rfl rfl ?_
      obtain ⟨h23, hf⟩ := ochi_some hf
      refine g_iald 50 0 dX0_become_136 wlaT_50 (tI hty) h23 ?_
      obtain ⟨z24, e_z24, hf⟩ := olt_some hf
      refine g_cast rfl rfl (congrArg (fun q => Value.int q :: [.int x8, .ref (ad 28)]) e_z24) rfl ?_
      obtain ⟨h25, hf⟩ := ochi_some hf
      obtain ⟨s26, e_s26, hf⟩ := olt_some hf
      refine g_iast (w2 := (wT cs ad s26)) 28 0 dX0_become_137 wlaT_28 (tI hty) h25 (wlsT_28.trans (congrArg (wT cs ad) e_s26)) ?_
      refine g_aload_n 0 dX0_become_138 rfl rfl ?_
      refine g_get (ci := 0) (T := TX0) (N := 15) 20 10 (.ref (ad 29)) dX0_become_139 iX0_become_X0 rfl jX0_become_36 (by decide) wlaT_20 rfl ?_
      refine g_iload_n 2 dX0_become_142 rfl rfl ?_
      refine g_aload_n 1 dX0_become_143 rfl rfl ?_
      refine g_get (ci := 0) (T := TX0) (N := 15) 42 10 (.ref (ad 51)) dX0_become_144 iX0_become_X0 rfl jX0_become_36 (by decide) wlaT_42 rfl ?_
      refine g_iload_n 2 dX0_become_147 rfl rfl ?_
      obtain ⟨h27, hf⟩ := ochi_some hf
      refine g_iald 51 0 dX0_become_148 wlaT_51 (tI hty) h27 ?_
      obtain ⟨z28, e_z28, hf⟩ := olt_some hf
      refine g_cast rfl rfl (congrArg (fun q => Value.int q :: [.int x8, .ref (ad 29)]) e_z28) rfl ?_
      obtain ⟨h29, hf⟩ := ochi_some hf
      obtain ⟨s30, e_s30, hf⟩ := olt_some hf
      refine g_iast (w2 := (wT cs ad s30)) 29 0 dX0_become_149 wlaT_29 (tI hty) h29 (wlsT_29.trans (congrArg (wT cs ad) e_s30)) ?_
      refine g_iinc (lv2 := [(2, .int (x8 + 1)), (0, .ref (ad 20)), (1, .ref (ad 42))]) 2 dX0_become_150 rfl (ii1 _) (by decide) rfl ?_
      refine g_goto (tgt := 106) dX0_become_153 (by decide) ?_
      exact g_sub [1, 2, 0] rfl (ih (x8 + 1) s30 hf)

set_option maxHeartbeats 4000000 in
set_option maxRecDepth 100000 in
theorem w_X0_become_20_42_L10 {E : GE} {cs : CS} {ad : Nat → Nat} {F : Nat} {r : ST} (hty : eT E = tyA cs) (hr : Rv E kX0_become (wT cs ad r)) : ∀ (n : Nat) (x3 : Int32) (s4 : ST), f_X0_become_20_42_L10 F n x3 s4 = some r → G E kX0_become 0 0 10 [(0, .ref (ad 20)), (1, .ref (ad 42)), (2, .int x3)] [] (wT cs ad s4) := by
  intro n
  induction n with
  | zero =>
    intro x3 s4 hf
    cases (show (none : Option ST) = some r from hf)
  | succ n ih =>
    intro x3 s4 hf
    rw [f_X0_become_20_42_L10] at hf
    refine g_iload_n 2 dX0_become_10 rfl rfl ?_
    refine g_aload_n 0 dX0_become_11 rfl rfl ?_
    refine g_get (ci := 0) (T := TX0) (N := 15) 20 0 (.int (B_bags (T_book s4))) dX0_become_12 iX0_become_X0 rfl jX0_become_39 (by decide) wlaT_20 rfl ?_
    refine g_icmp_ge (tgt := 96) dX0_become_15 (by decide) (fun h5 => ?_) (fun h5 => ?_)
    · have hf := ift h5 hf
      refine g_aload_n 0 dX0_become_96 rfl rfl ?_
      refine g_aload_n 1 dX0_become_97 rfl rfl ?_
      refine g_get (ci := 0) (T := TX0) (N := 15) 42 7 (.int (B_trials (T_img1 s4))) dX0_become_98 iX0_become_X0 rfl jX0_become_43 (by decide) wlaT_42 rfl ?_
      obtain ⟨z6, e_z6, hf⟩ := olt_some hf
      refine g_cast rfl rfl (congrArg (fun q => Value.int q :: [.ref (ad 20)]) e_z6) rfl ?_
      obtain ⟨s7, e_s7, hf⟩ := olt_some hf
      refine g_put (ci := 0) (T := TX0) (N := 15) (ty := .int) (w2 := (wT cs ad s7)) 20 7 (.int z6) tyX0 dX0_become_101 iX0_become_X0 tyX0_ok nmX0 rfl jX0_become_43 (by decide) rfl rfl rfl rfl wlaT_20 (Nat.le_of_ble_eq_true rfl) (wlpT_20_7.trans (congrArg (wT cs ad) e_s7)) ?_
      refine g_iconst (v := (0 : Int32)) dX0_become_104 (by decide) ?_
      refine g_istore_n (lv2 := [(2, .int (0 : Int32)), (0, .ref (ad 20)), (1, .ref (ad 42))]) dX0_become_105 rfl (by decide) rfl ?_
      exact g_sub [1, 2, 0] rfl (w_X0_become_20_42_L106 hty hr F (0 : Int32) s7 hf)
    · have hf := iff_ h5 hf
      refine g_aload_n 0 dX0_become_18 rfl rfl ?_
      refine g_get (ci := 0) (T := TX0) (N := 15) 20 1 (.ref (ad 21)) dX0_become_19 iX0_become_X0 rfl jX0_become_9 (by decide) wlaT_20 rfl ?_
      refine g_iload_n 2 dX0_become_22 rfl rfl ?_
      refine g_aload_n 1 dX0_become_23 rfl rfl ?_
      refine g_get (ci := 0) (T := TX0) (N := 15) 42 1 (.ref (ad 43)) dX0_become_24 iX0_become_X0 rfl jX0_become_9 (by decide) wlaT_42 rfl ?_
      refine g_iload_n 2 dX0_become_27 rfl rfl ?_
      obtain ⟨h31, hf⟩ := ochi_some hf
      refine g_iald 43 0 dX0_become_28 wlaT_43 (tI hty) h31 ?_
      obtain ⟨z32, e_z32, hf⟩ := olt_some hf
      refine g_cast rfl rfl (congrArg (fun q => Value.int q :: [.int x3, .ref (ad 21)]) e_z32) rfl ?_
      obtain ⟨h33, hf⟩ := ochi_some hf
      obtain ⟨s34, e_s34, hf⟩ := olt_some hf
      refine g_iast (w2 := (wT cs ad s34)) 21 0 dX0_become_29 wlaT_21 (tI hty) h33 (wlsT_21.trans (congrArg (wT cs ad) e_s34)) ?_
      refine g_aload_n 0 dX0_become_30 rfl rfl ?_
      refine g_get (ci := 0) (T := TX0) (N := 15) 20 2 (.ref (ad 22)) dX0_become_31 iX0_become_X0 rfl jX0_become_15 (by decide) wlaT_20 rfl ?_
      refine g_iload_n 2 dX0_become_34 rfl rfl ?_
      refine g_aload_n 1 dX0_become_35 rfl rfl ?_
      refine g_get (ci := 0) (T := TX0) (N := 15) 42 2 (.ref (ad 44)) dX0_become_36 iX0_become_X0 rfl jX0_become_15 (by decide) wlaT_42 rfl ?_
      refine g_iload_n 2 dX0_become_39 rfl rfl ?_
      obtain ⟨h35, hf⟩ := ochi_some hf
      refine g_iald 44 0 dX0_become_40 wlaT_44 (tI hty) h35 ?_
      obtain ⟨z36, e_z36, hf⟩ := olt_some hf
      refine g_cast rfl rfl (congrArg (fun q => Value.int q :: [.int x3, .ref (ad 22)]) e_z36) rfl ?_
      obtain ⟨h37, hf⟩ := ochi_some hf
      obtain ⟨s38, e_s38, hf⟩ := olt_some hf
      refine g_iast (w2 := (wT cs ad s38)) 22 0 dX0_become_41 wlaT_22 (tI hty) h37 (wlsT_22.trans (congrArg (wT cs ad) e_s38)) ?_
      refine g_aload_n 0 dX0_become_42 rfl rfl ?_
      refine g_get (ci := 0) (T := TX0) (N := 15) 20 3 (.ref (ad 23)) dX0_become_43 iX0_become_X0 rfl jX0_become_18 (by decide) wlaT_20 rfl ?_
      refine g_iload_n 2 dX0_become_46 rfl rfl ?_
      refine g_aload_n 1 dX0_become_47 rfl rfl ?_
      refine g_get (ci := 0) (T := TX0) (N := 15) 42 3 (.ref (ad 45)) dX0_become_48 iX0_become_X0 rfl jX0_become_18 (by decide) wlaT_42 rfl ?_
      refine g_iload_n 2 dX0_become_51 rfl rfl ?_
      obtain ⟨h39, hf⟩ := ochi_some hf
      refine g_iald 45 0 dX0_become_52 wlaT_45 (tI hty) h39 ?_
      obtain ⟨z40, e_z40, hf⟩ := olt_some hf
      refine g_cast rfl rfl (congrArg (fun q => Value.int q :: [.int x3, .ref (ad 23)]) e_z40) rfl ?_
      obtain ⟨h41, hf⟩ := ochi_some hf
      obtain ⟨s42, e_s42, hf⟩ := olt_some hf
      refine g_iast (w2 := (wT cs ad s42)) 23 0 dX0_become_53 wlaT_23 (tI hty) h41 (wlsT_23.trans (congrArg (wT cs ad) e_s42)) ?_
      refine g_aload_n 0 dX0_become_54 rfl rfl ?_
      refine g_get (ci := 0) (T := TX0) (N := 15) 20 4 (.ref (ad 24)) dX0_become_55 iX0_become_X0 rfl jX0_become_21 (by decide) wlaT_20 rfl ?_
      refine g_iload_n 2 dX0_become_58 rfl rfl ?_
      refine g_aload_n 1 dX0_become_59 rfl rfl ?_
      refine g_get (ci := 0) (T := TX0) (N := 15) 42 4 (.ref (ad 46)) dX0_become_60 iX0_become_X0 rfl jX0_become_21 (by decide) wlaT_42 rfl ?_
      refine g_iload_n 2 dX0_become_63 rfl rfl ?_
      obtain ⟨h43, hf⟩ := ochi_some hf
      refine g_iald 46 0 dX0_become_64 wlaT_46 (tI hty) h43 ?_
      obtain ⟨z44, e_z44, hf⟩ := olt_some hf
      refine g_cast rfl rfl (congrArg (fun q => Value.int q :: [.int x3, .ref (ad 24)]) e_z44) rfl ?_
      obtain ⟨h45, hf⟩ := ochi_some hf
      obtain ⟨s46, e_s46, hf⟩ := olt_some hf
      refine g_iast (w2 := (wT cs ad s46)) 24 0 dX0_become_65 wlaT_24 (tI hty) h45 (wlsT_24.trans (congrArg (wT cs ad) e_s46)) ?_
      refine g_aload_n 0 dX0_become_66 rfl rfl ?_
      refine g_get (ci := 0) (T := TX0) (N := 15) 20 5 (.ref (ad 25)) dX0_become_67 iX0_become_X0 rfl jX0_become_24 (by decide) wlaT_20 rfl ?_
      refine g_iload_n 2 dX0_become_70 rfl rfl ?_
      refine g_aload_n 1 dX0_become_71 rfl rfl ?_
      refine g_get (ci := 0) (T := TX0) (N := 15) 42 5 (.ref (ad 47)) dX0_become_72 iX0_become_X0 rfl jX0_become_24 (by decide) wlaT_42 rfl ?_
      refine g_iload_n 2 dX0_become_75 rfl rfl ?_
      obtain ⟨h47, hf⟩ := ochi_some hf
      refine g_iald 47 0 dX0_become_76 wlaT_47 (tI hty) h47 ?_
      obtain ⟨z48, e_z48, hf⟩ := olt_some hf
      refine g_cast rfl rfl (congrArg (fun q => Value.int q :: [.int x3, .ref (ad 25)]) e_z48) rfl ?_
      obtain ⟨h49, hf⟩ := ochi_some hf
      obtain ⟨s50, e_s50, hf⟩ := olt_some hf
      refine g_iast (w2 := (wT cs ad s50)) 25 0 dX0_become_77 wlaT_25 (tI hty) h49 (wlsT_25.trans (congrArg (wT cs ad) e_s50)) ?_
      refine g_aload_n 0 dX0_become_78 rfl rfl ?_
      refine g_get (ci := 0) (T := TX0) (N := 15) 20 6 (.ref (ad 26)) dX0_become_79 iX0_become_X0 rfl jX0_become_27 (by decide) wlaT_20 rfl ?_
      refine g_iload_n 2 dX0_become_82 rfl rfl ?_
      refine g_aload_n 1 dX0_become_83 rfl rfl ?_
      refine g_get (ci := 0) (T := TX0) (N := 15) 42 6 (.ref (ad 48)) dX0_become_84 iX0_become_X0 rfl jX0_become_27 (by decide) wlaT_42 rfl ?_
      refine g_iload_n 2 dX0_become_87 rfl rfl ?_
      obtain ⟨h51, hf⟩ := ochi_some hf
      refine g_iald 48 0 dX0_become_88 wlaT_48 (tI hty) h51 ?_
      obtain ⟨z52, e_z52, hf⟩ := olt_some hf
      refine g_cast rfl rfl (congrArg (fun q => Value.int q :: [.int x3, .ref (ad 26)]) e_z52) rfl ?_
      obtain ⟨h53, hf⟩ := ochi_some hf
      obtain ⟨s54, e_s54, hf⟩ := olt_some hf
      refine g_iast (w2 := (wT cs ad s54)) 26 0 dX0_become_89 wlaT_26 (tI hty) h53 (wlsT_26.trans (congrArg (wT cs ad) e_s54)) ?_
      refine g_iinc (lv2 := [(2, .int (x3 + 1)), (0, .ref (ad 20)), (1, .ref (ad 42))]) 2 dX0_become_90 rfl (ii1 _) (by decide) rfl ?_
      refine g_goto (tgt := 10) dX0_become_93 (by decide) ?_
      exact g_sub [1, 2, 0] rfl (ih (x3 + 1) s54 hf)

set_option maxHeartbeats 4000000 in
set_option maxRecDepth 100000 in
theorem c_X0_become_20_42 {l : Launch} {D : va_G} {tys : List (ClassId × FieldType)} {X : XT} {cs : CS} (ad : Nat → Nat) {F : Nat} {s : ST} {r : ST} (htyM : tys = tyA cs) (hf : f_X0_become_20_42 F s = some r) : Cv l D tys X yX0_become wsX0_become rmX0_become [.ref (ad 20), .ref (ad 42)] (wT cs ad s) (wT cs ad r) := by
  refine Cv_ofG (by decide +kernel) rfl (Nat.le_of_ble_eq_true rfl) (fun E _ _ hty0 hX0 hr => ?_)
  have hty := hty0.trans htyM
  have hr : Rv E kX0_become (wT cs ad r) := hr
  show G E kX0_become 0 0 0 [(0, .ref (ad 20)), (1, .ref (ad 42))] [] (wT cs ad s)
  unfold f_X0_become_20_42 at hf
  refine g_aload_n 0 dX0_become_0 rfl rfl ?_
  refine g_aload_n 1 dX0_become_1 rfl rfl ?_
  refine g_get (ci := 0) (T := TX0) (N := 15) 42 0 (.int (B_bags (T_img1 s))) dX0_become_2 iX0_become_X0 rfl jX0_become_39 (by decide) wlaT_42 rfl ?_
  obtain ⟨z1, e_z1, hf⟩ := olt_some hf
  refine g_cast rfl rfl (congrArg (fun q => Value.int q :: [.ref (ad 20)]) e_z1) rfl ?_
  obtain ⟨s2, e_s2, hf⟩ := olt_some hf
  refine g_put (ci := 0) (T := TX0) (N := 15) (ty := .int) (w2 := (wT cs ad s2)) 20 0 (.int z1) tyX0 dX0_become_5 iX0_become_X0 tyX0_ok nmX0 rfl jX0_become_39 (by decide) rfl rfl rfl rfl wlaT_20 (Nat.le_of_ble_eq_true rfl) (wlpT_20_0.trans (congrArg (wT cs ad) e_s2)) ?_
  refine g_iconst (v := (0 : Int32)) dX0_become_8 (by decide) ?_
  refine g_istore_n (lv2 := [(2, .int (0 : Int32)), (0, .ref (ad 20)), (1, .ref (ad 42))]) dX0_become_9 rfl (by decide) rfl ?_
  exact g_sub [1, 2, 0] rfl (w_X0_become_20_42_L10 hty hr F (0 : Int32) s2 hf)

-- ThumbScale isStall (I)Z
def rmX5_isStall : Room := { frames := 0, cells := 0, slots := 0, locals := 0 }
def kX5_isStall : MK := (cX5_isStall, 2, RX5, wsX5_isStall, (some .boolean), rmX5_isStall)

set_option maxRecDepth 20000 in
theorem jX5_isStall_16 : Cond.fieldLink RX5 16 (TX5 3).1 (TX5 3).2.1 (TX5 3).2.2.1 ∈ wsX5_isStall := by decide +kernel
set_option maxRecDepth 20000 in
theorem iX5_isStall_X5 : ∀ x ∈ u_ws RX5 TX5 16, x ∈ wsX5_isStall := by decide +kernel
set_option maxRecDepth 20000 in
theorem jX5_isStall_270 : Cond.fieldLink RX5 270 (TX2 3).1 (TX2 3).2.1 (TX2 3).2.2.1 ∈ wsX5_isStall := by decide +kernel
set_option maxRecDepth 20000 in
theorem iX5_isStall_X2 : ∀ x ∈ u_ws RX2 TX2 12, x ∈ wsX5_isStall := by decide +kernel
def f_X5_isStall (F : Nat) (s : ST) (a1 : Int32) : Option Int32 :=
    (if a1 < 0 then
    some (0 : Int32)
    else
    (if (M_stalls (T_market s)) ≤ a1 then
    some (0 : Int32)
    else
    some (1 : Int32)))

set_option maxHeartbeats 4000000 in
set_option maxRecDepth 100000 in
theorem c_X5_isStall {l : Launch} {D : va_G} {tys : List (ClassId × FieldType)} {X : XT} {cs : CS} (ad : Nat → Nat) {F : Nat} {s : ST} {a1 : Int32} {r : Int32} (htyM : tys = tyA cs) (hf : f_X5_isStall F s a1 = some r) : Ci l D tys X yX5_isStall wsX5_isStall rmX5_isStall [.ref (ad 0), .int a1] (wT cs ad s) r (wT cs ad s) := by
  refine Cz_ofG (by decide +kernel) rfl (Nat.le_of_ble_eq_true rfl) (fun E _ _ hty0 hX0 hr => ?_)
  have hty := hty0.trans htyM
  have hr : Rz E kX5_isStall r (wT cs ad s) := hr
  show G E kX5_isStall 0 0 0 [(0, .ref (ad 0)), (1, .int a1)] [] (wT cs ad s)
  unfold f_X5_isStall at hf
  refine g_iload_n 1 dX5_isStall_0 rfl rfl ?_
  refine g_if_lt (tgt := 19) dX5_isStall_1 (by decide) (fun h1 => ?_) (fun h1 => ?_)
  · have hf := ift h1 hf
    refine g_iconst (v := (0 : Int32)) dX5_isStall_19 (by decide) ?_
    obtain rfl := Option.some.inj hf
    exact hr _ _ dX5_isStall_20 (Or.inl rfl)
  · have hf := iff_ h1 hf
    refine g_iload_n 1 dX5_isStall_4 rfl rfl ?_
    refine g_aload_n 0 dX5_isStall_5 rfl rfl ?_
    refine g_get (ci := 5) (T := TX5) (N := 16) 0 3 (.ref (ad 11)) dX5_isStall_6 iX5_isStall_X5 rfl jX5_isStall_16 (by decide) wlaT_0 rfl ?_
    refine g_get (ci := 2) (T := TX2) (N := 12) 11 3 (.int (M_stalls (T_market s))) dX5_isStall_9 iX5_isStall_X2 rfl jX5_isStall_270 (by decide) wlaT_11 rfl ?_
    refine g_icmp_ge (tgt := 19) dX5_isStall_12 (by decide) (fun h2 => ?_) (fun h2 => ?_)
    · have hf := ift h2 hf
      refine g_iconst (v := (0 : Int32)) dX5_isStall_19 (by decide) ?_
      obtain rfl := Option.some.inj hf
      exact hr _ _ dX5_isStall_20 (Or.inl rfl)
    · have hf := iff_ h2 hf
      refine g_iconst (v := (1 : Int32)) dX5_isStall_15 (by decide) ?_
      refine g_goto (tgt := 20) dX5_isStall_16 (by decide) ?_
      obtain rfl := Option.some.inj hf
      exact hr _ _ dX5_isStall_20 (Or.inr rfl)

-- ThumbScale isWay (I)Z
def rmX5_isWay : Room := { frames := 0, cells := 0, slots := 0, locals := 0 }
def kX5_isWay : MK := (cX5_isWay, 2, RX5, wsX5_isWay, (some .boolean), rmX5_isWay)

set_option maxRecDepth 20000 in
theorem jX5_isWay_16 : Cond.fieldLink RX5 16 (TX5 3).1 (TX5 3).2.1 (TX5 3).2.2.1 ∈ wsX5_isWay := by decide +kernel
set_option maxRecDepth 20000 in
theorem iX5_isWay_X5 : ∀ x ∈ u_ws RX5 TX5 16, x ∈ wsX5_isWay := by decide +kernel
set_option maxRecDepth 20000 in
theorem jX5_isWay_230 : Cond.fieldLink RX5 230 (TX2 7).1 (TX2 7).2.1 (TX2 7).2.2.1 ∈ wsX5_isWay := by decide +kernel
set_option maxRecDepth 20000 in
theorem iX5_isWay_X2 : ∀ x ∈ u_ws RX2 TX2 12, x ∈ wsX5_isWay := by decide +kernel
def f_X5_isWay (F : Nat) (s : ST) (a1 : Int32) : Option Int32 :=
    (if a1 < 0 then
    some (0 : Int32)
    else
    (if (M_ways (T_market s)) ≤ a1 then
    some (0 : Int32)
    else
    some (1 : Int32)))

set_option maxHeartbeats 4000000 in
set_option maxRecDepth 100000 in
theorem c_X5_isWay {l : Launch} {D : va_G} {tys : List (ClassId × FieldType)} {X : XT} {cs : CS} (ad : Nat → Nat) {F : Nat} {s : ST} {a1 : Int32} {r : Int32} (htyM : tys = tyA cs) (hf : f_X5_isWay F s a1 = some r) : Ci l D tys X yX5_isWay wsX5_isWay rmX5_isWay [.ref (ad 0), .int a1] (wT cs ad s) r (wT cs ad s) := by
  refine Cz_ofG (by decide +kernel) rfl (Nat.le_of_ble_eq_true rfl) (fun E _ _ hty0 hX0 hr => ?_)
  have hty := hty0.trans htyM
  have hr : Rz E kX5_isWay r (wT cs ad s) := hr
  show G E kX5_isWay 0 0 0 [(0, .ref (ad 0)), (1, .int a1)] [] (wT cs ad s)
  unfold f_X5_isWay at hf
  refine g_iload_n 1 dX5_isWay_0 rfl rfl ?_
  refine g_if_lt (tgt := 19) dX5_isWay_1 (by decide) (fun h1 => ?_) (fun h1 => ?_)
  · have hf := ift h1 hf
    refine g_iconst (v := (0 : Int32)) dX5_isWay_19 (by decide) ?_
    obtain rfl := Option.some.inj hf
    exact hr _ _ dX5_isWay_20 (Or.inl rfl)
  · have hf := iff_ h1 hf
    refine g_iload_n 1 dX5_isWay_4 rfl rfl ?_
    refine g_aload_n 0 dX5_isWay_5 rfl rfl ?_
    refine g_get (ci := 5) (T := TX5) (N := 16) 0 3 (.ref (ad 11)) dX5_isWay_6 iX5_isWay_X5 rfl jX5_isWay_16 (by decide) wlaT_0 rfl ?_
    refine g_get (ci := 2) (T := TX2) (N := 12) 11 7 (.int (M_ways (T_market s))) dX5_isWay_9 iX5_isWay_X2 rfl jX5_isWay_230 (by decide) wlaT_11 rfl ?_
    refine g_icmp_ge (tgt := 19) dX5_isWay_12 (by decide) (fun h2 => ?_) (fun h2 => ?_)
    · have hf := ift h2 hf
      refine g_iconst (v := (0 : Int32)) dX5_isWay_19 (by decide) ?_
      obtain rfl := Option.some.inj hf
      exact hr _ _ dX5_isWay_20 (Or.inl rfl)
    · have hf := iff_ h2 hf
      refine g_iconst (v := (1 : Int32)) dX5_isWay_15 (by decide) ?_
      refine g_goto (tgt := 20) dX5_isWay_16 (by decide) ?_
      obtain rfl := Option.some.inj hf
      exact hr _ _ dX5_isWay_20 (Or.inr rfl)

-- ThumbScale isBag (I)Z
def rmX5_isBag : Room := { frames := 0, cells := 0, slots := 0, locals := 0 }
def kX5_isBag : MK := (cX5_isBag, 2, RX5, wsX5_isBag, (some .boolean), rmX5_isBag)

set_option maxRecDepth 20000 in
theorem jX5_isBag_38 : Cond.fieldLink RX5 38 (TX5 6).1 (TX5 6).2.1 (TX5 6).2.2.1 ∈ wsX5_isBag := by decide +kernel
set_option maxRecDepth 20000 in
theorem iX5_isBag_X5 : ∀ x ∈ u_ws RX5 TX5 16, x ∈ wsX5_isBag := by decide +kernel
set_option maxRecDepth 20000 in
theorem jX5_isBag_137 : Cond.fieldLink RX5 137 (TX0 0).1 (TX0 0).2.1 (TX0 0).2.2.1 ∈ wsX5_isBag := by decide +kernel
set_option maxRecDepth 20000 in
theorem iX5_isBag_X0 : ∀ x ∈ u_ws RX0 TX0 15, x ∈ wsX5_isBag := by decide +kernel
def f_X5_isBag (F : Nat) (s : ST) (a1 : Int32) : Option Int32 :=
    (if a1 < 0 then
    some (0 : Int32)
    else
    (if (B_bags (T_book s)) ≤ a1 then
    some (0 : Int32)
    else
    some (1 : Int32)))

set_option maxHeartbeats 4000000 in
set_option maxRecDepth 100000 in
theorem c_X5_isBag {l : Launch} {D : va_G} {tys : List (ClassId × FieldType)} {X : XT} {cs : CS} (ad : Nat → Nat) {F : Nat} {s : ST} {a1 : Int32} {r : Int32} (htyM : tys = tyA cs) (hf : f_X5_isBag F s a1 = some r) : Ci l D tys X yX5_isBag wsX5_isBag rmX5_isBag [.ref (ad 0), .int a1] (wT cs ad s) r (wT cs ad s) := by
  refine Cz_ofG (by decide +kernel) rfl (Nat.le_of_ble_eq_true rfl) (fun E _ _ hty0 hX0 hr => ?_)
  have hty := hty0.trans htyM
  have hr : Rz E kX5_isBag r (wT cs ad s) := hr
  show G E kX5_isBag 0 0 0 [(0, .ref (ad 0)), (1, .int a1)] [] (wT cs ad s)
  unfold f_X5_isBag at hf
  refine g_iload_n 1 dX5_isBag_0 rfl rfl ?_
  refine g_if_lt (tgt := 19) dX5_isBag_1 (by decide) (fun h1 => ?_) (fun h1 => ?_)
  · have hf := ift h1 hf
    refine g_iconst (v := (0 : Int32)) dX5_isBag_19 (by decide) ?_
    obtain rfl := Option.some.inj hf
    exact hr _ _ dX5_isBag_20 (Or.inl rfl)
  · have hf := iff_ h1 hf
    refine g_iload_n 1 dX5_isBag_4 rfl rfl ?_
    refine g_aload_n 0 dX5_isBag_5 rfl rfl ?_
    refine g_get (ci := 5) (T := TX5) (N := 16) 0 6 (.ref (ad 20)) dX5_isBag_6 iX5_isBag_X5 rfl jX5_isBag_38 (by decide) wlaT_0 rfl ?_
    refine g_get (ci := 0) (T := TX0) (N := 15) 20 0 (.int (B_bags (T_book s))) dX5_isBag_9 iX5_isBag_X0 rfl jX5_isBag_137 (by decide) wlaT_20 rfl ?_
    refine g_icmp_ge (tgt := 19) dX5_isBag_12 (by decide) (fun h2 => ?_) (fun h2 => ?_)
    · have hf := ift h2 hf
      refine g_iconst (v := (0 : Int32)) dX5_isBag_19 (by decide) ?_
      obtain rfl := Option.some.inj hf
      exact hr _ _ dX5_isBag_20 (Or.inl rfl)
    · have hf := iff_ h2 hf
      refine g_iconst (v := (1 : Int32)) dX5_isBag_15 (by decide) ?_
      refine g_goto (tgt := 20) dX5_isBag_16 (by decide) ?_
      obtain rfl := Option.some.inj hf
      exact hr _ _ dX5_isBag_20 (Or.inr rfl)

-- ThumbScale isLook (IIII)Z
def rmX5_isLook : Room := { frames := 1, cells := 0, slots := 0, locals := 22 }
def kX5_isLook : MK := (cX5_isLook, 5, RX5, wsX5_isLook, (some .boolean), rmX5_isLook)

set_option maxRecDepth 20000 in
theorem vX5_isLook_77 : KS kX5_isLook 77 yX5_within wsX5_within rmX5_within 3 := ⟨_, _, _, _, gX5_isLook_X5_within, rfl, rfl, rfl, by decide +kernel, ⟨by decide, by decide⟩⟩
set_option maxRecDepth 20000 in
theorem vX5_isLook_95 : KV kX5_isLook 95 RX5 yX5_isStall wsX5_isStall rmX5_isStall 1 := ⟨_, _, _, _, gX5_isLook_X5_isStall, rfl, rfl, rfl, by decide +kernel, ⟨by decide, by decide⟩⟩
def f_X5_isLook (F : Nat) (s : ST) (a1 : Int32) (a2 : Int32) (a3 : Int32) (a4 : Int32) : Option Int32 :=
    olt (obd (f_X5_within F a2 (0 : Int32) (11 : Int32)) (fun v1 =>
    (if v1 = 0 then
    some (0 : Int32)
    else
    obd (f_X5_within F a3 (0 : Int32) (11 : Int32)) (fun v4 =>
    (if v4 = 0 then
    some (0 : Int32)
    else
    obd (f_X5_within F a4 (0 : Int32) (15 : Int32)) (fun v7 =>
    (if v7 = 0 then
    some (0 : Int32)
    else
    some (1 : Int32)))))))) (fun k10 =>
    (if a1 = (-1 : Int32) then
    k10
    else
    obd (f_X5_isStall F s a1) (fun v12 =>
    (if v12 = 0 then
    some (0 : Int32)
    else
    k10))))

set_option maxHeartbeats 4000000 in
set_option maxRecDepth 100000 in
theorem c_X5_isLook {l : Launch} {D : va_G} {tys : List (ClassId × FieldType)} {X : XT} {cs : CS} (ad : Nat → Nat) {F : Nat} {s : ST} {a1 : Int32} {a2 : Int32} {a3 : Int32} {a4 : Int32} {r : Int32} (htyM : tys = tyA cs) (hf : f_X5_isLook F s a1 a2 a3 a4 = some r) : Ci l D tys X yX5_isLook wsX5_isLook rmX5_isLook [.ref (ad 0), .int a1, .int a2, .int a3, .int a4] (wT cs ad s) r (wT cs ad s) := by
  refine Cz_ofG (by decide +kernel) rfl (Nat.le_of_ble_eq_true rfl) (fun E _ _ hty0 hX0 hr => ?_)
  have hty := hty0.trans htyM
  have hr : Rz E kX5_isLook r (wT cs ad s) := hr
  show G E kX5_isLook 0 0 0 [(0, .ref (ad 0)), (1, .int a1), (2, .int a2), (3, .int a3), (4, .int a4)] [] (wT cs ad s)
  unfold f_X5_isLook at hf
  refine g_iload_n 1 dX5_isLook_0 rfl rfl ?_
  refine g_iconst (v := (-1 : Int32)) dX5_isLook_1 (by decide) ?_
  obtain ⟨k10, e_k10, hf⟩ := olt_some hf
  have K_k10 : k10 = some r → G E kX5_isLook 0 0 13 [(2, .int a2), (3, .int a3), (4, .int a4)] [] (wT cs ad s) := by
    intro hf
    rw [← e_k10] at hf
    refine g_iload_n 0 dX5_isLook_13 rfl rfl ?_
    refine g_iconst (v := (0 : Int32)) dX5_isLook_14 (by decide) ?_
    refine g_bipush (v := (11 : Int32)) dX5_isLook_15 (by decide) ?_
    obtain ⟨v1, hc2, hf⟩ := obd_some hf
    refine g_callSi (As := [.int a2, .int (0 : Int32), .int (11 : Int32)]) (rest := []) (w2 := (wT cs ad s)) 0 dX5_isLook_17 vX5_isLook_77 (c_X5_within hty hc2) rfl (midm _) rfl (Nat.le_of_ble_eq_true rfl) ⟨Nat.zero_le _, Nat.zero_le _⟩ (midn _) ?_
    refine g_if_eq (tgt := 48) dX5_isLook_20 (by decide) (fun h3 => ?_) (fun h3 => ?_)
    · have hf := ift h3 hf
      refine g_iconst (v := (0 : Int32)) dX5_isLook_48 (by decide) ?_
      obtain rfl := Option.some.inj hf
      exact hr _ _ dX5_isLook_49 (Or.inl rfl)
    · have hf := iff_ h3 hf
      refine g_iload_n 1 dX5_isLook_23 rfl rfl ?_
      refine g_iconst (v := (0 : Int32)) dX5_isLook_24 (by decide) ?_
      refine g_bipush (v := (11 : Int32)) dX5_isLook_25 (by decide) ?_
      obtain ⟨v4, hc5, hf⟩ := obd_some hf
      refine g_callSi (As := [.int a3, .int (0 : Int32), .int (11 : Int32)]) (rest := []) (w2 := (wT cs ad s)) 0 dX5_isLook_27 vX5_isLook_77 (c_X5_within hty hc5) rfl (midm _) rfl (Nat.le_of_ble_eq_true rfl) ⟨Nat.zero_le _, Nat.zero_le _⟩ (midn _) ?_
      refine g_if_eq (tgt := 48) dX5_isLook_30 (by decide) (fun h6 => ?_) (fun h6 => ?_)
      · have hf := ift h6 hf
        refine g_iconst (v := (0 : Int32)) dX5_isLook_48 (by decide) ?_
        obtain rfl := Option.some.inj hf
        exact hr _ _ dX5_isLook_49 (Or.inl rfl)
      · have hf := iff_ h6 hf
        refine g_iload 2 dX5_isLook_33 rfl ?_
        refine g_iconst (v := (0 : Int32)) dX5_isLook_35 (by decide) ?_
        refine g_bipush (v := (15 : Int32)) dX5_isLook_36 (by decide) ?_
        obtain ⟨v7, hc8, hf⟩ := obd_some hf
        refine g_callSi (As := [.int a4, .int (0 : Int32), .int (15 : Int32)]) (rest := []) (w2 := (wT cs ad s)) 0 dX5_isLook_38 vX5_isLook_77 (c_X5_within hty hc8) rfl (midm _) rfl (Nat.le_of_ble_eq_true rfl) ⟨Nat.zero_le _, Nat.zero_le _⟩ (midn _) ?_
        refine g_if_eq (tgt := 48) dX5_isLook_41 (by decide) (fun h9 => ?_) (fun h9 => ?_)
        · have hf := ift h9 hf
          refine g_iconst (v := (0 : Int32)) dX5_isLook_48 (by decide) ?_
          obtain rfl := Option.some.inj hf
          exact hr _ _ dX5_isLook_49 (Or.inl rfl)
        · have hf := iff_ h9 hf
          refine g_iconst (v := (1 : Int32)) dX5_isLook_44 (by decide) ?_
          refine g_goto (tgt := 49) dX5_isLook_45 (by decide) ?_
          obtain rfl := Option.some.inj hf
          exact hr _ _ dX5_isLook_49 (Or.inr rfl)
  refine g_icmp_eq (tgt := 13) dX5_isLook_2 (by decide) (fun h11 => ?_) (fun h11 => ?_)
  · have hf := ift h11 hf
    exact g_sub [2, 3, 4] rfl (K_k10 hf)
  · have hf := iff_ h11 hf
    refine g_aload_n 0 dX5_isLook_5 rfl rfl ?_
    refine g_iload_n 1 dX5_isLook_6 rfl rfl ?_
    obtain ⟨v12, hc13, hf⟩ := obd_some hf
    refine g_callVi (ci := 5) (As := [.int a1]) (rest := []) (w2 := (wT cs ad s)) 0 dX5_isLook_7 vX5_isLook_95 (c_X5_isStall ad hty hc13) rfl (mid0 _) rfl rfl 0 wlaT_0 rfl (Nat.le_of_ble_eq_true rfl) ⟨Nat.zero_le _, Nat.zero_le _⟩ (mid2 _ _) ?_
    refine g_if_eq (tgt := 48) dX5_isLook_10 (by decide) (fun h14 => ?_) (fun h14 => ?_)
    · have hf := ift h14 hf
      refine g_iconst (v := (0 : Int32)) dX5_isLook_48 (by decide) ?_
      obtain rfl := Option.some.inj hf
      exact hr _ _ dX5_isLook_49 (Or.inl rfl)
    · have hf := iff_ h14 hf
      exact g_sub [2, 3, 4] rfl (K_k10 hf)

-- ThumbScale seen (IIIII)I
def rmX5_seen : Room := { frames := 0, cells := 0, slots := 0, locals := 0 }
def kX5_seen : MK := (cX5_seen, 11, RX5, wsX5_seen, (some .int), rmX5_seen)

set_option maxRecDepth 20000 in
theorem jX5_seen_38 : Cond.fieldLink RX5 38 (TX5 6).1 (TX5 6).2.1 (TX5 6).2.2.1 ∈ wsX5_seen := by decide +kernel
set_option maxRecDepth 20000 in
theorem iX5_seen_X5 : ∀ x ∈ u_ws RX5 TX5 16, x ∈ wsX5_seen := by decide +kernel
set_option maxRecDepth 20000 in
theorem jX5_seen_137 : Cond.fieldLink RX5 137 (TX0 0).1 (TX0 0).2.1 (TX0 0).2.2.1 ∈ wsX5_seen := by decide +kernel
set_option maxRecDepth 20000 in
theorem iX5_seen_X0 : ∀ x ∈ u_ws RX0 TX0 15, x ∈ wsX5_seen := by decide +kernel
set_option maxRecDepth 20000 in
theorem jX5_seen_140 : Cond.fieldLink RX5 140 (TX0 1).1 (TX0 1).2.1 (TX0 1).2.2.1 ∈ wsX5_seen := by decide +kernel
set_option maxRecDepth 20000 in
theorem jX5_seen_143 : Cond.fieldLink RX5 143 (TX0 2).1 (TX0 2).2.1 (TX0 2).2.2.1 ∈ wsX5_seen := by decide +kernel
set_option maxRecDepth 20000 in
theorem jX5_seen_146 : Cond.fieldLink RX5 146 (TX0 3).1 (TX0 3).2.1 (TX0 3).2.2.1 ∈ wsX5_seen := by decide +kernel
set_option maxRecDepth 20000 in
theorem jX5_seen_155 : Cond.fieldLink RX5 155 (TX0 6).1 (TX0 6).2.1 (TX0 6).2.2.1 ∈ wsX5_seen := by decide +kernel
def f_X5_seen_L6 (F : Nat) (s : ST) (a1 : Int32) (a2 : Int32) (a3 : Int32) (a4 : Int32) (a5 : Int32) : Nat → Int32 → Int32 → Option Int32
  | 0, _, _ => none
  | n + 1, x1, x2 =>
    (if (B_bags (T_book s)) ≤ x2 then
    some x1
    else
    obd ((if a1 = (-1 : Int32) then
    some (1 : Int32)
    else
    ochi x2 30 (
    (if ((B_bagStall (T_book s)) (Int32.toNatClampNeg x2)) = a1 then
    some (1 : Int32)
    else
    some (0 : Int32))))) (fun v7 =>
    ochi x2 30 (
    obd ((if ((B_bagHour (T_book s)) (Int32.toNatClampNeg x2)) < a2 then
    some (0 : Int32)
    else
    ochi x2 30 (
    (if a3 < ((B_bagHour (T_book s)) (Int32.toNatClampNeg x2)) then
    some (0 : Int32)
    else
    some (1 : Int32))))) (fun v15 =>
    ochi x2 30 (
    obd ((if ((a4 >>> (((B_bagSort (T_book s)) (Int32.toNatClampNeg x2)) &&& 31)) &&& (1 : Int32)) = (1 : Int32) then
    some (1 : Int32)
    else
    some (0 : Int32))) (fun v21 =>
    (if v7 = 0 then
    f_X5_seen_L6 F s a1 a2 a3 a4 a5 n x1 (x2 + 1)
    else
    (if v15 = 0 then
    f_X5_seen_L6 F s a1 a2 a3 a4 a5 n x1 (x2 + 1)
    else
    (if v21 = 0 then
    f_X5_seen_L6 F s a1 a2 a3 a4 a5 n x1 (x2 + 1)
    else
    ochi x2 30 (
    (if ((B_bagSteps (T_book s)) (Int32.toNatClampNeg x2)) < a5 then
    f_X5_seen_L6 F s a1 a2 a3 a4 a5 n x1 (x2 + 1)
    else
    f_X5_seen_L6 F s a1 a2 a3 a4 a5 n (x1 + 1) (x2 + 1))))))))))))

def f_X5_seen (F : Nat) (s : ST) (a1 : Int32) (a2 : Int32) (a3 : Int32) (a4 : Int32) (a5 : Int32) : Option Int32 :=
    f_X5_seen_L6 F s a1 a2 a3 a4 a5 F (0 : Int32) (0 : Int32)

set_option maxHeartbeats 4000000 in
set_option maxRecDepth 100000 in
theorem w_X5_seen_L6 {E : GE} {cs : CS} {ad : Nat → Nat} {F : Nat} {s : ST} {a1 : Int32} {a2 : Int32} {a3 : Int32} {a4 : Int32} {a5 : Int32} {r : Int32} (hty : eT E = tyA cs) (hr : Ri E kX5_seen r (wT cs ad s)) : ∀ (n : Nat) (x1 : Int32) (x2 : Int32), f_X5_seen_L6 F s a1 a2 a3 a4 a5 n x1 x2 = some r → G E kX5_seen 0 0 6 [(0, .ref (ad 0)), (1, .int a1), (2, .int a2), (3, .int a3), (4, .int a4), (5, .int a5), (6, .int x1), (7, .int x2)] [] (wT cs ad s) := by
  intro n
  induction n with
  | zero =>
    intro x1 x2 hf
    cases (show (none : Option Int32) = some r from hf)
  | succ n ih =>
    intro x1 x2 hf
    rw [f_X5_seen_L6] at hf
    refine g_iload 7 dX5_seen_6 rfl ?_
    refine g_aload_n 0 dX5_seen_8 rfl rfl ?_
    refine g_get (ci := 5) (T := TX5) (N := 16) 0 6 (.ref (ad 20)) dX5_seen_9 iX5_seen_X5 rfl jX5_seen_38 (by decide) wlaT_0 rfl ?_
    refine g_get (ci := 0) (T := TX0) (N := 15) 20 0 (.int (B_bags (T_book s))) dX5_seen_12 iX5_seen_X0 rfl jX5_seen_137 (by decide) wlaT_20 rfl ?_
    refine g_icmp_ge (tgt := 144) dX5_seen_15 (by decide) (fun h3 => ?_) (fun h3 => ?_)
    · have hf := ift h3 hf
      refine g_iload 6 dX5_seen_144 rfl ?_
      obtain rfl := Option.some.inj hf
      exact hr _ _ dX5_seen_146
    · have hf := iff_ h3 hf
      refine g_iload_n 1 dX5_seen_18 rfl rfl ?_
      refine g_iconst (v := (-1 : Int32)) dX5_seen_19 (by decide) ?_
      obtain ⟨v7, hE_v7, hf⟩ := obd_some hf
      have J_v7 : G E kX5_seen 0 0 42 [(0, .ref (ad 0)), (1, .int a1), (2, .int a2), (3, .int a3), (4, .int a4), (5, .int a5), (6, .int x1), (7, .int x2)] [.int v7] (wT cs ad s) := by
        refine g_istore (lv2 := [(8, .int v7), (0, .ref (ad 0)), (1, .int a1), (2, .int a2), (3, .int a3), (4, .int a4), (5, .int a5), (6, .int x1), (7, .int x2)]) dX5_seen_42 (by decide) rfl ?_
        refine g_aload_n 1 dX5_seen_44 rfl rfl ?_
        refine g_get (ci := 5) (T := TX5) (N := 16) 0 6 (.ref (ad 20)) dX5_seen_45 iX5_seen_X5 rfl jX5_seen_38 (by decide) wlaT_0 rfl ?_
        refine g_get (ci := 0) (T := TX0) (N := 15) 20 2 (.ref (ad 22)) dX5_seen_48 iX5_seen_X0 rfl jX5_seen_143 (by decide) wlaT_20 rfl ?_
        refine g_iload 8 dX5_seen_51 rfl ?_
        obtain ⟨h11, hf⟩ := ochi_some hf
        refine g_iald 22 0 dX5_seen_53 wlaT_22 (tI hty) h11 ?_
        refine g_iload_n 3 dX5_seen_54 rfl rfl ?_
        obtain ⟨v15, hE_v15, hf⟩ := obd_some hf
        have J_v15 : G E kX5_seen 0 0 77 [(0, .ref (ad 0)), (1, .int a1), (2, .int a2), (3, .int a3), (4, .int a4), (5, .int a5), (6, .int x1), (7, .int x2), (8, .int v7)] [.int v15] (wT cs ad s) := by
          refine g_istore (lv2 := [(9, .int v15), (0, .ref (ad 0)), (1, .int a1), (2, .int a2), (3, .int a3), (4, .int a4), (5, .int a5), (6, .int x1), (7, .int x2), (8, .int v7)]) dX5_seen_77 (by decide) rfl ?_
          refine g_iload 5 dX5_seen_79 rfl ?_
          refine g_aload_n 1 dX5_seen_81 rfl rfl ?_
          refine g_get (ci := 5) (T := TX5) (N := 16) 0 6 (.ref (ad 20)) dX5_seen_82 iX5_seen_X5 rfl jX5_seen_38 (by decide) wlaT_0 rfl ?_
          refine g_get (ci := 0) (T := TX0) (N := 15) 20 3 (.ref (ad 23)) dX5_seen_85 iX5_seen_X0 rfl jX5_seen_146 (by decide) wlaT_20 rfl ?_
          refine g_iload 8 dX5_seen_88 rfl ?_
          obtain ⟨h19, hf⟩ := ochi_some hf
          refine g_iald 23 0 dX5_seen_90 wlaT_23 (tI hty) h19 ?_
          refine g_ishr dX5_seen_91 ?_
          refine g_iconst (v := (1 : Int32)) dX5_seen_92 (by decide) ?_
          refine g_iand dX5_seen_93 ?_
          refine g_iconst (v := (1 : Int32)) dX5_seen_94 (by decide) ?_
          obtain ⟨v21, hE_v21, hf⟩ := obd_some hf
          have J_v21 : G E kX5_seen 0 0 103 [(0, .ref (ad 0)), (1, .int a1), (2, .int a2), (3, .int a3), (4, .int a4), (5, .int a5), (6, .int x1), (7, .int x2), (8, .int v7), (9, .int v15)] [.int v21] (wT cs ad s) := by
            refine g_istore (lv2 := [(10, .int v21), (0, .ref (ad 0)), (1, .int a1), (2, .int a2), (3, .int a3), (4, .int a4), (5, .int a5), (6, .int x1), (7, .int x2), (8, .int v7), (9, .int v15)]) dX5_seen_103 (by decide) rfl ?_
            refine g_iload 9 dX5_seen_105 rfl ?_
            refine g_if_eq (tgt := 138) dX5_seen_107 (by decide) (fun h23 => ?_) (fun h23 => ?_)
            · have hf := ift h23 hf
              refine g_iinc (lv2 := [(7, .int (x2 + 1)), (10, .int v21), (0, .ref (ad 0)), (1, .int a1), (2, .int a2), (3, .int a3), (4, .int a4), (5, .int a5), (6, .int x1), (8, .int v7), (9, .int v15)]) 8 dX5_seen_138 rfl (ii1 _) (by decide) rfl ?_
              refine g_goto (tgt := 6) dX5_seen_141 (by decide) ?_
              exact g_sub [2, 3, 4, 5, 6, 7, 8, 0] rfl (ih x1 (x2 + 1) hf)
            · have hf := iff_ h23 hf
              refine g_iload 10 dX5_seen_110 rfl ?_
              refine g_if_eq (tgt := 138) dX5_seen_112 (by decide) (fun h24 => ?_) (fun h24 => ?_)
              · have hf := ift h24 hf
                refine g_iinc (lv2 := [(7, .int (x2 + 1)), (10, .int v21), (0, .ref (ad 0)), (1, .int a1), (2, .int a2), (3, .int a3), (4, .int a4), (5, .int a5), (6, .int x1), (8, .int v7), (9, .int v15)]) 8 dX5_seen_138 rfl (ii1 _) (by decide) rfl ?_
                refine g_goto (tgt := 6) dX5_seen_141 (by decide) ?_
                exact g_sub [2, 3, 4, 5, 6, 7, 8, 0] rfl (ih x1 (x2 + 1) hf)
              · have hf := iff_ h24 hf
                refine g_iload 0 dX5_seen_115 rfl ?_
                refine g_if_eq (tgt := 138) dX5_seen_117 (by decide) (fun h25 => ?_) (fun h25 => ?_)
                · have hf := ift h25 hf
                  refine g_iinc (lv2 := [(7, .int (x2 + 1)), (10, .int v21), (0, .ref (ad 0)), (1, .int a1), (2, .int a2), (3, .int a3), (4, .int a4), (5, .int a5), (6, .int x1), (8, .int v7), (9, .int v15)]) 8 dX5_seen_138 rfl (ii1 _) (by decide) rfl ?_
                  refine g_goto (tgt := 6) dX5_seen_141 (by decide) ?_
                  exact g_sub [2, 3, 4, 5, 6, 7, 8, 0] rfl (ih x1 (x2 + 1) hf)
                · have hf := iff_ h25 hf
                  refine g_aload_n 1 dX5_seen_120 rfl rfl ?_
                  refine g_get (ci := 5) (T := TX5) (N := 16) 0 6 (.ref (ad 20)) dX5_seen_121 iX5_seen_X5 rfl jX5_seen_38 (by decide) wlaT_0 rfl ?_
                  refine g_get (ci := 0) (T := TX0) (N := 15) 20 6 (.ref (ad 26)) dX5_seen_124 iX5_seen_X0 rfl jX5_seen_155 (by decide) wlaT_20 rfl ?_
                  refine g_iload 8 dX5_seen_127 rfl ?_
                  obtain ⟨h26, hf⟩ := ochi_some hf
                  refine g_iald 26 0 dX5_seen_129 wlaT_26 (tI hty) h26 ?_
                  refine g_iload 6 dX5_seen_130 rfl ?_
                  refine g_icmp_lt (tgt := 138) dX5_seen_132 (by decide) (fun h27 => ?_) (fun h27 => ?_)
                  · have hf := ift h27 hf
                    refine g_iinc (lv2 := [(7, .int (x2 + 1)), (10, .int v21), (0, .ref (ad 0)), (1, .int a1), (2, .int a2), (3, .int a3), (4, .int a4), (5, .int a5), (6, .int x1), (8, .int v7), (9, .int v15)]) 8 dX5_seen_138 rfl (ii1 _) (by decide) rfl ?_
                    refine g_goto (tgt := 6) dX5_seen_141 (by decide) ?_
                    exact g_sub [2, 3, 4, 5, 6, 7, 8, 0] rfl (ih x1 (x2 + 1) hf)
                  · have hf := iff_ h27 hf
                    refine g_iinc (lv2 := [(6, .int (x1 + 1)), (10, .int v21), (0, .ref (ad 0)), (1, .int a1), (2, .int a2), (3, .int a3), (4, .int a4), (5, .int a5), (7, .int x2), (8, .int v7), (9, .int v15)]) 7 dX5_seen_135 rfl (ii1 _) (by decide) rfl ?_
                    refine g_iinc (lv2 := [(7, .int (x2 + 1)), (6, .int (x1 + 1)), (10, .int v21), (0, .ref (ad 0)), (1, .int a1), (2, .int a2), (3, .int a3), (4, .int a4), (5, .int a5), (8, .int v7), (9, .int v15)]) 8 dX5_seen_138 rfl (ii1 _) (by decide) rfl ?_
                    refine g_goto (tgt := 6) dX5_seen_141 (by decide) ?_
                    exact g_sub [3, 4, 5, 6, 7, 8, 1, 0] rfl (ih (x1 + 1) (x2 + 1) hf)
          have hf := hE_v21
          refine g_icmp_ne (tgt := 102) dX5_seen_95 (by decide) (fun h22 => ?_) (fun h22 => ?_)
          · have hf := iff_ h22 hf
            refine g_iconst (v := (0 : Int32)) dX5_seen_102 (by decide) ?_
            obtain rfl := Option.some.inj hf
            exact g_sub [1, 2, 3, 4, 5, 6, 7, 8, 9, 0] rfl J_v21
          · have hf := ift h22 hf
            refine g_iconst (v := (1 : Int32)) dX5_seen_98 (by decide) ?_
            refine g_goto (tgt := 103) dX5_seen_99 (by decide) ?_
            obtain rfl := Option.some.inj hf
            exact g_sub [1, 2, 3, 4, 5, 6, 7, 8, 9, 0] rfl J_v21
        have hf := hE_v15
        refine g_icmp_lt (tgt := 76) dX5_seen_55 (by decide) (fun h16 => ?_) (fun h16 => ?_)
        · have hf := ift h16 hf
          refine g_iconst (v := (0 : Int32)) dX5_seen_76 (by decide) ?_
          obtain rfl := Option.some.inj hf
          exact g_sub [1, 2, 3, 4, 5, 6, 7, 8, 0] rfl J_v15
        · have hf := iff_ h16 hf
          refine g_aload_n 1 dX5_seen_58 rfl rfl ?_
          refine g_get (ci := 5) (T := TX5) (N := 16) 0 6 (.ref (ad 20)) dX5_seen_59 iX5_seen_X5 rfl jX5_seen_38 (by decide) wlaT_0 rfl ?_
          refine g_get (ci := 0) (T := TX0) (N := 15) 20 2 (.ref (ad 22)) dX5_seen_62 iX5_seen_X0 rfl jX5_seen_143 (by decide) wlaT_20 rfl ?_
          refine g_iload 8 dX5_seen_65 rfl ?_
          obtain ⟨h17, hf⟩ := ochi_some hf
          refine g_iald 22 0 dX5_seen_67 wlaT_22 (tI hty) h17 ?_
          refine g_iload_n 4 dX5_seen_68 rfl rfl ?_
          refine g_icmp_gt (tgt := 76) dX5_seen_69 (by decide) (fun h18 => ?_) (fun h18 => ?_)
          · have hf := ift h18 hf
            refine g_iconst (v := (0 : Int32)) dX5_seen_76 (by decide) ?_
            obtain rfl := Option.some.inj hf
            exact g_sub [1, 2, 3, 4, 5, 6, 7, 8, 0] rfl J_v15
          · have hf := iff_ h18 hf
            refine g_iconst (v := (1 : Int32)) dX5_seen_72 (by decide) ?_
            refine g_goto (tgt := 77) dX5_seen_73 (by decide) ?_
            obtain rfl := Option.some.inj hf
            exact g_sub [1, 2, 3, 4, 5, 6, 7, 8, 0] rfl J_v15
      have hf := hE_v7
      refine g_icmp_eq (tgt := 37) dX5_seen_20 (by decide) (fun h8 => ?_) (fun h8 => ?_)
      · have hf := ift h8 hf
        refine g_iconst (v := (1 : Int32)) dX5_seen_37 (by decide) ?_
        refine g_goto (tgt := 42) dX5_seen_38 (by decide) ?_
        obtain rfl := Option.some.inj hf
        exact g_sub [0, 1, 2, 3, 4, 5, 6, 7] rfl J_v7
      · have hf := iff_ h8 hf
        refine g_aload_n 0 dX5_seen_23 rfl rfl ?_
        refine g_get (ci := 5) (T := TX5) (N := 16) 0 6 (.ref (ad 20)) dX5_seen_24 iX5_seen_X5 rfl jX5_seen_38 (by decide) wlaT_0 rfl ?_
        refine g_get (ci := 0) (T := TX0) (N := 15) 20 1 (.ref (ad 21)) dX5_seen_27 iX5_seen_X0 rfl jX5_seen_140 (by decide) wlaT_20 rfl ?_
        refine g_iload 7 dX5_seen_30 rfl ?_
        obtain ⟨h9, hf⟩ := ochi_some hf
        refine g_iald 21 0 dX5_seen_32 wlaT_21 (tI hty) h9 ?_
        refine g_iload_n 1 dX5_seen_33 rfl rfl ?_
        refine g_icmp_ne (tgt := 41) dX5_seen_34 (by decide) (fun h10 => ?_) (fun h10 => ?_)
        · have hf := iff_ h10 hf
          refine g_iconst (v := (0 : Int32)) dX5_seen_41 (by decide) ?_
          obtain rfl := Option.some.inj hf
          exact g_sub [0, 1, 2, 3, 4, 5, 6, 7] rfl J_v7
        · have hf := ift h10 hf
          refine g_iconst (v := (1 : Int32)) dX5_seen_37 (by decide) ?_
          refine g_goto (tgt := 42) dX5_seen_38 (by decide) ?_
          obtain rfl := Option.some.inj hf
          exact g_sub [0, 1, 2, 3, 4, 5, 6, 7] rfl J_v7

set_option maxHeartbeats 4000000 in
set_option maxRecDepth 100000 in
theorem c_X5_seen {l : Launch} {D : va_G} {tys : List (ClassId × FieldType)} {X : XT} {cs : CS} (ad : Nat → Nat) {F : Nat} {s : ST} {a1 : Int32} {a2 : Int32} {a3 : Int32} {a4 : Int32} {a5 : Int32} {r : Int32} (htyM : tys = tyA cs) (hf : f_X5_seen F s a1 a2 a3 a4 a5 = some r) : Ci l D tys X yX5_seen wsX5_seen rmX5_seen [.ref (ad 0), .int a1, .int a2, .int a3, .int a4, .int a5] (wT cs ad s) r (wT cs ad s) := by
  refine Ci_ofG (by decide +kernel) rfl (Nat.le_of_ble_eq_true rfl) .int rfl (vp_nar_int _) (fun E _ _ hty0 hX0 hr => ?_)
  have hty := hty0.trans htyM
  have hr : Ri E kX5_seen r (wT cs ad s) := hr
  show G E kX5_seen 0 0 0 [(0, .ref (ad 0)), (1, .int a1), (2, .int a2), (3, .int a3), (4, .int a4), (5, .int a5)] [] (wT cs ad s)
  unfold f_X5_seen at hf
  refine g_iconst (v := (0 : Int32)) dX5_seen_0 (by decide) ?_
  refine g_istore (lv2 := [(6, .int (0 : Int32)), (0, .ref (ad 0)), (1, .int a1), (2, .int a2), (3, .int a3), (4, .int a4), (5, .int a5)]) dX5_seen_1 (by decide) rfl ?_
  refine g_iconst (v := (0 : Int32)) dX5_seen_3 (by decide) ?_
  refine g_istore (lv2 := [(7, .int (0 : Int32)), (6, .int (0 : Int32)), (0, .ref (ad 0)), (1, .int a1), (2, .int a2), (3, .int a3), (4, .int a4), (5, .int a5)]) dX5_seen_4 (by decide) rfl ?_
  exact g_sub [2, 3, 4, 5, 6, 7, 1, 0] rfl (w_X5_seen_L6 hty hr F (0 : Int32) (0 : Int32) hf)

-- ThumbScale oftenTogether (II)J
def rmX5_oftenTogether : Room := { frames := 3, cells := 0, slots := 0, locals := 72 }
def kX5_oftenTogether : MK := (cX5_oftenTogether, 6, RX5, wsX5_oftenTogether, (some .long), rmX5_oftenTogether)

set_option maxRecDepth 20000 in
theorem jX5_oftenTogether_38 : Cond.fieldLink RX5 38 (TX5 6).1 (TX5 6).2.1 (TX5 6).2.2.1 ∈ wsX5_oftenTogether := by decide +kernel
set_option maxRecDepth 20000 in
theorem iX5_oftenTogether_X5 : ∀ x ∈ u_ws RX5 TX5 16, x ∈ wsX5_oftenTogether := by decide +kernel
set_option maxRecDepth 20000 in
theorem jX5_oftenTogether_137 : Cond.fieldLink RX5 137 (TX0 0).1 (TX0 0).2.1 (TX0 0).2.2.1 ∈ wsX5_oftenTogether := by decide +kernel
set_option maxRecDepth 20000 in
theorem iX5_oftenTogether_X0 : ∀ x ∈ u_ws RX0 TX0 15, x ∈ wsX5_oftenTogether := by decide +kernel
set_option maxRecDepth 20000 in
theorem jX5_oftenTogether_140 : Cond.fieldLink RX5 140 (TX0 1).1 (TX0 1).2.1 (TX0 1).2.2.1 ∈ wsX5_oftenTogether := by decide +kernel
set_option maxRecDepth 20000 in
theorem jX5_oftenTogether_16 : Cond.fieldLink RX5 16 (TX5 3).1 (TX5 3).2.1 (TX5 3).2.2.1 ∈ wsX5_oftenTogether := by decide +kernel
set_option maxRecDepth 20000 in
theorem jX5_oftenTogether_146 : Cond.fieldLink RX5 146 (TX0 3).1 (TX0 3).2.1 (TX0 3).2.2.1 ∈ wsX5_oftenTogether := by decide +kernel
set_option maxRecDepth 20000 in
theorem jX5_oftenTogether_155 : Cond.fieldLink RX5 155 (TX0 6).1 (TX0 6).2.1 (TX0 6).2.2.1 ∈ wsX5_oftenTogether := by decide +kernel
set_option maxRecDepth 20000 in
theorem vX5_oftenTogether_133 : KV kX5_oftenTogether 133 RX2 yX2_howOften wsX2_howOften rmX2_howOften 4 := ⟨_, _, _, _, gX5_oftenTogether_X2_howOften, rfl, rfl, rfl, by decide +kernel, ⟨by decide, by decide⟩⟩
def f_X5_oftenTogether_L5 (F : Nat) (s : ST) (a1 : Int32) (a2 : Int32) : Nat → Int64 → Int32 → Option Int64
  | 0, _, _ => none
  | n + 1, x1, x2 =>
    (if (B_bags (T_book s)) ≤ x2 then
    some x1
    else
    ochi x2 30 (
    (if ((B_bagStall (T_book s)) (Int32.toNatClampNeg x2)) = a2 then
    ochi x2 30 (
    ochi x2 30 (
    obd (f_X2_howOften F (T_market s) a1 a2 ((B_bagSort (T_book s)) (Int32.toNatClampNeg x2)) ((B_bagSteps (T_book s)) (Int32.toNatClampNeg x2))) (fun v8 =>
    f_X5_oftenTogether_L5 F s a1 a2 n (x1 * (Int32.toInt64 v8)) (x2 + 1))))
    else
    f_X5_oftenTogether_L5 F s a1 a2 n x1 (x2 + 1))))

def f_X5_oftenTogether (F : Nat) (s : ST) (a1 : Int32) (a2 : Int32) : Option Int64 :=
    f_X5_oftenTogether_L5 F s a1 a2 F (1 : Int64) (0 : Int32)

set_option maxHeartbeats 4000000 in
set_option maxRecDepth 100000 in
theorem w_X5_oftenTogether_L5 {E : GE} {cs : CS} {ad : Nat → Nat} {F : Nat} {s : ST} {a1 : Int32} {a2 : Int32} {r : Int64} (hty : eT E = tyA cs) (hr : Rl E kX5_oftenTogether r (wT cs ad s)) : ∀ (n : Nat) (x1 : Int64) (x2 : Int32), f_X5_oftenTogether_L5 F s a1 a2 n x1 x2 = some r → G E kX5_oftenTogether 0 0 5 [(0, .ref (ad 0)), (1, .int a1), (2, .int a2), (3, .long x1), (5, .int x2)] [] (wT cs ad s) := by
  intro n
  induction n with
  | zero =>
    intro x1 x2 hf
    cases (show (none : Option Int64) = some r from hf)
  | succ n ih =>
    intro x1 x2 hf
    rw [f_X5_oftenTogether_L5] at hf
    refine g_iload 4 dX5_oftenTogether_5 rfl ?_
    refine g_aload_n 0 dX5_oftenTogether_7 rfl rfl ?_
    refine g_get (ci := 5) (T := TX5) (N := 16) 0 6 (.ref (ad 20)) dX5_oftenTogether_8 iX5_oftenTogether_X5 rfl jX5_oftenTogether_38 (by decide) wlaT_0 rfl ?_
    refine g_get (ci := 0) (T := TX0) (N := 15) 20 0 (.int (B_bags (T_book s))) dX5_oftenTogether_11 iX5_oftenTogether_X0 rfl jX5_oftenTogether_137 (by decide) wlaT_20 rfl ?_
    refine g_icmp_ge (tgt := 70) dX5_oftenTogether_14 (by decide) (fun h3 => ?_) (fun h3 => ?_)
    · have hf := ift h3 hf
      refine g_lload_n 3 dX5_oftenTogether_70 rfl rfl ?_
      obtain rfl := Option.some.inj hf
      exact hr _ _ dX5_oftenTogether_71
    · have hf := iff_ h3 hf
      refine g_aload_n 0 dX5_oftenTogether_17 rfl rfl ?_
      refine g_get (ci := 5) (T := TX5) (N := 16) 0 6 (.ref (ad 20)) dX5_oftenTogether_18 iX5_oftenTogether_X5 rfl jX5_oftenTogether_38 (by decide) wlaT_0 rfl ?_
      refine g_get (ci := 0) (T := TX0) (N := 15) 20 1 (.ref (ad 21)) dX5_oftenTogether_21 iX5_oftenTogether_X0 rfl jX5_oftenTogether_140 (by decide) wlaT_20 rfl ?_
      refine g_iload 4 dX5_oftenTogether_24 rfl ?_
      obtain ⟨h4, hf⟩ := ochi_some hf
      refine g_iald 21 0 dX5_oftenTogether_26 wlaT_21 (tI hty) h4 ?_
      refine g_iload_n 2 dX5_oftenTogether_27 rfl rfl ?_
      refine g_icmp_ne (tgt := 64) dX5_oftenTogether_28 (by decide) (fun h5 => ?_) (fun h5 => ?_)
      · have hf := iff_ h5 hf
        refine g_iinc (lv2 := [(5, .int (x2 + 1)), (0, .ref (ad 0)), (1, .int a1), (2, .int a2), (3, .long x1)]) 4 dX5_oftenTogether_64 rfl (ii1 _) (by decide) rfl ?_
        refine g_goto (tgt := 5) dX5_oftenTogether_67 (by decide) ?_
        exact g_sub [1, 2, 3, 4, 0] rfl (ih x1 (x2 + 1) hf)
      · have hf := ift h5 hf
        refine g_lload_n 3 dX5_oftenTogether_31 rfl rfl ?_
        refine g_aload_n 0 dX5_oftenTogether_32 rfl rfl ?_
        refine g_get (ci := 5) (T := TX5) (N := 16) 0 3 (.ref (ad 11)) dX5_oftenTogether_33 iX5_oftenTogether_X5 rfl jX5_oftenTogether_16 (by decide) wlaT_0 rfl ?_
        refine g_iload_n 1 dX5_oftenTogether_36 rfl rfl ?_
        refine g_iload_n 2 dX5_oftenTogether_37 rfl rfl ?_
        refine g_aload_n 0 dX5_oftenTogether_38 rfl rfl ?_
        refine g_get (ci := 5) (T := TX5) (N := 16) 0 6 (.ref (ad 20)) dX5_oftenTogether_39 iX5_oftenTogether_X5 rfl jX5_oftenTogether_38 (by decide) wlaT_0 rfl ?_
        refine g_get (ci := 0) (T := TX0) (N := 15) 20 3 (.ref (ad 23)) dX5_oftenTogether_42 iX5_oftenTogether_X0 rfl jX5_oftenTogether_146 (by decide) wlaT_20 rfl ?_
        refine g_iload 4 dX5_oftenTogether_45 rfl ?_
        obtain ⟨h6, hf⟩ := ochi_some hf
        refine g_iald 23 0 dX5_oftenTogether_47 wlaT_23 (tI hty) h6 ?_
        refine g_aload_n 0 dX5_oftenTogether_48 rfl rfl ?_
        refine g_get (ci := 5) (T := TX5) (N := 16) 0 6 (.ref (ad 20)) dX5_oftenTogether_49 iX5_oftenTogether_X5 rfl jX5_oftenTogether_38 (by decide) wlaT_0 rfl ?_
        refine g_get (ci := 0) (T := TX0) (N := 15) 20 6 (.ref (ad 26)) dX5_oftenTogether_52 iX5_oftenTogether_X0 rfl jX5_oftenTogether_155 (by decide) wlaT_20 rfl ?_
        refine g_iload 4 dX5_oftenTogether_55 rfl ?_
        obtain ⟨h7, hf⟩ := ochi_some hf
        refine g_iald 26 0 dX5_oftenTogether_57 wlaT_26 (tI hty) h7 ?_
        obtain ⟨v8, hc9, hf⟩ := obd_some hf
        refine g_callVi (ci := 2) (As := [.int a1, .int a2, .int ((B_bagSort (T_book s)) (Int32.toNatClampNeg x2)), .int ((B_bagSteps (T_book s)) (Int32.toNatClampNeg x2))]) (rest := [.long x1]) (w2 := (wT cs ad s)) 11 dX5_oftenTogether_58 vX5_oftenTogether_133 (c_X2_howOften (fun k => ad (11 + k)) hty hc9) rfl wlhT_11 rfl rfl 0 wlaM_0 rfl (Nat.le_of_ble_eq_true rfl) ⟨Nat.zero_le _, Nat.zero_le _⟩ wlrT_11 ?_
        refine g_i2l dX5_oftenTogether_61 ?_
        refine g_lmul dX5_oftenTogether_62 ?_
        refine g_lstore_n (lv2 := [(3, .long (x1 * (Int32.toInt64 v8))), (0, .ref (ad 0)), (1, .int a1), (2, .int a2), (5, .int x2)]) dX5_oftenTogether_63 rfl (by decide) rfl ?_
        refine g_iinc (lv2 := [(5, .int (x2 + 1)), (3, .long (x1 * (Int32.toInt64 v8))), (0, .ref (ad 0)), (1, .int a1), (2, .int a2)]) 4 dX5_oftenTogether_64 rfl (ii1 _) (by decide) rfl ?_
        refine g_goto (tgt := 5) dX5_oftenTogether_67 (by decide) ?_
        exact g_sub [2, 3, 4, 1, 0] rfl (ih (x1 * (Int32.toInt64 v8)) (x2 + 1) hf)

set_option maxHeartbeats 4000000 in
set_option maxRecDepth 100000 in
theorem c_X5_oftenTogether {l : Launch} {D : va_G} {tys : List (ClassId × FieldType)} {X : XT} {cs : CS} (ad : Nat → Nat) {F : Nat} {s : ST} {a1 : Int32} {a2 : Int32} {r : Int64} (htyM : tys = tyA cs) (hf : f_X5_oftenTogether F s a1 a2 = some r) : Cl l D tys X yX5_oftenTogether wsX5_oftenTogether rmX5_oftenTogether [.ref (ad 0), .int a1, .int a2] (wT cs ad s) r (wT cs ad s) := by
  refine Cl_ofG (by decide +kernel) rfl (Nat.le_of_ble_eq_true rfl) (fun E _ _ hty0 hX0 hr => ?_)
  have hty := hty0.trans htyM
  have hr : Rl E kX5_oftenTogether r (wT cs ad s) := hr
  show G E kX5_oftenTogether 0 0 0 [(0, .ref (ad 0)), (1, .int a1), (2, .int a2)] [] (wT cs ad s)
  unfold f_X5_oftenTogether at hf
  refine g_lconst (v := (1 : Int64)) dX5_oftenTogether_0 (by decide) ?_
  refine g_lstore_n (lv2 := [(3, .long (1 : Int64)), (0, .ref (ad 0)), (1, .int a1), (2, .int a2)]) dX5_oftenTogether_1 rfl (by decide) rfl ?_
  refine g_iconst (v := (0 : Int32)) dX5_oftenTogether_2 (by decide) ?_
  refine g_istore (lv2 := [(5, .int (0 : Int32)), (3, .long (1 : Int64)), (0, .ref (ad 0)), (1, .int a1), (2, .int a2)]) dX5_oftenTogether_3 (by decide) rfl ?_
  exact g_sub [2, 3, 4, 1, 0] rfl (w_X5_oftenTogether_L5 hty hr F (1 : Int64) (0 : Int32) hf)

-- ThumbScale allWeights (I)J
def rmX5_allWeights : Room := { frames := 4, cells := 0, slots := 0, locals := 97 }
def kX5_allWeights : MK := (cX5_allWeights, 5, RX5, wsX5_allWeights, (some .long), rmX5_allWeights)

set_option maxRecDepth 20000 in
theorem jX5_allWeights_38 : Cond.fieldLink RX5 38 (TX5 6).1 (TX5 6).2.1 (TX5 6).2.2.1 ∈ wsX5_allWeights := by decide +kernel
set_option maxRecDepth 20000 in
theorem iX5_allWeights_X5 : ∀ x ∈ u_ws RX5 TX5 16, x ∈ wsX5_allWeights := by decide +kernel
set_option maxRecDepth 20000 in
theorem vX5_allWeights_108 : KV kX5_allWeights 108 RX0 yX0_bagsOf wsX0_bagsOf rmX0_bagsOf 2 := ⟨_, _, _, _, gX5_allWeights_X0_bagsOf, rfl, rfl, rfl, by decide +kernel, ⟨by decide, by decide⟩⟩
set_option maxRecDepth 20000 in
theorem jX5_allWeights_16 : Cond.fieldLink RX5 16 (TX5 3).1 (TX5 3).2.1 (TX5 3).2.2.1 ∈ wsX5_allWeights := by decide +kernel
set_option maxRecDepth 20000 in
theorem jX5_allWeights_230 : Cond.fieldLink RX5 230 (TX2 7).1 (TX2 7).2.1 (TX2 7).2.2.1 ∈ wsX5_allWeights := by decide +kernel
set_option maxRecDepth 20000 in
theorem iX5_allWeights_X2 : ∀ x ∈ u_ws RX2 TX2 12, x ∈ wsX5_allWeights := by decide +kernel
set_option maxRecDepth 20000 in
theorem jX5_allWeights_32 : Cond.fieldLink RX5 32 (TX5 5).1 (TX5 5).2.1 (TX5 5).2.2.1 ∈ wsX5_allWeights := by decide +kernel
set_option maxRecDepth 20000 in
theorem vX5_allWeights_216 : KV kX5_allWeights 216 RX5 yX5_oftenTogether wsX5_oftenTogether rmX5_oftenTogether 2 := ⟨_, _, _, _, gX5_allWeights_X5_oftenTogether, rfl, rfl, rfl, by decide +kernel, ⟨by decide, by decide⟩⟩
def f_X5_allWeights_L22 (F : Nat) (s : ST) (a1 : Int32) : Nat → Int64 → Int32 → Option Int64
  | 0, _, _ => none
  | n + 1, x4, x5 =>
    (if (M_ways (T_market s)) ≤ x5 then
    some x4
    else
    ochi x5 6 (
    obd (f_X5_oftenTogether F s x5 a1) (fun v8 =>
    olt (x4 + ((Int32.toInt64 ((T_beliefs s) (Int32.toNatClampNeg x5))) * v8)) (fun z10 =>
    f_X5_allWeights_L22 F s a1 n z10 (x5 + 1)))))

def f_X5_allWeights (F : Nat) (s : ST) (a1 : Int32) : Option Int64 :=
    obd (f_X0_bagsOf F (T_book s) a1 (15 : Int32)) (fun v1 =>
    (if v1 ≤ (6 : Int32) then
    f_X5_allWeights_L22 F s a1 F (0 : Int64) (0 : Int32)
    else
    some (0 : Int64)))

set_option maxHeartbeats 4000000 in
set_option maxRecDepth 100000 in
theorem w_X5_allWeights_L22 {E : GE} {cs : CS} {ad : Nat → Nat} {F : Nat} {s : ST} {a1 : Int32} {r : Int64} (hty : eT E = tyA cs) (hr : Rl E kX5_allWeights r (wT cs ad s)) : ∀ (n : Nat) (x4 : Int64) (x5 : Int32), f_X5_allWeights_L22 F s a1 n x4 x5 = some r → G E kX5_allWeights 0 0 22 [(0, .ref (ad 0)), (1, .int a1), (2, .long x4), (4, .int x5)] [] (wT cs ad s) := by
  intro n
  induction n with
  | zero =>
    intro x4 x5 hf
    cases (show (none : Option Int64) = some r from hf)
  | succ n ih =>
    intro x4 x5 hf
    rw [f_X5_allWeights_L22] at hf
    refine g_iload 3 dX5_allWeights_22 rfl ?_
    refine g_aload_n 0 dX5_allWeights_24 rfl rfl ?_
    refine g_get (ci := 5) (T := TX5) (N := 16) 0 3 (.ref (ad 11)) dX5_allWeights_25 iX5_allWeights_X5 rfl jX5_allWeights_16 (by decide) wlaT_0 rfl ?_
    refine g_get (ci := 2) (T := TX2) (N := 12) 11 7 (.int (M_ways (T_market s))) dX5_allWeights_28 iX5_allWeights_X2 rfl jX5_allWeights_230 (by decide) wlaT_11 rfl ?_
    refine g_icmp_ge (tgt := 59) dX5_allWeights_31 (by decide) (fun h6 => ?_) (fun h6 => ?_)
    · have hf := ift h6 hf
      refine g_lload_n 2 dX5_allWeights_59 rfl rfl ?_
      obtain rfl := Option.some.inj hf
      exact hr _ _ dX5_allWeights_60
    · have hf := iff_ h6 hf
      refine g_lload_n 2 dX5_allWeights_34 rfl rfl ?_
      refine g_aload_n 0 dX5_allWeights_35 rfl rfl ?_
      refine g_get (ci := 5) (T := TX5) (N := 16) 0 5 (.ref (ad 19)) dX5_allWeights_36 iX5_allWeights_X5 rfl jX5_allWeights_32 (by decide) wlaT_0 rfl ?_
      refine g_iload 3 dX5_allWeights_39 rfl ?_
      obtain ⟨h7, hf⟩ := ochi_some hf
      refine g_iald 19 0 dX5_allWeights_41 wlaT_19 (tI hty) h7 ?_
      refine g_i2l dX5_allWeights_42 ?_
      refine g_aload_n 0 dX5_allWeights_43 rfl rfl ?_
      refine g_iload 3 dX5_allWeights_44 rfl ?_
      refine g_iload_n 1 dX5_allWeights_46 rfl rfl ?_
      obtain ⟨v8, hc9, hf⟩ := obd_some hf
      refine g_callVl (ci := 5) (As := [.int x5, .int a1]) (rest := [.long (Int32.toInt64 ((T_beliefs s) (Int32.toNatClampNeg x5))), .long x4]) (w2 := (wT cs ad s)) 0 dX5_allWeights_47 vX5_allWeights_216 (c_X5_oftenTogether ad hty hc9) rfl (mid0 _) rfl rfl 0 wlaT_0 rfl (Nat.le_of_ble_eq_true rfl) ⟨Nat.zero_le _, Nat.zero_le _⟩ (mid2 _ _) ?_
      refine g_lmul dX5_allWeights_50 ?_
      refine g_ladd dX5_allWeights_51 ?_
      obtain ⟨z10, e_z10, hf⟩ := olt_some hf
      refine g_cast rfl rfl (congrArg (fun q => Value.long q :: []) e_z10) rfl ?_
      refine g_lstore_n (lv2 := [(2, .long z10), (0, .ref (ad 0)), (1, .int a1), (4, .int x5)]) dX5_allWeights_52 rfl (by decide) rfl ?_
      refine g_iinc (lv2 := [(4, .int (x5 + 1)), (2, .long z10), (0, .ref (ad 0)), (1, .int a1)]) 3 dX5_allWeights_53 rfl (ii1 _) (by decide) rfl ?_
      refine g_goto (tgt := 22) dX5_allWeights_56 (by decide) ?_
      exact g_sub [2, 3, 1, 0] rfl (ih z10 (x5 + 1) hf)

set_option maxHeartbeats 4000000 in
set_option maxRecDepth 100000 in
theorem c_X5_allWeights {l : Launch} {D : va_G} {tys : List (ClassId × FieldType)} {X : XT} {cs : CS} (ad : Nat → Nat) {F : Nat} {s : ST} {a1 : Int32} {r : Int64} (htyM : tys = tyA cs) (hf : f_X5_allWeights F s a1 = some r) : Cl l D tys X yX5_allWeights wsX5_allWeights rmX5_allWeights [.ref (ad 0), .int a1] (wT cs ad s) r (wT cs ad s) := by
  refine Cl_ofG (by decide +kernel) rfl (Nat.le_of_ble_eq_true rfl) (fun E _ _ hty0 hX0 hr => ?_)
  have hty := hty0.trans htyM
  have hr : Rl E kX5_allWeights r (wT cs ad s) := hr
  show G E kX5_allWeights 0 0 0 [(0, .ref (ad 0)), (1, .int a1)] [] (wT cs ad s)
  unfold f_X5_allWeights at hf
  refine g_aload_n 0 dX5_allWeights_0 rfl rfl ?_
  refine g_get (ci := 5) (T := TX5) (N := 16) 0 6 (.ref (ad 20)) dX5_allWeights_1 iX5_allWeights_X5 rfl jX5_allWeights_38 (by decide) wlaT_0 rfl ?_
  refine g_iload_n 1 dX5_allWeights_4 rfl rfl ?_
  refine g_bipush (v := (15 : Int32)) dX5_allWeights_5 (by decide) ?_
  obtain ⟨v1, hc2, hf⟩ := obd_some hf
  refine g_callVi (ci := 0) (As := [.int a1, .int (15 : Int32)]) (rest := []) (w2 := (wT cs ad s)) 20 dX5_allWeights_7 vX5_allWeights_108 (c_X0_bagsOf (fun k => ad (20 + k)) hty hc2) rfl wlhT_20 rfl rfl 0 wlaB_0 rfl (Nat.le_of_ble_eq_true rfl) ⟨Nat.zero_le _, Nat.zero_le _⟩ wlrT_20 ?_
  refine g_bipush (v := (6 : Int32)) dX5_allWeights_10 (by decide) ?_
  refine g_icmp_le (tgt := 17) dX5_allWeights_12 (by decide) (fun h3 => ?_) (fun h3 => ?_)
  · have hf := ift h3 hf
    refine g_lconst (v := (0 : Int64)) dX5_allWeights_17 (by decide) ?_
    refine g_lstore_n (lv2 := [(2, .long (0 : Int64)), (0, .ref (ad 0)), (1, .int a1)]) dX5_allWeights_18 rfl (by decide) rfl ?_
    refine g_iconst (v := (0 : Int32)) dX5_allWeights_19 (by decide) ?_
    refine g_istore (lv2 := [(4, .int (0 : Int32)), (2, .long (0 : Int64)), (0, .ref (ad 0)), (1, .int a1)]) dX5_allWeights_20 (by decide) rfl ?_
    exact g_sub [2, 3, 1, 0] rfl (w_X5_allWeights_L22 hty hr F (0 : Int64) (0 : Int32) hf)
  · have hf := iff_ h3 hf
    refine g_lconst (v := (0 : Int64)) dX5_allWeights_15 (by decide) ?_
    obtain rfl := Option.some.inj hf
    exact hr _ _ dX5_allWeights_16

-- ThumbScale distance (IIII)I
def rmX5_distance : Room := { frames := 3, cells := 0, slots := 0, locals := 72 }
def kX5_distance : MK := (cX5_distance, 7, RX5, wsX5_distance, (some .int), rmX5_distance)

set_option maxRecDepth 20000 in
theorem jX5_distance_16 : Cond.fieldLink RX5 16 (TX5 3).1 (TX5 3).2.1 (TX5 3).2.2.1 ∈ wsX5_distance := by decide +kernel
set_option maxRecDepth 20000 in
theorem iX5_distance_X5 : ∀ x ∈ u_ws RX5 TX5 16, x ∈ wsX5_distance := by decide +kernel
set_option maxRecDepth 20000 in
theorem vX5_distance_133 : KV kX5_distance 133 RX2 yX2_howOften wsX2_howOften rmX2_howOften 4 := ⟨_, _, _, _, gX5_distance_X2_howOften, rfl, rfl, rfl, by decide +kernel, ⟨by decide, by decide⟩⟩
set_option maxRecDepth 20000 in
theorem mX5_distance_348 : (Cond.methodLink RX5 348 Lib.Math.abs.name ∈ wsX5_distance ∧ Cond.static Lib.Math.abs.name ∈ wsX5_distance) ∧ (Cond.initialized "java/lang/Math" ∈ wsX5_distance ∧ Cond.code Lib.Math.abs.name Lib.Math.abs.code 1 (some .int) ∈ wsX5_distance) := ⟨⟨by decide +kernel, by decide +kernel⟩, ⟨by decide +kernel, by decide +kernel⟩⟩
def f_X5_distance_L6 (F : Nat) (s : ST) (a1 : Int32) (a2 : Int32) (a3 : Int32) (a4 : Int32) : Nat → Int32 → Int32 → Option Int32
  | 0, _, _ => none
  | n + 1, x1, x2 =>
    (if (100 : Int32) < x2 then
    some x1
    else
    obd (f_X2_howOften F (T_market s) a1 a3 a4 x2) (fun v4 =>
    obd (f_X2_howOften F (T_market s) a2 a3 a4 x2) (fun v6 =>
    olt (x1 + (if 0 ≤ (v4 - v6) then (v4 - v6) else 0 - (v4 - v6))) (fun z8 =>
    f_X5_distance_L6 F s a1 a2 a3 a4 n z8 (x2 + 1)))))

def f_X5_distance (F : Nat) (s : ST) (a1 : Int32) (a2 : Int32) (a3 : Int32) (a4 : Int32) : Option Int32 :=
    f_X5_distance_L6 F s a1 a2 a3 a4 F (0 : Int32) (-1 : Int32)

set_option maxHeartbeats 4000000 in
set_option maxRecDepth 100000 in
theorem w_X5_distance_L6 {E : GE} {cs : CS} {ad : Nat → Nat} {F : Nat} {s : ST} {a1 : Int32} {a2 : Int32} {a3 : Int32} {a4 : Int32} {r : Int32} (hty : eT E = tyA cs) (hr : Ri E kX5_distance r (wT cs ad s)) : ∀ (n : Nat) (x1 : Int32) (x2 : Int32), f_X5_distance_L6 F s a1 a2 a3 a4 n x1 x2 = some r → G E kX5_distance 0 0 6 [(0, .ref (ad 0)), (1, .int a1), (2, .int a2), (3, .int a3), (4, .int a4), (5, .int x1), (6, .int x2)] [] (wT cs ad s) := by
  intro n
  induction n with
  | zero =>
    intro x1 x2 hf
    cases (show (none : Option Int32) = some r from hf)
  | succ n ih =>
    intro x1 x2 hf
    rw [f_X5_distance_L6] at hf
    refine g_iload 6 dX5_distance_6 rfl ?_
    refine g_bipush (v := (100 : Int32)) dX5_distance_8 (by decide) ?_
    refine g_icmp_gt (tgt := 54) dX5_distance_10 (by decide) (fun h3 => ?_) (fun h3 => ?_)
    · have hf := ift h3 hf
      refine g_iload 5 dX5_distance_54 rfl ?_
      obtain rfl := Option.some.inj hf
      exact hr _ _ dX5_distance_56
    · have hf := iff_ h3 hf
      refine g_iload 5 dX5_distance_13 rfl ?_
      refine g_aload_n 0 dX5_distance_15 rfl rfl ?_
      refine g_get (ci := 5) (T := TX5) (N := 16) 0 3 (.ref (ad 11)) dX5_distance_16 iX5_distance_X5 rfl jX5_distance_16 (by decide) wlaT_0 rfl ?_
      refine g_iload_n 1 dX5_distance_19 rfl rfl ?_
      refine g_iload_n 3 dX5_distance_20 rfl rfl ?_
      refine g_iload 4 dX5_distance_21 rfl ?_
      refine g_iload 6 dX5_distance_23 rfl ?_
      obtain ⟨v4, hc5, hf⟩ := obd_some hf
      refine g_callVi (ci := 2) (As := [.int a1, .int a3, .int a4, .int x2]) (rest := [.int x1]) (w2 := (wT cs ad s)) 11 dX5_distance_25 vX5_distance_133 (c_X2_howOften (fun k => ad (11 + k)) hty hc5) rfl wlhT_11 rfl rfl 0 wlaM_0 rfl (Nat.le_of_ble_eq_true rfl) ⟨Nat.zero_le _, Nat.zero_le _⟩ wlrT_11 ?_
      refine g_aload_n 0 dX5_distance_28 rfl rfl ?_
      refine g_get (ci := 5) (T := TX5) (N := 16) 0 3 (.ref (ad 11)) dX5_distance_29 iX5_distance_X5 rfl jX5_distance_16 (by decide) wlaT_0 rfl ?_
      refine g_iload_n 2 dX5_distance_32 rfl rfl ?_
      refine g_iload_n 3 dX5_distance_33 rfl rfl ?_
      refine g_iload 4 dX5_distance_34 rfl ?_
      refine g_iload 6 dX5_distance_36 rfl ?_
      obtain ⟨v6, hc7, hf⟩ := obd_some hf
      refine g_callVi (ci := 2) (As := [.int a2, .int a3, .int a4, .int x2]) (rest := [.int v4, .int x1]) (w2 := (wT cs ad s)) 11 dX5_distance_38 vX5_distance_133 (c_X2_howOften (fun k => ad (11 + k)) hty hc7) rfl wlhT_11 rfl rfl 0 wlaM_0 rfl (Nat.le_of_ble_eq_true rfl) ⟨Nat.zero_le _, Nat.zero_le _⟩ wlrT_11 ?_
      refine g_isub dX5_distance_41 ?_
      refine g_mabs dX5_distance_42 mX5_distance_348.1.1 mX5_distance_348.1.2 mX5_distance_348.2.1 mX5_distance_348.2.2 ⟨by decide, Nat.le_of_ble_eq_true rfl, Nat.zero_le _, Nat.zero_le _⟩ ?_
      refine g_iadd dX5_distance_45 ?_
      obtain ⟨z8, e_z8, hf⟩ := olt_some hf
      refine g_cast rfl rfl (congrArg (fun q => Value.int q :: []) e_z8) rfl ?_
      refine g_istore (lv2 := [(5, .int z8), (0, .ref (ad 0)), (1, .int a1), (2, .int a2), (3, .int a3), (4, .int a4), (6, .int x2)]) dX5_distance_46 (by decide) rfl ?_
      refine g_iinc (lv2 := [(6, .int (x2 + 1)), (5, .int z8), (0, .ref (ad 0)), (1, .int a1), (2, .int a2), (3, .int a3), (4, .int a4)]) 6 dX5_distance_48 rfl (ii1 _) (by decide) rfl ?_
      refine g_goto (tgt := 6) dX5_distance_51 (by decide) ?_
      exact g_sub [2, 3, 4, 5, 6, 1, 0] rfl (ih z8 (x2 + 1) hf)

set_option maxHeartbeats 4000000 in
set_option maxRecDepth 100000 in
theorem c_X5_distance {l : Launch} {D : va_G} {tys : List (ClassId × FieldType)} {X : XT} {cs : CS} (ad : Nat → Nat) {F : Nat} {s : ST} {a1 : Int32} {a2 : Int32} {a3 : Int32} {a4 : Int32} {r : Int32} (htyM : tys = tyA cs) (hf : f_X5_distance F s a1 a2 a3 a4 = some r) : Ci l D tys X yX5_distance wsX5_distance rmX5_distance [.ref (ad 0), .int a1, .int a2, .int a3, .int a4] (wT cs ad s) r (wT cs ad s) := by
  refine Ci_ofG (by decide +kernel) rfl (Nat.le_of_ble_eq_true rfl) .int rfl (vp_nar_int _) (fun E _ _ hty0 hX0 hr => ?_)
  have hty := hty0.trans htyM
  have hr : Ri E kX5_distance r (wT cs ad s) := hr
  show G E kX5_distance 0 0 0 [(0, .ref (ad 0)), (1, .int a1), (2, .int a2), (3, .int a3), (4, .int a4)] [] (wT cs ad s)
  unfold f_X5_distance at hf
  refine g_iconst (v := (0 : Int32)) dX5_distance_0 (by decide) ?_
  refine g_istore (lv2 := [(5, .int (0 : Int32)), (0, .ref (ad 0)), (1, .int a1), (2, .int a2), (3, .int a3), (4, .int a4)]) dX5_distance_1 (by decide) rfl ?_
  refine g_iconst (v := (-1 : Int32)) dX5_distance_3 (by decide) ?_
  refine g_istore (lv2 := [(6, .int (-1 : Int32)), (5, .int (0 : Int32)), (0, .ref (ad 0)), (1, .int a1), (2, .int a2), (3, .int a3), (4, .int a4)]) dX5_distance_4 (by decide) rfl ?_
  exact g_sub [2, 3, 4, 5, 6, 1, 0] rfl (w_X5_distance_L6 hty hr F (0 : Int32) (-1 : Int32) hf)

-- ThumbScale paidFor (I)J
def rmX5_paidFor : Room := { frames := 2, cells := 0, slots := 0, locals := 46 }
def kX5_paidFor : MK := (cX5_paidFor, 2, RX5, wsX5_paidFor, (some .long), rmX5_paidFor)

set_option maxRecDepth 20000 in
theorem jX5_paidFor_16 : Cond.fieldLink RX5 16 (TX5 3).1 (TX5 3).2.1 (TX5 3).2.2.1 ∈ wsX5_paidFor := by decide +kernel
set_option maxRecDepth 20000 in
theorem iX5_paidFor_X5 : ∀ x ∈ u_ws RX5 TX5 16, x ∈ wsX5_paidFor := by decide +kernel
set_option maxRecDepth 20000 in
theorem jX5_paidFor_105 : Cond.fieldLink RX5 105 (TX2 6).1 (TX2 6).2.1 (TX2 6).2.2.1 ∈ wsX5_paidFor := by decide +kernel
set_option maxRecDepth 20000 in
theorem iX5_paidFor_X2 : ∀ x ∈ u_ws RX2 TX2 12, x ∈ wsX5_paidFor := by decide +kernel
set_option maxRecDepth 20000 in
theorem jX5_paidFor_38 : Cond.fieldLink RX5 38 (TX5 6).1 (TX5 6).2.1 (TX5 6).2.2.1 ∈ wsX5_paidFor := by decide +kernel
set_option maxRecDepth 20000 in
theorem vX5_paidFor_350 : KV kX5_paidFor 350 RX0 yX0_toldOf wsX0_toldOf rmX0_toldOf 1 := ⟨_, _, _, _, gX5_paidFor_X0_toldOf, rfl, rfl, rfl, by decide +kernel, ⟨by decide, by decide⟩⟩
def f_X5_paidFor (F : Nat) (s : ST) (a1 : Int32) : Option Int64 :=
    ochi a1 6 (
    obd (f_X0_toldOf F (T_book s) a1) (fun v2 =>
    some ((Int32.toInt64 ((M_price (T_market s)) (Int32.toNatClampNeg a1))) * (Int32.toInt64 v2))))

set_option maxHeartbeats 4000000 in
set_option maxRecDepth 100000 in
theorem c_X5_paidFor {l : Launch} {D : va_G} {tys : List (ClassId × FieldType)} {X : XT} {cs : CS} (ad : Nat → Nat) {F : Nat} {s : ST} {a1 : Int32} {r : Int64} (htyM : tys = tyA cs) (hf : f_X5_paidFor F s a1 = some r) : Cl l D tys X yX5_paidFor wsX5_paidFor rmX5_paidFor [.ref (ad 0), .int a1] (wT cs ad s) r (wT cs ad s) := by
  refine Cl_ofG (by decide +kernel) rfl (Nat.le_of_ble_eq_true rfl) (fun E _ _ hty0 hX0 hr => ?_)
  have hty := hty0.trans htyM
  have hr : Rl E kX5_paidFor r (wT cs ad s) := hr
  show G E kX5_paidFor 0 0 0 [(0, .ref (ad 0)), (1, .int a1)] [] (wT cs ad s)
  unfold f_X5_paidFor at hf
  refine g_aload_n 0 dX5_paidFor_0 rfl rfl ?_
  refine g_get (ci := 5) (T := TX5) (N := 16) 0 3 (.ref (ad 11)) dX5_paidFor_1 iX5_paidFor_X5 rfl jX5_paidFor_16 (by decide) wlaT_0 rfl ?_
  refine g_get (ci := 2) (T := TX2) (N := 12) 11 6 (.ref (ad 14)) dX5_paidFor_4 iX5_paidFor_X2 rfl jX5_paidFor_105 (by decide) wlaT_11 rfl ?_
  refine g_iload_n 1 dX5_paidFor_7 rfl rfl ?_
  obtain ⟨h1, hf⟩ := ochi_some hf
  refine g_iald 14 0 dX5_paidFor_8 wlaT_14 (tI hty) h1 ?_
  refine g_i2l dX5_paidFor_9 ?_
  refine g_aload_n 0 dX5_paidFor_10 rfl rfl ?_
  refine g_get (ci := 5) (T := TX5) (N := 16) 0 6 (.ref (ad 20)) dX5_paidFor_11 iX5_paidFor_X5 rfl jX5_paidFor_38 (by decide) wlaT_0 rfl ?_
  refine g_iload_n 1 dX5_paidFor_14 rfl rfl ?_
  obtain ⟨v2, hc3, hf⟩ := obd_some hf
  refine g_callVi (ci := 0) (As := [.int a1]) (rest := [.long (Int32.toInt64 ((M_price (T_market s)) (Int32.toNatClampNeg a1)))]) (w2 := (wT cs ad s)) 20 dX5_paidFor_15 vX5_paidFor_350 (c_X0_toldOf (fun k => ad (20 + k)) hty hc3) rfl wlhT_20 rfl rfl 0 wlaB_0 rfl (Nat.le_of_ble_eq_true rfl) ⟨Nat.zero_le _, Nat.zero_le _⟩ wlrT_20 ?_
  refine g_i2l dX5_paidFor_18 ?_
  refine g_lmul dX5_paidFor_19 ?_
  obtain rfl := Option.some.inj hf
  exact hr _ _ dX5_paidFor_20

-- ThumbScale trulyGiven (I)J
def rmX5_trulyGiven : Room := { frames := 2, cells := 0, slots := 0, locals := 47 }
def kX5_trulyGiven : MK := (cX5_trulyGiven, 2, RX5, wsX5_trulyGiven, (some .long), rmX5_trulyGiven)

set_option maxRecDepth 20000 in
theorem jX5_trulyGiven_38 : Cond.fieldLink RX5 38 (TX5 6).1 (TX5 6).2.1 (TX5 6).2.2.1 ∈ wsX5_trulyGiven := by decide +kernel
set_option maxRecDepth 20000 in
theorem iX5_trulyGiven_X5 : ∀ x ∈ u_ws RX5 TX5 16, x ∈ wsX5_trulyGiven := by decide +kernel
set_option maxRecDepth 20000 in
theorem vX5_trulyGiven_350 : KV kX5_trulyGiven 350 RX0 yX0_toldOf wsX0_toldOf rmX0_toldOf 1 := ⟨_, _, _, _, gX5_trulyGiven_X0_toldOf, rfl, rfl, rfl, by decide +kernel, ⟨by decide, by decide⟩⟩
set_option maxRecDepth 20000 in
theorem vX5_trulyGiven_273 : KV kX5_trulyGiven 273 RX0 yX0_shortsOf wsX0_shortsOf rmX0_shortsOf 2 := ⟨_, _, _, _, gX5_trulyGiven_X0_shortsOf, rfl, rfl, rfl, by decide +kernel, ⟨by decide, by decide⟩⟩
def f_X5_trulyGiven (F : Nat) (s : ST) (a1 : Int32) : Option Int64 :=
    obd (f_X0_toldOf F (T_book s) a1) (fun v1 =>
    obd (f_X0_shortsOf F (T_book s) a1 (15 : Int32)) (fun v3 =>
    some (Int32.toInt64 (v1 - v3))))

set_option maxHeartbeats 4000000 in
set_option maxRecDepth 100000 in
theorem c_X5_trulyGiven {l : Launch} {D : va_G} {tys : List (ClassId × FieldType)} {X : XT} {cs : CS} (ad : Nat → Nat) {F : Nat} {s : ST} {a1 : Int32} {r : Int64} (htyM : tys = tyA cs) (hf : f_X5_trulyGiven F s a1 = some r) : Cl l D tys X yX5_trulyGiven wsX5_trulyGiven rmX5_trulyGiven [.ref (ad 0), .int a1] (wT cs ad s) r (wT cs ad s) := by
  refine Cl_ofG (by decide +kernel) rfl (Nat.le_of_ble_eq_true rfl) (fun E _ _ hty0 hX0 hr => ?_)
  have hty := hty0.trans htyM
  have hr : Rl E kX5_trulyGiven r (wT cs ad s) := hr
  show G E kX5_trulyGiven 0 0 0 [(0, .ref (ad 0)), (1, .int a1)] [] (wT cs ad s)
  unfold f_X5_trulyGiven at hf
  refine g_aload_n 0 dX5_trulyGiven_0 rfl rfl ?_
  refine g_get (ci := 5) (T := TX5) (N := 16) 0 6 (.ref (ad 20)) dX5_trulyGiven_1 iX5_trulyGiven_X5 rfl jX5_trulyGiven_38 (by decide) wlaT_0 rfl ?_
  refine g_iload_n 1 dX5_trulyGiven_4 rfl rfl ?_
  obtain ⟨v1, hc2, hf⟩ := obd_some hf
  refine g_callVi (ci := 0) (As := [.int a1]) (rest := []) (w2 := (wT cs ad s)) 20 dX5_trulyGiven_5 vX5_trulyGiven_350 (c_X0_toldOf (fun k => ad (20 + k)) hty hc2) rfl wlhT_20 rfl rfl 0 wlaB_0 rfl (Nat.le_of_ble_eq_true rfl) ⟨Nat.zero_le _, Nat.zero_le _⟩ wlrT_20 ?_
  refine g_aload_n 0 dX5_trulyGiven_8 rfl rfl ?_
  refine g_get (ci := 5) (T := TX5) (N := 16) 0 6 (.ref (ad 20)) dX5_trulyGiven_9 iX5_trulyGiven_X5 rfl jX5_trulyGiven_38 (by decide) wlaT_0 rfl ?_
  refine g_iload_n 1 dX5_trulyGiven_12 rfl rfl ?_
  refine g_bipush (v := (15 : Int32)) dX5_trulyGiven_13 (by decide) ?_
  obtain ⟨v3, hc4, hf⟩ := obd_some hf
  refine g_callVi (ci := 0) (As := [.int a1, .int (15 : Int32)]) (rest := [.int v1]) (w2 := (wT cs ad s)) 20 dX5_trulyGiven_15 vX5_trulyGiven_273 (c_X0_shortsOf (fun k => ad (20 + k)) hty hc4) rfl wlhT_20 rfl rfl 0 wlaB_0 rfl (Nat.le_of_ble_eq_true rfl) ⟨Nat.zero_le _, Nat.zero_le _⟩ wlrT_20 ?_
  refine g_isub dX5_trulyGiven_18 ?_
  refine g_i2l dX5_trulyGiven_19 ?_
  obtain rfl := Option.some.inj hf
  exact hr _ _ dX5_trulyGiven_20

-- ThumbScale sortOffs (I)I
def rmX5_sortOffs : Room := { frames := 0, cells := 0, slots := 0, locals := 0 }
def kX5_sortOffs : MK := (cX5_sortOffs, 5, RX5, wsX5_sortOffs, (some .int), rmX5_sortOffs)

set_option maxRecDepth 20000 in
theorem jX5_sortOffs_38 : Cond.fieldLink RX5 38 (TX5 6).1 (TX5 6).2.1 (TX5 6).2.2.1 ∈ wsX5_sortOffs := by decide +kernel
set_option maxRecDepth 20000 in
theorem iX5_sortOffs_X5 : ∀ x ∈ u_ws RX5 TX5 16, x ∈ wsX5_sortOffs := by decide +kernel
set_option maxRecDepth 20000 in
theorem jX5_sortOffs_282 : Cond.fieldLink RX5 282 (TX0 7).1 (TX0 7).2.1 (TX0 7).2.2.1 ∈ wsX5_sortOffs := by decide +kernel
set_option maxRecDepth 20000 in
theorem iX5_sortOffs_X0 : ∀ x ∈ u_ws RX0 TX0 15, x ∈ wsX5_sortOffs := by decide +kernel
set_option maxRecDepth 20000 in
theorem jX5_sortOffs_285 : Cond.fieldLink RX5 285 (TX0 8).1 (TX0 8).2.1 (TX0 8).2.2.1 ∈ wsX5_sortOffs := by decide +kernel
set_option maxRecDepth 20000 in
theorem jX5_sortOffs_68 : Cond.fieldLink RX5 68 (TX5 11).1 (TX5 11).2.1 (TX5 11).2.2.1 ∈ wsX5_sortOffs := by decide +kernel
set_option maxRecDepth 20000 in
theorem jX5_sortOffs_291 : Cond.fieldLink RX5 291 (TX0 10).1 (TX0 10).2.1 (TX0 10).2.2.1 ∈ wsX5_sortOffs := by decide +kernel
def f_X5_sortOffs_L31 (F : Nat) (a1 : Int32) (x10 : Int32) (k4_ : Int32 → Int32 → ST → Option (Int32 × ST)) : Nat → Int32 → Int32 → ST → Option (Int32 × ST)
  | 0, _, _, _ => none
  | n + 1, x7, x8, s9 =>
    olt (fun (x11 : Int32) (s12 : ST) =>
    ochi x10 20 (
    olt ((B_trialOff (T_book s12)) (Int32.toNatClampNeg x10)) (fun z14 =>
    ochi x11 20 (olt (uT_sortedOffs s12 (upd (T_sortedOffs s12) (Int32.toNatClampNeg x11) z14)) (fun s16 =>
    k4_ (x7 + 1) (x10 + 1) s16))))) (fun k17 =>
    (if x8 ≤ 0 then
    k17 x8 s9
    else
    ochi (x8 - (1 : Int32)) 20 (
    ochi x10 20 (
    (if ((T_sortedOffs s9) (Int32.toNatClampNeg (x8 - (1 : Int32)))) ≤ ((B_trialOff (T_book s9)) (Int32.toNatClampNeg x10)) then
    k17 x8 s9
    else
    ochi (x8 - (1 : Int32)) 20 (
    olt ((T_sortedOffs s9) (Int32.toNatClampNeg (x8 - (1 : Int32)))) (fun z23 =>
    ochi x8 20 (olt (uT_sortedOffs s9 (upd (T_sortedOffs s9) (Int32.toNatClampNeg x8) z23)) (fun s25 =>
    f_X5_sortOffs_L31 F a1 x10 k4_ n x7 (x8 + (-1)) s25)))))))))

def f_X5_sortOffs_L4 (F : Nat) (a1 : Int32) : Nat → Int32 → Int32 → ST → Option (Int32 × ST)
  | 0, _, _, _ => none
  | n + 1, x1, x2, s3 =>
    (if (B_trials (T_book s3)) ≤ x2 then
    some (x1, s3)
    else
    ochi x2 20 (
    (if ((B_trialStall (T_book s3)) (Int32.toNatClampNeg x2)) = a1 then
    f_X5_sortOffs_L31 F a1 x2 (f_X5_sortOffs_L4 F a1 n) F x1 x1 s3
    else
    f_X5_sortOffs_L4 F a1 n x1 (x2 + 1) s3)))

def f_X5_sortOffs (F : Nat) (s : ST) (a1 : Int32) : Option (Int32 × ST) :=
    f_X5_sortOffs_L4 F a1 F (0 : Int32) (0 : Int32) s

set_option maxHeartbeats 4000000 in
set_option maxRecDepth 100000 in
theorem w_X5_sortOffs_L31 {E : GE} {cs : CS} {ad : Nat → Nat} {F : Nat} {a1 : Int32} {x10 : Int32} {k4_ : Int32 → Int32 → ST → Option (Int32 × ST)} {r : (Int32 × ST)} (hty : eT E = tyA cs) (hr : Ri E kX5_sortOffs r.1 (wT cs ad r.2)) (K4_ : ∀ (x1 : Int32) (x2 : Int32) (s3 : ST), k4_ x1 x2 s3 = some r → G E kX5_sortOffs 0 0 4 [(0, .ref (ad 0)), (1, .int a1), (2, .int x1), (3, .int x2)] [] (wT cs ad s3)) : ∀ (n : Nat) (x7 : Int32) (x8 : Int32) (s9 : ST), f_X5_sortOffs_L31 F a1 x10 k4_ n x7 x8 s9 = some r → G E kX5_sortOffs 0 0 31 [(0, .ref (ad 0)), (1, .int a1), (2, .int x7), (3, .int x10), (4, .int x8)] [] (wT cs ad s9) := by
  intro n
  induction n with
  | zero =>
    intro x7 x8 s9 hf
    cases (show (none : Option (Int32 × ST)) = some r from hf)
  | succ n ih =>
    intro x7 x8 s9 hf
    rw [f_X5_sortOffs_L31] at hf
    refine g_iload 4 dX5_sortOffs_31 rfl ?_
    obtain ⟨k17, e_k17, hf⟩ := olt_some hf
    have K_k17 : ∀ (x11 : Int32) (s12 : ST), k17 x11 s12 = some r → G E kX5_sortOffs 0 0 79 [(0, .ref (ad 0)), (1, .int a1), (2, .int x7), (3, .int x10), (4, .int x11)] [] (wT cs ad s12) := by
      intro x11 s12 hf
      rw [← e_k17] at hf
      refine g_aload_n 0 dX5_sortOffs_79 rfl rfl ?_
      refine g_get (ci := 5) (T := TX5) (N := 16) 0 11 (.ref (ad 58)) dX5_sortOffs_80 iX5_sortOffs_X5 rfl jX5_sortOffs_68 (by decide) wlaT_0 rfl ?_
      refine g_iload 4 dX5_sortOffs_83 rfl ?_
      refine g_aload_n 0 dX5_sortOffs_85 rfl rfl ?_
      refine g_get (ci := 5) (T := TX5) (N := 16) 0 6 (.ref (ad 20)) dX5_sortOffs_86 iX5_sortOffs_X5 rfl jX5_sortOffs_38 (by decide) wlaT_0 rfl ?_
      refine g_get (ci := 0) (T := TX0) (N := 15) 20 10 (.ref (ad 29)) dX5_sortOffs_89 iX5_sortOffs_X0 rfl jX5_sortOffs_291 (by decide) wlaT_20 rfl ?_
      refine g_iload_n 3 dX5_sortOffs_92 rfl rfl ?_
      obtain ⟨h13, hf⟩ := ochi_some hf
      refine g_iald 29 0 dX5_sortOffs_93 wlaT_29 (tI hty) h13 ?_
      obtain ⟨z14, e_z14, hf⟩ := olt_some hf
      refine g_cast rfl rfl (congrArg (fun q => Value.int q :: [.int x11, .ref (ad 58)]) e_z14) rfl ?_
      obtain ⟨h15, hf⟩ := ochi_some hf
      obtain ⟨s16, e_s16, hf⟩ := olt_some hf
      refine g_iast (w2 := (wT cs ad s16)) 58 0 dX5_sortOffs_94 wlaT_58 (tI hty) h15 (wlsT_58.trans (congrArg (wT cs ad) e_s16)) ?_
      refine g_iinc (lv2 := [(2, .int (x7 + 1)), (0, .ref (ad 0)), (1, .int a1), (3, .int x10), (4, .int x11)]) 2 dX5_sortOffs_95 rfl (ii1 _) (by decide) rfl ?_
      refine g_iinc (lv2 := [(3, .int (x10 + 1)), (2, .int (x7 + 1)), (0, .ref (ad 0)), (1, .int a1), (4, .int x11)]) 3 dX5_sortOffs_98 rfl (ii1 _) (by decide) rfl ?_
      refine g_goto (tgt := 4) dX5_sortOffs_101 (by decide) ?_
      exact g_sub [2, 3, 1, 0] rfl (K4_ (x7 + 1) (x10 + 1) s16 hf)
    refine g_if_le (tgt := 79) dX5_sortOffs_33 (by decide) (fun h18 => ?_) (fun h18 => ?_)
    · have hf := ift h18 hf
      exact g_sub [0, 1, 2, 3, 4] rfl (K_k17 x8 s9 hf)
    · have hf := iff_ h18 hf
      refine g_aload_n 0 dX5_sortOffs_36 rfl rfl ?_
      refine g_get (ci := 5) (T := TX5) (N := 16) 0 11 (.ref (ad 58)) dX5_sortOffs_37 iX5_sortOffs_X5 rfl jX5_sortOffs_68 (by decide) wlaT_0 rfl ?_
      refine g_iload 4 dX5_sortOffs_40 rfl ?_
      refine g_iconst (v := (1 : Int32)) dX5_sortOffs_42 (by decide) ?_
      refine g_isub dX5_sortOffs_43 ?_
      obtain ⟨h19, hf⟩ := ochi_some hf
      refine g_iald 58 0 dX5_sortOffs_44 wlaT_58 (tI hty) h19 ?_
      refine g_aload_n 0 dX5_sortOffs_45 rfl rfl ?_
      refine g_get (ci := 5) (T := TX5) (N := 16) 0 6 (.ref (ad 20)) dX5_sortOffs_46 iX5_sortOffs_X5 rfl jX5_sortOffs_38 (by decide) wlaT_0 rfl ?_
      refine g_get (ci := 0) (T := TX0) (N := 15) 20 10 (.ref (ad 29)) dX5_sortOffs_49 iX5_sortOffs_X0 rfl jX5_sortOffs_291 (by decide) wlaT_20 rfl ?_
      refine g_iload_n 3 dX5_sortOffs_52 rfl rfl ?_
      obtain ⟨h20, hf⟩ := ochi_some hf
      refine g_iald 29 0 dX5_sortOffs_53 wlaT_29 (tI hty) h20 ?_
      refine g_icmp_le (tgt := 79) dX5_sortOffs_54 (by decide) (fun h21 => ?_) (fun h21 => ?_)
      · have hf := ift h21 hf
        exact g_sub [0, 1, 2, 3, 4] rfl (K_k17 x8 s9 hf)
      · have hf := iff_ h21 hf
        refine g_aload_n 0 dX5_sortOffs_57 rfl rfl ?_
        refine g_get (ci := 5) (T := TX5) (N := 16) 0 11 (.ref (ad 58)) dX5_sortOffs_58 iX5_sortOffs_X5 rfl jX5_sortOffs_68 (by decide) wlaT_0 rfl ?_
        refine g_iload 4 dX5_sortOffs_61 rfl ?_
        refine g_aload_n 0 dX5_sortOffs_63 rfl rfl ?_
        refine g_get (ci := 5) (T := TX5) (N := 16) 0 11 (.ref (ad 58)) dX5_sortOffs_64 iX5_sortOffs_X5 rfl jX5_sortOffs_68 (by decide) wlaT_0 rfl ?_
        refine g_iload 4 dX5_sortOffs_67 rfl ?_
        refine g_iconst (v := (1 : Int32)) dX5_sortOffs_69 (by decide) ?_
        refine g_isub dX5_sortOffs_70 ?_
        obtain ⟨h22, hf⟩ := ochi_some hf
        refine g_iald 58 0 dX5_sortOffs_71 wlaT_58 (tI hty) h22 ?_
        obtain ⟨z23, e_z23, hf⟩ := olt_some hf
        refine g_cast rfl rfl (congrArg (fun q => Value.int q :: [.int x8, .ref (ad 58)]) e_z23) rfl ?_
        obtain ⟨h24, hf⟩ := ochi_some hf
        obtain ⟨s25, e_s25, hf⟩ := olt_some hf
        refine g_iast (w2 := (wT cs ad s25)) 58 0 dX5_sortOffs_72 wlaT_58 (tI hty) h24 (wlsT_58.trans (congrArg (wT cs ad) e_s25)) ?_
        refine g_iinc (lv2 := [(4, .int (x8 + (-1))), (0, .ref (ad 0)), (1, .int a1), (2, .int x7), (3, .int x10)]) 4 dX5_sortOffs_73 rfl (iim1 _) (by decide) rfl ?_
        refine g_goto (tgt := 31) dX5_sortOffs_76 (by decide) ?_
        exact g_sub [1, 2, 3, 4, 0] rfl (ih x7 (x8 + (-1)) s25 hf)

set_option maxHeartbeats 4000000 in
set_option maxRecDepth 100000 in
theorem w_X5_sortOffs_L4 {E : GE} {cs : CS} {ad : Nat → Nat} {F : Nat} {a1 : Int32} {r : (Int32 × ST)} (hty : eT E = tyA cs) (hr : Ri E kX5_sortOffs r.1 (wT cs ad r.2)) : ∀ (n : Nat) (x1 : Int32) (x2 : Int32) (s3 : ST), f_X5_sortOffs_L4 F a1 n x1 x2 s3 = some r → G E kX5_sortOffs 0 0 4 [(0, .ref (ad 0)), (1, .int a1), (2, .int x1), (3, .int x2)] [] (wT cs ad s3) := by
  intro n
  induction n with
  | zero =>
    intro x1 x2 s3 hf
    cases (show (none : Option (Int32 × ST)) = some r from hf)
  | succ n ih =>
    intro x1 x2 s3 hf
    rw [f_X5_sortOffs_L4] at hf
    refine g_iload_n 3 dX5_sortOffs_4 rfl rfl ?_
    refine g_aload_n 0 dX5_sortOffs_5 rfl rfl ?_
    refine g_get (ci := 5) (T := TX5) (N := 16) 0 6 (.ref (ad 20)) dX5_sortOffs_6 iX5_sortOffs_X5 rfl jX5_sortOffs_38 (by decide) wlaT_0 rfl ?_
    refine g_get (ci := 0) (T := TX0) (N := 15) 20 7 (.int (B_trials (T_book s3))) dX5_sortOffs_9 iX5_sortOffs_X0 rfl jX5_sortOffs_282 (by decide) wlaT_20 rfl ?_
    refine g_icmp_ge (tgt := 104) dX5_sortOffs_12 (by decide) (fun h4 => ?_) (fun h4 => ?_)
    · have hf := ift h4 hf
      refine g_iload_n 2 dX5_sortOffs_104 rfl rfl ?_
      obtain rfl := Option.some.inj hf
      exact hr _ _ dX5_sortOffs_105
    · have hf := iff_ h4 hf
      refine g_aload_n 0 dX5_sortOffs_15 rfl rfl ?_
      refine g_get (ci := 5) (T := TX5) (N := 16) 0 6 (.ref (ad 20)) dX5_sortOffs_16 iX5_sortOffs_X5 rfl jX5_sortOffs_38 (by decide) wlaT_0 rfl ?_
      refine g_get (ci := 0) (T := TX0) (N := 15) 20 8 (.ref (ad 27)) dX5_sortOffs_19 iX5_sortOffs_X0 rfl jX5_sortOffs_285 (by decide) wlaT_20 rfl ?_
      refine g_iload_n 3 dX5_sortOffs_22 rfl rfl ?_
      obtain ⟨h5, hf⟩ := ochi_some hf
      refine g_iald 27 0 dX5_sortOffs_23 wlaT_27 (tI hty) h5 ?_
      refine g_iload_n 1 dX5_sortOffs_24 rfl rfl ?_
      refine g_icmp_ne (tgt := 98) dX5_sortOffs_25 (by decide) (fun h6 => ?_) (fun h6 => ?_)
      · have hf := iff_ h6 hf
        refine g_iinc (lv2 := [(3, .int (x2 + 1)), (0, .ref (ad 0)), (1, .int a1), (2, .int x1)]) 3 dX5_sortOffs_98 rfl (ii1 _) (by decide) rfl ?_
        refine g_goto (tgt := 4) dX5_sortOffs_101 (by decide) ?_
        exact g_sub [1, 2, 3, 0] rfl (ih x1 (x2 + 1) s3 hf)
      · have hf := ift h6 hf
        refine g_iload_n 2 dX5_sortOffs_28 rfl rfl ?_
        refine g_istore (lv2 := [(4, .int x1), (0, .ref (ad 0)), (1, .int a1), (2, .int x1), (3, .int x2)]) dX5_sortOffs_29 (by decide) rfl ?_
        exact g_sub [1, 2, 3, 4, 0] rfl (w_X5_sortOffs_L31 hty hr ih F x1 x1 s3 hf)

set_option maxHeartbeats 4000000 in
set_option maxRecDepth 100000 in
theorem c_X5_sortOffs {l : Launch} {D : va_G} {tys : List (ClassId × FieldType)} {X : XT} {cs : CS} (ad : Nat → Nat) {F : Nat} {s : ST} {a1 : Int32} {r : (Int32 × ST)} (htyM : tys = tyA cs) (hf : f_X5_sortOffs F s a1 = some r) : Ci l D tys X yX5_sortOffs wsX5_sortOffs rmX5_sortOffs [.ref (ad 0), .int a1] (wT cs ad s) r.1 (wT cs ad r.2) := by
  refine Ci_ofG (by decide +kernel) rfl (Nat.le_of_ble_eq_true rfl) .int rfl (vp_nar_int _) (fun E _ _ hty0 hX0 hr => ?_)
  have hty := hty0.trans htyM
  have hr : Ri E kX5_sortOffs r.1 (wT cs ad r.2) := hr
  show G E kX5_sortOffs 0 0 0 [(0, .ref (ad 0)), (1, .int a1)] [] (wT cs ad s)
  unfold f_X5_sortOffs at hf
  refine g_iconst (v := (0 : Int32)) dX5_sortOffs_0 (by decide) ?_
  refine g_istore_n (lv2 := [(2, .int (0 : Int32)), (0, .ref (ad 0)), (1, .int a1)]) dX5_sortOffs_1 rfl (by decide) rfl ?_
  refine g_iconst (v := (0 : Int32)) dX5_sortOffs_2 (by decide) ?_
  refine g_istore_n (lv2 := [(3, .int (0 : Int32)), (2, .int (0 : Int32)), (0, .ref (ad 0)), (1, .int a1)]) dX5_sortOffs_3 rfl (by decide) rfl ?_
  exact g_sub [2, 3, 1, 0] rfl (w_X5_sortOffs_L4 hty hr F (0 : Int32) (0 : Int32) s hf)

-- ThumbScale fillChances (III)I
def rmX5_fillChances : Room := { frames := 3, cells := 0, slots := 0, locals := 72 }
def kX5_fillChances : MK := (cX5_fillChances, 7, RX5, wsX5_fillChances, (some .int), rmX5_fillChances)

set_option maxRecDepth 20000 in
theorem jX5_fillChances_16 : Cond.fieldLink RX5 16 (TX5 3).1 (TX5 3).2.1 (TX5 3).2.2.1 ∈ wsX5_fillChances := by decide +kernel
set_option maxRecDepth 20000 in
theorem iX5_fillChances_X5 : ∀ x ∈ u_ws RX5 TX5 16, x ∈ wsX5_fillChances := by decide +kernel
set_option maxRecDepth 20000 in
theorem vX5_fillChances_133 : KV kX5_fillChances 133 RX2 yX2_howOften wsX2_howOften rmX2_howOften 4 := ⟨_, _, _, _, gX5_fillChances_X2_howOften, rfl, rfl, rfl, by decide +kernel, ⟨by decide, by decide⟩⟩
set_option maxRecDepth 20000 in
theorem jX5_fillChances_71 : Cond.fieldLink RX5 71 (TX5 12).1 (TX5 12).2.1 (TX5 12).2.2.1 ∈ wsX5_fillChances := by decide +kernel
set_option maxRecDepth 20000 in
theorem jX5_fillChances_74 : Cond.fieldLink RX5 74 (TX5 13).1 (TX5 13).2.1 (TX5 13).2.2.1 ∈ wsX5_fillChances := by decide +kernel
def f_X5_fillChances_L6 (F : Nat) (a1 : Int32) (a2 : Int32) (a3 : Int32) : Nat → Int32 → Int32 → ST → Option (Int32 × ST)
  | 0, _, _, _ => none
  | n + 1, x1, x2, s3 =>
    (if (100 : Int32) < x2 then
    some (x1, s3)
    else
    obd (f_X2_howOften F (T_market s3) a1 a2 a3 x2) (fun v5 =>
    (if v5 ≤ 0 then
    f_X5_fillChances_L6 F a1 a2 a3 n x1 (x2 + 1) s3
    else
    ochi x1 102 (olt (uT_chanceSteps s3 (upd (T_chanceSteps s3) (Int32.toNatClampNeg x1) x2)) (fun s9 =>
    ochi x1 102 (olt (uT_chanceOften s9 (upd (T_chanceOften s9) (Int32.toNatClampNeg x1) v5)) (fun s11 =>
    f_X5_fillChances_L6 F a1 a2 a3 n (x1 + 1) (x2 + 1) s11)))))))

def f_X5_fillChances (F : Nat) (s : ST) (a1 : Int32) (a2 : Int32) (a3 : Int32) : Option (Int32 × ST) :=
    f_X5_fillChances_L6 F a1 a2 a3 F (0 : Int32) (-1 : Int32) s

set_option maxHeartbeats 4000000 in
set_option maxRecDepth 100000 in
theorem w_X5_fillChances_L6 {E : GE} {cs : CS} {ad : Nat → Nat} {F : Nat} {a1 : Int32} {a2 : Int32} {a3 : Int32} {r : (Int32 × ST)} (hty : eT E = tyA cs) (hr : Ri E kX5_fillChances r.1 (wT cs ad r.2)) : ∀ (n : Nat) (x1 : Int32) (x2 : Int32) (s3 : ST), f_X5_fillChances_L6 F a1 a2 a3 n x1 x2 s3 = some r → G E kX5_fillChances 0 0 6 [(0, .ref (ad 0)), (1, .int a1), (2, .int a2), (3, .int a3), (4, .int x1), (5, .int x2)] [] (wT cs ad s3) := by
  intro n
  induction n with
  | zero =>
    intro x1 x2 s3 hf
    cases (show (none : Option (Int32 × ST)) = some r from hf)
  | succ n ih =>
    intro x1 x2 s3 hf
    rw [f_X5_fillChances_L6] at hf
    refine g_iload 5 dX5_fillChances_6 rfl ?_
    refine g_bipush (v := (100 : Int32)) dX5_fillChances_8 (by decide) ?_
    refine g_icmp_gt (tgt := 59) dX5_fillChances_10 (by decide) (fun h4 => ?_) (fun h4 => ?_)
    · have hf := ift h4 hf
      refine g_iload 4 dX5_fillChances_59 rfl ?_
      obtain rfl := Option.some.inj hf
      exact hr _ _ dX5_fillChances_61
    · have hf := iff_ h4 hf
      refine g_aload_n 0 dX5_fillChances_13 rfl rfl ?_
      refine g_get (ci := 5) (T := TX5) (N := 16) 0 3 (.ref (ad 11)) dX5_fillChances_14 iX5_fillChances_X5 rfl jX5_fillChances_16 (by decide) wlaT_0 rfl ?_
      refine g_iload_n 1 dX5_fillChances_17 rfl rfl ?_
      refine g_iload_n 2 dX5_fillChances_18 rfl rfl ?_
      refine g_iload_n 3 dX5_fillChances_19 rfl rfl ?_
      refine g_iload 5 dX5_fillChances_20 rfl ?_
      obtain ⟨v5, hc6, hf⟩ := obd_some hf
      refine g_callVi (ci := 2) (As := [.int a1, .int a2, .int a3, .int x2]) (rest := []) (w2 := (wT cs ad s3)) 11 dX5_fillChances_22 vX5_fillChances_133 (c_X2_howOften (fun k => ad (11 + k)) hty hc6) rfl wlhT_11 rfl rfl 0 wlaM_0 rfl (Nat.le_of_ble_eq_true rfl) ⟨Nat.zero_le _, Nat.zero_le _⟩ wlrT_11 ?_
      refine g_istore (lv2 := [(6, .int v5), (0, .ref (ad 0)), (1, .int a1), (2, .int a2), (3, .int a3), (4, .int x1), (5, .int x2)]) dX5_fillChances_25 (by decide) rfl ?_
      refine g_iload 0 dX5_fillChances_27 rfl ?_
      refine g_if_le (tgt := 53) dX5_fillChances_29 (by decide) (fun h7 => ?_) (fun h7 => ?_)
      · have hf := ift h7 hf
        refine g_iinc (lv2 := [(5, .int (x2 + 1)), (6, .int v5), (0, .ref (ad 0)), (1, .int a1), (2, .int a2), (3, .int a3), (4, .int x1)]) 6 dX5_fillChances_53 rfl (ii1 _) (by decide) rfl ?_
        refine g_goto (tgt := 6) dX5_fillChances_56 (by decide) ?_
        exact g_sub [2, 3, 4, 5, 6, 0] rfl (ih x1 (x2 + 1) s3 hf)
      · have hf := iff_ h7 hf
        refine g_aload_n 1 dX5_fillChances_32 rfl rfl ?_
        refine g_get (ci := 5) (T := TX5) (N := 16) 0 12 (.ref (ad 59)) dX5_fillChances_33 iX5_fillChances_X5 rfl jX5_fillChances_71 (by decide) wlaT_0 rfl ?_
        refine g_iload 5 dX5_fillChances_36 rfl ?_
        refine g_iload 6 dX5_fillChances_38 rfl ?_
        obtain ⟨h8, hf⟩ := ochi_some hf
        obtain ⟨s9, e_s9, hf⟩ := olt_some hf
        refine g_iast (w2 := (wT cs ad s9)) 59 0 dX5_fillChances_40 wlaT_59 (tI hty) h8 (wlsT_59.trans (congrArg (wT cs ad) e_s9)) ?_
        refine g_aload_n 1 dX5_fillChances_41 rfl rfl ?_
        refine g_get (ci := 5) (T := TX5) (N := 16) 0 13 (.ref (ad 60)) dX5_fillChances_42 iX5_fillChances_X5 rfl jX5_fillChances_74 (by decide) wlaT_0 rfl ?_
        refine g_iload 5 dX5_fillChances_45 rfl ?_
        refine g_iload 0 dX5_fillChances_47 rfl ?_
        obtain ⟨h10, hf⟩ := ochi_some hf
        obtain ⟨s11, e_s11, hf⟩ := olt_some hf
        refine g_iast (w2 := (wT cs ad s11)) 60 0 dX5_fillChances_49 wlaT_60 (tI hty) h10 (wlsT_60.trans (congrArg (wT cs ad) e_s11)) ?_
        refine g_iinc (lv2 := [(4, .int (x1 + 1)), (6, .int v5), (0, .ref (ad 0)), (1, .int a1), (2, .int a2), (3, .int a3), (5, .int x2)]) 5 dX5_fillChances_50 rfl (ii1 _) (by decide) rfl ?_
        refine g_iinc (lv2 := [(5, .int (x2 + 1)), (4, .int (x1 + 1)), (6, .int v5), (0, .ref (ad 0)), (1, .int a1), (2, .int a2), (3, .int a3)]) 6 dX5_fillChances_53 rfl (ii1 _) (by decide) rfl ?_
        refine g_goto (tgt := 6) dX5_fillChances_56 (by decide) ?_
        exact g_sub [3, 4, 5, 6, 1, 0] rfl (ih (x1 + 1) (x2 + 1) s11 hf)

set_option maxHeartbeats 4000000 in
set_option maxRecDepth 100000 in
theorem c_X5_fillChances {l : Launch} {D : va_G} {tys : List (ClassId × FieldType)} {X : XT} {cs : CS} (ad : Nat → Nat) {F : Nat} {s : ST} {a1 : Int32} {a2 : Int32} {a3 : Int32} {r : (Int32 × ST)} (htyM : tys = tyA cs) (hf : f_X5_fillChances F s a1 a2 a3 = some r) : Ci l D tys X yX5_fillChances wsX5_fillChances rmX5_fillChances [.ref (ad 0), .int a1, .int a2, .int a3] (wT cs ad s) r.1 (wT cs ad r.2) := by
  refine Ci_ofG (by decide +kernel) rfl (Nat.le_of_ble_eq_true rfl) .int rfl (vp_nar_int _) (fun E _ _ hty0 hX0 hr => ?_)
  have hty := hty0.trans htyM
  have hr : Ri E kX5_fillChances r.1 (wT cs ad r.2) := hr
  show G E kX5_fillChances 0 0 0 [(0, .ref (ad 0)), (1, .int a1), (2, .int a2), (3, .int a3)] [] (wT cs ad s)
  unfold f_X5_fillChances at hf
  refine g_iconst (v := (0 : Int32)) dX5_fillChances_0 (by decide) ?_
  refine g_istore (lv2 := [(4, .int (0 : Int32)), (0, .ref (ad 0)), (1, .int a1), (2, .int a2), (3, .int a3)]) dX5_fillChances_1 (by decide) rfl ?_
  refine g_iconst (v := (-1 : Int32)) dX5_fillChances_3 (by decide) ?_
  refine g_istore (lv2 := [(5, .int (-1 : Int32)), (4, .int (0 : Int32)), (0, .ref (ad 0)), (1, .int a1), (2, .int a2), (3, .int a3)]) dX5_fillChances_4 (by decide) rfl ?_
  exact g_sub [2, 3, 4, 5, 1, 0] rfl (w_X5_fillChances_L6 hty hr F (0 : Int32) (-1 : Int32) s hf)

-- ThumbScale drawSteps (I)I
def rmX5_drawSteps : Room := { frames := 0, cells := 0, slots := 0, locals := 0 }
def kX5_drawSteps : MK := (cX5_drawSteps, 4, RX5, wsX5_drawSteps, (some .int), rmX5_drawSteps)

set_option maxRecDepth 20000 in
theorem jX5_drawSteps_38 : Cond.fieldLink RX5 38 (TX5 6).1 (TX5 6).2.1 (TX5 6).2.2.1 ∈ wsX5_drawSteps := by decide +kernel
set_option maxRecDepth 20000 in
theorem iX5_drawSteps_X5 : ∀ x ∈ u_ws RX5 TX5 16, x ∈ wsX5_drawSteps := by decide +kernel
set_option maxRecDepth 20000 in
theorem jX5_drawSteps_42 : Cond.fieldLink RX5 42 (TX0 14).1 (TX0 14).2.1 (TX0 14).2.2.1 ∈ wsX5_drawSteps := by decide +kernel
set_option maxRecDepth 20000 in
theorem iX5_drawSteps_X0 : ∀ x ∈ u_ws RX0 TX0 15, x ∈ wsX5_drawSteps := by decide +kernel
set_option maxRecDepth 20000 in
theorem qX5_drawSteps_353 : Cond.constant RX5 353 (1103515245 : Int32) ∈ wsX5_drawSteps := by decide +kernel
set_option maxRecDepth 20000 in
theorem jX5_drawSteps_74 : Cond.fieldLink RX5 74 (TX5 13).1 (TX5 13).2.1 (TX5 13).2.2.1 ∈ wsX5_drawSteps := by decide +kernel
set_option maxRecDepth 20000 in
theorem jX5_drawSteps_71 : Cond.fieldLink RX5 71 (TX5 12).1 (TX5 12).2.1 (TX5 12).2.2.1 ∈ wsX5_drawSteps := by decide +kernel
def f_X5_drawSteps_L39 (F : Nat) (a1 : Int32) (s7 : ST) : Nat → Int32 → Int32 → Option (Int32 × ST)
  | 0, _, _ => none
  | n + 1, x5, x6 =>
    (if a1 ≤ x6 then
    some ((0 : Int32), s7)
    else
    ochi x6 102 (
    olt (x5 - ((T_chanceOften s7) (Int32.toNatClampNeg x6))) (fun z10 =>
    (if 0 ≤ z10 then
    f_X5_drawSteps_L39 F a1 s7 n z10 (x6 + 1)
    else
    ochi x6 102 (
    some (((T_chanceSteps s7) (Int32.toNatClampNeg x6)), s7))))))

def f_X5_drawSteps (F : Nat) (s : ST) (a1 : Int32) : Option (Int32 × ST) :=
    olt (((B_lot (T_book s)) * (1103515245 : Int32)) + (12345 : Int32)) (fun z1 =>
    olt (uT_book s (uB_lot (T_book s) z1)) (fun s2 =>
    ochk (¬ (600 : Int32) = 0) (
    olt (((Int32.toUInt32 (B_lot (T_book s2)) >>> (Int32.toUInt32 (16 : Int32) &&& Int32.toUInt32 31)).toInt32) - ((Int32.toUInt32 (B_lot (T_book s2)) >>> (Int32.toUInt32 (16 : Int32) &&& Int32.toUInt32 31)).toInt32) / (600 : Int32) * (600 : Int32)) (fun z4 =>
    f_X5_drawSteps_L39 F a1 s2 F z4 (0 : Int32)))))

set_option maxHeartbeats 4000000 in
set_option maxRecDepth 100000 in
theorem w_X5_drawSteps_L39 {E : GE} {cs : CS} {ad : Nat → Nat} {F : Nat} {a1 : Int32} {s7 : ST} {r : (Int32 × ST)} (hty : eT E = tyA cs) (hr : Ri E kX5_drawSteps r.1 (wT cs ad r.2)) : ∀ (n : Nat) (x5 : Int32) (x6 : Int32), f_X5_drawSteps_L39 F a1 s7 n x5 x6 = some r → G E kX5_drawSteps 0 0 39 [(0, .ref (ad 0)), (1, .int a1), (2, .int x5), (3, .int x6)] [] (wT cs ad s7) := by
  intro n
  induction n with
  | zero =>
    intro x5 x6 hf
    cases (show (none : Option (Int32 × ST)) = some r from hf)
  | succ n ih =>
    intro x5 x6 hf
    rw [f_X5_drawSteps_L39] at hf
    refine g_iload_n 3 dX5_drawSteps_39 rfl rfl ?_
    refine g_iload_n 1 dX5_drawSteps_40 rfl rfl ?_
    refine g_icmp_ge (tgt := 70) dX5_drawSteps_41 (by decide) (fun h8 => ?_) (fun h8 => ?_)
    · have hf := ift h8 hf
      refine g_iconst (v := (0 : Int32)) dX5_drawSteps_70 (by decide) ?_
      obtain rfl := Option.some.inj hf
      exact hr _ _ dX5_drawSteps_71
    · have hf := iff_ h8 hf
      refine g_iload_n 2 dX5_drawSteps_44 rfl rfl ?_
      refine g_aload_n 0 dX5_drawSteps_45 rfl rfl ?_
      refine g_get (ci := 5) (T := TX5) (N := 16) 0 13 (.ref (ad 60)) dX5_drawSteps_46 iX5_drawSteps_X5 rfl jX5_drawSteps_74 (by decide) wlaT_0 rfl ?_
      refine g_iload_n 3 dX5_drawSteps_49 rfl rfl ?_
      obtain ⟨h9, hf⟩ := ochi_some hf
      refine g_iald 60 0 dX5_drawSteps_50 wlaT_60 (tI hty) h9 ?_
      refine g_isub dX5_drawSteps_51 ?_
      obtain ⟨z10, e_z10, hf⟩ := olt_some hf
      refine g_cast rfl rfl (congrArg (fun q => Value.int q :: []) e_z10) rfl ?_
      refine g_istore_n (lv2 := [(2, .int z10), (0, .ref (ad 0)), (1, .int a1), (3, .int x6)]) dX5_drawSteps_52 rfl (by decide) rfl ?_
      refine g_iload_n 0 dX5_drawSteps_53 rfl rfl ?_
      refine g_if_ge (tgt := 64) dX5_drawSteps_54 (by decide) (fun h11 => ?_) (fun h11 => ?_)
      · have hf := ift h11 hf
        refine g_iinc (lv2 := [(3, .int (x6 + 1)), (2, .int z10), (0, .ref (ad 0)), (1, .int a1)]) 3 dX5_drawSteps_64 rfl (ii1 _) (by decide) rfl ?_
        refine g_goto (tgt := 39) dX5_drawSteps_67 (by decide) ?_
        exact g_sub [2, 3, 1, 0] rfl (ih z10 (x6 + 1) hf)
      · have hf := iff_ h11 hf
        refine g_aload_n 1 dX5_drawSteps_57 rfl rfl ?_
        refine g_get (ci := 5) (T := TX5) (N := 16) 0 12 (.ref (ad 59)) dX5_drawSteps_58 iX5_drawSteps_X5 rfl jX5_drawSteps_71 (by decide) wlaT_0 rfl ?_
        refine g_iload_n 3 dX5_drawSteps_61 rfl rfl ?_
        obtain ⟨h12, hf⟩ := ochi_some hf
        refine g_iald 59 0 dX5_drawSteps_62 wlaT_59 (tI hty) h12 ?_
        obtain rfl := Option.some.inj hf
        exact hr _ _ dX5_drawSteps_63

set_option maxHeartbeats 4000000 in
set_option maxRecDepth 100000 in
theorem c_X5_drawSteps {l : Launch} {D : va_G} {tys : List (ClassId × FieldType)} {X : XT} {cs : CS} (ad : Nat → Nat) {F : Nat} {s : ST} {a1 : Int32} {r : (Int32 × ST)} (htyM : tys = tyA cs) (hf : f_X5_drawSteps F s a1 = some r) : Ci l D tys X yX5_drawSteps wsX5_drawSteps rmX5_drawSteps [.ref (ad 0), .int a1] (wT cs ad s) r.1 (wT cs ad r.2) := by
  refine Ci_ofG (by decide +kernel) rfl (Nat.le_of_ble_eq_true rfl) .int rfl (vp_nar_int _) (fun E _ _ hty0 hX0 hr => ?_)
  have hty := hty0.trans htyM
  have hr : Ri E kX5_drawSteps r.1 (wT cs ad r.2) := hr
  show G E kX5_drawSteps 0 0 0 [(0, .ref (ad 0)), (1, .int a1)] [] (wT cs ad s)
  unfold f_X5_drawSteps at hf
  refine g_aload_n 0 dX5_drawSteps_0 rfl rfl ?_
  refine g_get (ci := 5) (T := TX5) (N := 16) 0 6 (.ref (ad 20)) dX5_drawSteps_1 iX5_drawSteps_X5 rfl jX5_drawSteps_38 (by decide) wlaT_0 rfl ?_
  refine g_aload_n 0 dX5_drawSteps_4 rfl rfl ?_
  refine g_get (ci := 5) (T := TX5) (N := 16) 0 6 (.ref (ad 20)) dX5_drawSteps_5 iX5_drawSteps_X5 rfl jX5_drawSteps_38 (by decide) wlaT_0 rfl ?_
  refine g_get (ci := 0) (T := TX0) (N := 15) 20 14 (.int (B_lot (T_book s))) dX5_drawSteps_8 iX5_drawSteps_X0 rfl jX5_drawSteps_42 (by decide) wlaT_20 rfl ?_
  refine g_ldcw (v := (1103515245 : Int32)) dX5_drawSteps_11 qX5_drawSteps_353 ?_
  refine g_imul dX5_drawSteps_14 ?_
  refine g_sipush (v := (12345 : Int32)) dX5_drawSteps_15 (by decide) ?_
  refine g_iadd dX5_drawSteps_18 ?_
  obtain ⟨z1, e_z1, hf⟩ := olt_some hf
  refine g_cast rfl rfl (congrArg (fun q => Value.int q :: [.ref (ad 20)]) e_z1) rfl ?_
  obtain ⟨s2, e_s2, hf⟩ := olt_some hf
  refine g_put (ci := 0) (T := TX0) (N := 15) (ty := .int) (w2 := (wT cs ad s2)) 20 14 (.int z1) tyX0 dX5_drawSteps_19 iX5_drawSteps_X0 tyX0_ok nmX0 rfl jX5_drawSteps_42 (by decide) rfl rfl rfl rfl wlaT_20 (Nat.le_of_ble_eq_true rfl) (wlpT_20_14.trans (congrArg (wT cs ad) e_s2)) ?_
  refine g_aload_n 0 dX5_drawSteps_22 rfl rfl ?_
  refine g_get (ci := 5) (T := TX5) (N := 16) 0 6 (.ref (ad 20)) dX5_drawSteps_23 iX5_drawSteps_X5 rfl jX5_drawSteps_38 (by decide) wlaT_0 rfl ?_
  refine g_get (ci := 0) (T := TX0) (N := 15) 20 14 (.int (B_lot (T_book s2))) dX5_drawSteps_26 iX5_drawSteps_X0 rfl jX5_drawSteps_42 (by decide) wlaT_20 rfl ?_
  refine g_bipush (v := (16 : Int32)) dX5_drawSteps_29 (by decide) ?_
  refine g_iushr dX5_drawSteps_31 ?_
  refine g_sipush (v := (600 : Int32)) dX5_drawSteps_32 (by decide) ?_
  obtain ⟨h3, hf⟩ := ochk_some hf
  refine g_irem dX5_drawSteps_35 h3 ?_
  obtain ⟨z4, e_z4, hf⟩ := olt_some hf
  refine g_cast rfl rfl (congrArg (fun q => Value.int q :: []) e_z4) rfl ?_
  refine g_istore_n (lv2 := [(2, .int z4), (0, .ref (ad 0)), (1, .int a1)]) dX5_drawSteps_36 rfl (by decide) rfl ?_
  refine g_iconst (v := (0 : Int32)) dX5_drawSteps_37 (by decide) ?_
  refine g_istore_n (lv2 := [(3, .int (0 : Int32)), (2, .int z4), (0, .ref (ad 0)), (1, .int a1)]) dX5_drawSteps_38 rfl (by decide) rfl ?_
  exact g_sub [2, 3, 1, 0] rfl (w_X5_drawSteps_L39 hty hr F z4 (0 : Int32) hf)

-- ThumbScale asWay (I)J
def rmX5_asWay : Room := { frames := 0, cells := 0, slots := 0, locals := 0 }
def kX5_asWay : MK := (cX5_asWay, 2, RX5, wsX5_asWay, (some .long), rmX5_asWay)

set_option maxRecDepth 20000 in
theorem jX5_asWay_337 : Cond.fieldLink RX5 337 (TX5 15).1 (TX5 15).2.1 (TX5 15).2.2.1 ∈ wsX5_asWay := by decide +kernel
set_option maxRecDepth 20000 in
theorem iX5_asWay_X5 : ∀ x ∈ u_ws RX5 TX5 16, x ∈ wsX5_asWay := by decide +kernel
set_option maxRecDepth 20000 in
theorem jX5_asWay_38 : Cond.fieldLink RX5 38 (TX5 6).1 (TX5 6).2.1 (TX5 6).2.2.1 ∈ wsX5_asWay := by decide +kernel
set_option maxRecDepth 20000 in
theorem jX5_asWay_152 : Cond.fieldLink RX5 152 (TX0 5).1 (TX0 5).2.1 (TX0 5).2.2.1 ∈ wsX5_asWay := by decide +kernel
set_option maxRecDepth 20000 in
theorem iX5_asWay_X0 : ∀ x ∈ u_ws RX0 TX0 15, x ∈ wsX5_asWay := by decide +kernel
def f_X5_asWay (F : Nat) (s : ST) (a1 : Int32) : Option (Int64 × ST) :=
    olt ((T_traced s) + (1 : Int64)) (fun z1 =>
    olt (uT_traced s z1) (fun s2 =>
    ochi a1 30 (
    some ((Int32.toInt64 ((B_bagShort (T_book s2)) (Int32.toNatClampNeg a1))), s2))))

set_option maxHeartbeats 4000000 in
set_option maxRecDepth 100000 in
theorem c_X5_asWay {l : Launch} {D : va_G} {tys : List (ClassId × FieldType)} {X : XT} {cs : CS} (ad : Nat → Nat) {F : Nat} {s : ST} {a1 : Int32} {r : (Int64 × ST)} (htyM : tys = tyA cs) (hf : f_X5_asWay F s a1 = some r) : Cl l D tys X yX5_asWay wsX5_asWay rmX5_asWay [.ref (ad 0), .int a1] (wT cs ad s) r.1 (wT cs ad r.2) := by
  refine Cl_ofG (by decide +kernel) rfl (Nat.le_of_ble_eq_true rfl) (fun E _ _ hty0 hX0 hr => ?_)
  have hty := hty0.trans htyM
  have hr : Rl E kX5_asWay r.1 (wT cs ad r.2) := hr
  show G E kX5_asWay 0 0 0 [(0, .ref (ad 0)), (1, .int a1)] [] (wT cs ad s)
  unfold f_X5_asWay at hf
  refine g_aload_n 0 dX5_asWay_0 rfl rfl ?_
  refine g_dup dX5_asWay_1 rfl ?_
  refine g_get (ci := 5) (T := TX5) (N := 16) 0 15 (.long (T_traced s)) dX5_asWay_2 iX5_asWay_X5 rfl jX5_asWay_337 (by decide) wlaT_0 rfl ?_
  refine g_lconst (v := (1 : Int64)) dX5_asWay_5 (by decide) ?_
  refine g_ladd dX5_asWay_6 ?_
  obtain ⟨z1, e_z1, hf⟩ := olt_some hf
  refine g_cast rfl rfl (congrArg (fun q => Value.long q :: [.ref (ad 0)]) e_z1) rfl ?_
  obtain ⟨s2, e_s2, hf⟩ := olt_some hf
  refine g_put (ci := 5) (T := TX5) (N := 16) (ty := .long) (w2 := (wT cs ad s2)) 0 15 (.long z1) tyX5 dX5_asWay_7 iX5_asWay_X5 tyX5_ok nmX5 rfl jX5_asWay_337 (by decide) rfl rfl rfl rfl wlaT_0 (Nat.le_of_ble_eq_true rfl) (wlpT_0_15.trans (congrArg (wT cs ad) e_s2)) ?_
  refine g_aload_n 0 dX5_asWay_10 rfl rfl ?_
  refine g_get (ci := 5) (T := TX5) (N := 16) 0 6 (.ref (ad 20)) dX5_asWay_11 iX5_asWay_X5 rfl jX5_asWay_38 (by decide) wlaT_0 rfl ?_
  refine g_get (ci := 0) (T := TX0) (N := 15) 20 5 (.ref (ad 25)) dX5_asWay_14 iX5_asWay_X0 rfl jX5_asWay_152 (by decide) wlaT_20 rfl ?_
  refine g_iload_n 1 dX5_asWay_17 rfl rfl ?_
  obtain ⟨h3, hf⟩ := ochi_some hf
  refine g_iald 25 0 dX5_asWay_18 wlaT_25 (tI hty) h3 ?_
  refine g_i2l dX5_asWay_19 ?_
  obtain rfl := Option.some.inj hf
  exact hr _ _ dX5_asWay_20

-- ThumbScale asHonest (I)J
def rmX5_asHonest : Room := { frames := 1, cells := 0, slots := 0, locals := 21 }
def kX5_asHonest : MK := (cX5_asHonest, 2, RX5, wsX5_asHonest, (some .long), rmX5_asHonest)

set_option maxRecDepth 20000 in
theorem jX5_asHonest_337 : Cond.fieldLink RX5 337 (TX5 15).1 (TX5 15).2.1 (TX5 15).2.2.1 ∈ wsX5_asHonest := by decide +kernel
set_option maxRecDepth 20000 in
theorem iX5_asHonest_X5 : ∀ x ∈ u_ws RX5 TX5 16, x ∈ wsX5_asHonest := by decide +kernel
set_option maxRecDepth 20000 in
theorem qX5_asHonest_192 : Cond.constantLong RX5 192 (10 : Int64) ∈ wsX5_asHonest := by decide +kernel
set_option maxRecDepth 20000 in
theorem vX5_asHonest_307 : KV kX5_asHonest 307 RX5 yX5_asWay wsX5_asWay rmX5_asWay 1 := ⟨_, _, _, _, gX5_asHonest_X5_asWay, rfl, rfl, rfl, by decide +kernel, ⟨by decide, by decide⟩⟩
set_option maxRecDepth 20000 in
theorem qX5_asHonest_354 : Cond.constantLong RX5 354 (2 : Int64) ∈ wsX5_asHonest := by decide +kernel
def f_X5_asHonest (F : Nat) (s : ST) (a1 : Int32) : Option (Int64 × ST) :=
    olt ((T_traced s) + (10 : Int64)) (fun z1 =>
    olt (uT_traced s z1) (fun s2 =>
    obd (f_X5_asWay F s2 a1) (fun v3 =>
    ochk (¬ (2 : Int64) = 0) (
    some ((v3.1 / (2 : Int64)), v3.2)))))

set_option maxHeartbeats 4000000 in
set_option maxRecDepth 100000 in
theorem c_X5_asHonest {l : Launch} {D : va_G} {tys : List (ClassId × FieldType)} {X : XT} {cs : CS} (ad : Nat → Nat) {F : Nat} {s : ST} {a1 : Int32} {r : (Int64 × ST)} (htyM : tys = tyA cs) (hf : f_X5_asHonest F s a1 = some r) : Cl l D tys X yX5_asHonest wsX5_asHonest rmX5_asHonest [.ref (ad 0), .int a1] (wT cs ad s) r.1 (wT cs ad r.2) := by
  refine Cl_ofG (by decide +kernel) rfl (Nat.le_of_ble_eq_true rfl) (fun E _ _ hty0 hX0 hr => ?_)
  have hty := hty0.trans htyM
  have hr : Rl E kX5_asHonest r.1 (wT cs ad r.2) := hr
  show G E kX5_asHonest 0 0 0 [(0, .ref (ad 0)), (1, .int a1)] [] (wT cs ad s)
  unfold f_X5_asHonest at hf
  refine g_aload_n 0 dX5_asHonest_0 rfl rfl ?_
  refine g_dup dX5_asHonest_1 rfl ?_
  refine g_get (ci := 5) (T := TX5) (N := 16) 0 15 (.long (T_traced s)) dX5_asHonest_2 iX5_asHonest_X5 rfl jX5_asHonest_337 (by decide) wlaT_0 rfl ?_
  refine g_ldc2 (v := (10 : Int64)) dX5_asHonest_5 qX5_asHonest_192 ?_
  refine g_ladd dX5_asHonest_8 ?_
  obtain ⟨z1, e_z1, hf⟩ := olt_some hf
  refine g_cast rfl rfl (congrArg (fun q => Value.long q :: [.ref (ad 0)]) e_z1) rfl ?_
  obtain ⟨s2, e_s2, hf⟩ := olt_some hf
  refine g_put (ci := 5) (T := TX5) (N := 16) (ty := .long) (w2 := (wT cs ad s2)) 0 15 (.long z1) tyX5 dX5_asHonest_9 iX5_asHonest_X5 tyX5_ok nmX5 rfl jX5_asHonest_337 (by decide) rfl rfl rfl rfl wlaT_0 (Nat.le_of_ble_eq_true rfl) (wlpT_0_15.trans (congrArg (wT cs ad) e_s2)) ?_
  refine g_aload_n 0 dX5_asHonest_12 rfl rfl ?_
  refine g_iload_n 1 dX5_asHonest_13 rfl rfl ?_
  obtain ⟨v3, hc4, hf⟩ := obd_some hf
  refine g_callVl (ci := 5) (As := [.int a1]) (rest := []) (w2 := (wT cs ad v3.2)) 0 dX5_asHonest_14 vX5_asHonest_307 (c_X5_asWay ad hty hc4) rfl (mid0 _) rfl rfl 0 wlaT_0 rfl (Nat.le_of_ble_eq_true rfl) ⟨Nat.zero_le _, Nat.zero_le _⟩ (mid2 _ _) ?_
  refine g_ldc2 (v := (2 : Int64)) dX5_asHonest_17 qX5_asHonest_354 ?_
  obtain ⟨h5, hf⟩ := ochk_some hf
  refine g_ldiv dX5_asHonest_20 h5 ?_
  obtain rfl := Option.some.inj hf
  exact hr _ _ dX5_asHonest_21

-- ThumbScale asScale (I)J
def rmX5_asScale : Room := { frames := 1, cells := 0, slots := 0, locals := 21 }
def kX5_asScale : MK := (cX5_asScale, 2, RX5, wsX5_asScale, (some .long), rmX5_asScale)

set_option maxRecDepth 20000 in
theorem jX5_asScale_337 : Cond.fieldLink RX5 337 (TX5 15).1 (TX5 15).2.1 (TX5 15).2.2.1 ∈ wsX5_asScale := by decide +kernel
set_option maxRecDepth 20000 in
theorem iX5_asScale_X5 : ∀ x ∈ u_ws RX5 TX5 16, x ∈ wsX5_asScale := by decide +kernel
set_option maxRecDepth 20000 in
theorem qX5_asScale_262 : Cond.constantLong RX5 262 (100 : Int64) ∈ wsX5_asScale := by decide +kernel
set_option maxRecDepth 20000 in
theorem vX5_asScale_307 : KV kX5_asScale 307 RX5 yX5_asWay wsX5_asWay rmX5_asWay 1 := ⟨_, _, _, _, gX5_asScale_X5_asWay, rfl, rfl, rfl, by decide +kernel, ⟨by decide, by decide⟩⟩
set_option maxRecDepth 20000 in
theorem jX5_asScale_16 : Cond.fieldLink RX5 16 (TX5 3).1 (TX5 3).2.1 (TX5 3).2.2.1 ∈ wsX5_asScale := by decide +kernel
set_option maxRecDepth 20000 in
theorem jX5_asScale_99 : Cond.fieldLink RX5 99 (TX2 4).1 (TX2 4).2.1 (TX2 4).2.2.1 ∈ wsX5_asScale := by decide +kernel
set_option maxRecDepth 20000 in
theorem iX5_asScale_X2 : ∀ x ∈ u_ws RX2 TX2 12, x ∈ wsX5_asScale := by decide +kernel
set_option maxRecDepth 20000 in
theorem jX5_asScale_38 : Cond.fieldLink RX5 38 (TX5 6).1 (TX5 6).2.1 (TX5 6).2.2.1 ∈ wsX5_asScale := by decide +kernel
set_option maxRecDepth 20000 in
theorem jX5_asScale_140 : Cond.fieldLink RX5 140 (TX0 1).1 (TX0 1).2.1 (TX0 1).2.2.1 ∈ wsX5_asScale := by decide +kernel
set_option maxRecDepth 20000 in
theorem iX5_asScale_X0 : ∀ x ∈ u_ws RX0 TX0 15, x ∈ wsX5_asScale := by decide +kernel
def f_X5_asScale (F : Nat) (s : ST) (a1 : Int32) : Option (Int64 × ST) :=
    olt ((T_traced s) + (100 : Int64)) (fun z1 =>
    olt (uT_traced s z1) (fun s2 =>
    obd (f_X5_asWay F s2 a1) (fun v3 =>
    ochi a1 30 (
    ochi ((B_bagStall (T_book v3.2)) (Int32.toNatClampNeg a1)) 6 (
    some ((v3.1 - (Int32.toInt64 ((M_step (T_market v3.2)) (Int32.toNatClampNeg ((B_bagStall (T_book v3.2)) (Int32.toNatClampNeg a1)))))), v3.2))))))

set_option maxHeartbeats 4000000 in
set_option maxRecDepth 100000 in
theorem c_X5_asScale {l : Launch} {D : va_G} {tys : List (ClassId × FieldType)} {X : XT} {cs : CS} (ad : Nat → Nat) {F : Nat} {s : ST} {a1 : Int32} {r : (Int64 × ST)} (htyM : tys = tyA cs) (hf : f_X5_asScale F s a1 = some r) : Cl l D tys X yX5_asScale wsX5_asScale rmX5_asScale [.ref (ad 0), .int a1] (wT cs ad s) r.1 (wT cs ad r.2) := by
  refine Cl_ofG (by decide +kernel) rfl (Nat.le_of_ble_eq_true rfl) (fun E _ _ hty0 hX0 hr => ?_)
  have hty := hty0.trans htyM
  have hr : Rl E kX5_asScale r.1 (wT cs ad r.2) := hr
  show G E kX5_asScale 0 0 0 [(0, .ref (ad 0)), (1, .int a1)] [] (wT cs ad s)
  unfold f_X5_asScale at hf
  refine g_aload_n 0 dX5_asScale_0 rfl rfl ?_
  refine g_dup dX5_asScale_1 rfl ?_
  refine g_get (ci := 5) (T := TX5) (N := 16) 0 15 (.long (T_traced s)) dX5_asScale_2 iX5_asScale_X5 rfl jX5_asScale_337 (by decide) wlaT_0 rfl ?_
  refine g_ldc2 (v := (100 : Int64)) dX5_asScale_5 qX5_asScale_262 ?_
  refine g_ladd dX5_asScale_8 ?_
  obtain ⟨z1, e_z1, hf⟩ := olt_some hf
  refine g_cast rfl rfl (congrArg (fun q => Value.long q :: [.ref (ad 0)]) e_z1) rfl ?_
  obtain ⟨s2, e_s2, hf⟩ := olt_some hf
  refine g_put (ci := 5) (T := TX5) (N := 16) (ty := .long) (w2 := (wT cs ad s2)) 0 15 (.long z1) tyX5 dX5_asScale_9 iX5_asScale_X5 tyX5_ok nmX5 rfl jX5_asScale_337 (by decide) rfl rfl rfl rfl wlaT_0 (Nat.le_of_ble_eq_true rfl) (wlpT_0_15.trans (congrArg (wT cs ad) e_s2)) ?_
  refine g_aload_n 0 dX5_asScale_12 rfl rfl ?_
  refine g_iload_n 1 dX5_asScale_13 rfl rfl ?_
  obtain ⟨v3, hc4, hf⟩ := obd_some hf
  refine g_callVl (ci := 5) (As := [.int a1]) (rest := []) (w2 := (wT cs ad v3.2)) 0 dX5_asScale_14 vX5_asScale_307 (c_X5_asWay ad hty hc4) rfl (mid0 _) rfl rfl 0 wlaT_0 rfl (Nat.le_of_ble_eq_true rfl) ⟨Nat.zero_le _, Nat.zero_le _⟩ (mid2 _ _) ?_
  refine g_aload_n 0 dX5_asScale_17 rfl rfl ?_
  refine g_get (ci := 5) (T := TX5) (N := 16) 0 3 (.ref (ad 11)) dX5_asScale_18 iX5_asScale_X5 rfl jX5_asScale_16 (by decide) wlaT_0 rfl ?_
  refine g_get (ci := 2) (T := TX2) (N := 12) 11 4 (.ref (ad 12)) dX5_asScale_21 iX5_asScale_X2 rfl jX5_asScale_99 (by decide) wlaT_11 rfl ?_
  refine g_aload_n 0 dX5_asScale_24 rfl rfl ?_
  refine g_get (ci := 5) (T := TX5) (N := 16) 0 6 (.ref (ad 20)) dX5_asScale_25 iX5_asScale_X5 rfl jX5_asScale_38 (by decide) wlaT_0 rfl ?_
  refine g_get (ci := 0) (T := TX0) (N := 15) 20 1 (.ref (ad 21)) dX5_asScale_28 iX5_asScale_X0 rfl jX5_asScale_140 (by decide) wlaT_20 rfl ?_
  refine g_iload_n 1 dX5_asScale_31 rfl rfl ?_
  obtain ⟨h5, hf⟩ := ochi_some hf
  refine g_iald 21 0 dX5_asScale_32 wlaT_21 (tI hty) h5 ?_
  obtain ⟨h6, hf⟩ := ochi_some hf
  refine g_iald 12 0 dX5_asScale_33 wlaT_12 (tI hty) h6 ?_
  refine g_i2l dX5_asScale_34 ?_
  refine g_lsub dX5_asScale_35 ?_
  obtain rfl := Option.some.inj hf
  exact hr _ _ dX5_asScale_36

-- ThumbScale asThumb (I)J
def rmX5_asThumb : Room := { frames := 1, cells := 0, slots := 0, locals := 21 }
def kX5_asThumb : MK := (cX5_asThumb, 2, RX5, wsX5_asThumb, (some .long), rmX5_asThumb)

set_option maxRecDepth 20000 in
theorem jX5_asThumb_337 : Cond.fieldLink RX5 337 (TX5 15).1 (TX5 15).2.1 (TX5 15).2.2.1 ∈ wsX5_asThumb := by decide +kernel
set_option maxRecDepth 20000 in
theorem iX5_asThumb_X5 : ∀ x ∈ u_ws RX5 TX5 16, x ∈ wsX5_asThumb := by decide +kernel
set_option maxRecDepth 20000 in
theorem qX5_asThumb_356 : Cond.constantLong RX5 356 (1000 : Int64) ∈ wsX5_asThumb := by decide +kernel
set_option maxRecDepth 20000 in
theorem qX5_asThumb_354 : Cond.constantLong RX5 354 (2 : Int64) ∈ wsX5_asThumb := by decide +kernel
set_option maxRecDepth 20000 in
theorem vX5_asThumb_307 : KV kX5_asThumb 307 RX5 yX5_asWay wsX5_asWay rmX5_asWay 1 := ⟨_, _, _, _, gX5_asThumb_X5_asWay, rfl, rfl, rfl, by decide +kernel, ⟨by decide, by decide⟩⟩
def f_X5_asThumb (F : Nat) (s : ST) (a1 : Int32) : Option (Int64 × ST) :=
    olt ((T_traced s) + (1000 : Int64)) (fun z1 =>
    olt (uT_traced s z1) (fun s2 =>
    obd (f_X5_asWay F s2 a1) (fun v3 =>
    some (((2 : Int64) * v3.1), v3.2))))

set_option maxHeartbeats 4000000 in
set_option maxRecDepth 100000 in
theorem c_X5_asThumb {l : Launch} {D : va_G} {tys : List (ClassId × FieldType)} {X : XT} {cs : CS} (ad : Nat → Nat) {F : Nat} {s : ST} {a1 : Int32} {r : (Int64 × ST)} (htyM : tys = tyA cs) (hf : f_X5_asThumb F s a1 = some r) : Cl l D tys X yX5_asThumb wsX5_asThumb rmX5_asThumb [.ref (ad 0), .int a1] (wT cs ad s) r.1 (wT cs ad r.2) := by
  refine Cl_ofG (by decide +kernel) rfl (Nat.le_of_ble_eq_true rfl) (fun E _ _ hty0 hX0 hr => ?_)
  have hty := hty0.trans htyM
  have hr : Rl E kX5_asThumb r.1 (wT cs ad r.2) := hr
  show G E kX5_asThumb 0 0 0 [(0, .ref (ad 0)), (1, .int a1)] [] (wT cs ad s)
  unfold f_X5_asThumb at hf
  refine g_aload_n 0 dX5_asThumb_0 rfl rfl ?_
  refine g_dup dX5_asThumb_1 rfl ?_
  refine g_get (ci := 5) (T := TX5) (N := 16) 0 15 (.long (T_traced s)) dX5_asThumb_2 iX5_asThumb_X5 rfl jX5_asThumb_337 (by decide) wlaT_0 rfl ?_
  refine g_ldc2 (v := (1000 : Int64)) dX5_asThumb_5 qX5_asThumb_356 ?_
  refine g_ladd dX5_asThumb_8 ?_
  obtain ⟨z1, e_z1, hf⟩ := olt_some hf
  refine g_cast rfl rfl (congrArg (fun q => Value.long q :: [.ref (ad 0)]) e_z1) rfl ?_
  obtain ⟨s2, e_s2, hf⟩ := olt_some hf
  refine g_put (ci := 5) (T := TX5) (N := 16) (ty := .long) (w2 := (wT cs ad s2)) 0 15 (.long z1) tyX5 dX5_asThumb_9 iX5_asThumb_X5 tyX5_ok nmX5 rfl jX5_asThumb_337 (by decide) rfl rfl rfl rfl wlaT_0 (Nat.le_of_ble_eq_true rfl) (wlpT_0_15.trans (congrArg (wT cs ad) e_s2)) ?_
  refine g_ldc2 (v := (2 : Int64)) dX5_asThumb_12 qX5_asThumb_354 ?_
  refine g_aload_n 0 dX5_asThumb_15 rfl rfl ?_
  refine g_iload_n 1 dX5_asThumb_16 rfl rfl ?_
  obtain ⟨v3, hc4, hf⟩ := obd_some hf
  refine g_callVl (ci := 5) (As := [.int a1]) (rest := [.long (2 : Int64)]) (w2 := (wT cs ad v3.2)) 0 dX5_asThumb_17 vX5_asThumb_307 (c_X5_asWay ad hty hc4) rfl (mid0 _) rfl rfl 0 wlaT_0 rfl (Nat.le_of_ble_eq_true rfl) ⟨Nat.zero_le _, Nat.zero_le _⟩ (mid2 _ _) ?_
  refine g_lmul dX5_asThumb_20 ?_
  obtain rfl := Option.some.inj hf
  exact hr _ _ dX5_asThumb_21

-- ThumbScale asChoose (I)J
def rmX5_asChoose : Room := { frames := 2, cells := 0, slots := 0, locals := 42 }
def kX5_asChoose : MK := (cX5_asChoose, 2, RX5, wsX5_asChoose, (some .long), rmX5_asChoose)

set_option maxRecDepth 20000 in
theorem jX5_asChoose_337 : Cond.fieldLink RX5 337 (TX5 15).1 (TX5 15).2.1 (TX5 15).2.2.1 ∈ wsX5_asChoose := by decide +kernel
set_option maxRecDepth 20000 in
theorem iX5_asChoose_X5 : ∀ x ∈ u_ws RX5 TX5 16, x ∈ wsX5_asChoose := by decide +kernel
set_option maxRecDepth 20000 in
theorem qX5_asChoose_358 : Cond.constantLong RX5 358 (10000 : Int64) ∈ wsX5_asChoose := by decide +kernel
set_option maxRecDepth 20000 in
theorem vX5_asChoose_316 : KV kX5_asChoose 316 RX5 yX5_asThumb wsX5_asThumb rmX5_asThumb 1 := ⟨_, _, _, _, gX5_asChoose_X5_asThumb, rfl, rfl, rfl, by decide +kernel, ⟨by decide, by decide⟩⟩
set_option maxRecDepth 20000 in
theorem jX5_asChoose_38 : Cond.fieldLink RX5 38 (TX5 6).1 (TX5 6).2.1 (TX5 6).2.2.1 ∈ wsX5_asChoose := by decide +kernel
set_option maxRecDepth 20000 in
theorem jX5_asChoose_146 : Cond.fieldLink RX5 146 (TX0 3).1 (TX0 3).2.1 (TX0 3).2.2.1 ∈ wsX5_asChoose := by decide +kernel
set_option maxRecDepth 20000 in
theorem iX5_asChoose_X0 : ∀ x ∈ u_ws RX0 TX0 15, x ∈ wsX5_asChoose := by decide +kernel
def f_X5_asChoose (F : Nat) (s : ST) (a1 : Int32) : Option (Int64 × ST) :=
    olt ((T_traced s) + (10000 : Int64)) (fun z1 =>
    olt (uT_traced s z1) (fun s2 =>
    obd (f_X5_asThumb F s2 a1) (fun v3 =>
    ochi a1 30 (
    some ((v3.1 + (Int32.toInt64 ((B_bagSort (T_book v3.2)) (Int32.toNatClampNeg a1)))), v3.2)))))

set_option maxHeartbeats 4000000 in
set_option maxRecDepth 100000 in
theorem c_X5_asChoose {l : Launch} {D : va_G} {tys : List (ClassId × FieldType)} {X : XT} {cs : CS} (ad : Nat → Nat) {F : Nat} {s : ST} {a1 : Int32} {r : (Int64 × ST)} (htyM : tys = tyA cs) (hf : f_X5_asChoose F s a1 = some r) : Cl l D tys X yX5_asChoose wsX5_asChoose rmX5_asChoose [.ref (ad 0), .int a1] (wT cs ad s) r.1 (wT cs ad r.2) := by
  refine Cl_ofG (by decide +kernel) rfl (Nat.le_of_ble_eq_true rfl) (fun E _ _ hty0 hX0 hr => ?_)
  have hty := hty0.trans htyM
  have hr : Rl E kX5_asChoose r.1 (wT cs ad r.2) := hr
  show G E kX5_asChoose 0 0 0 [(0, .ref (ad 0)), (1, .int a1)] [] (wT cs ad s)
  unfold f_X5_asChoose at hf
  refine g_aload_n 0 dX5_asChoose_0 rfl rfl ?_
  refine g_dup dX5_asChoose_1 rfl ?_
  refine g_get (ci := 5) (T := TX5) (N := 16) 0 15 (.long (T_traced s)) dX5_asChoose_2 iX5_asChoose_X5 rfl jX5_asChoose_337 (by decide) wlaT_0 rfl ?_
  refine g_ldc2 (v := (10000 : Int64)) dX5_asChoose_5 qX5_asChoose_358 ?_
  refine g_ladd dX5_asChoose_8 ?_
  obtain ⟨z1, e_z1, hf⟩ := olt_some hf
  refine g_cast rfl rfl (congrArg (fun q => Value.long q :: [.ref (ad 0)]) e_z1) rfl ?_
  obtain ⟨s2, e_s2, hf⟩ := olt_some hf
  refine g_put (ci := 5) (T := TX5) (N := 16) (ty := .long) (w2 := (wT cs ad s2)) 0 15 (.long z1) tyX5 dX5_asChoose_9 iX5_asChoose_X5 tyX5_ok nmX5 rfl jX5_asChoose_337 (by decide) rfl rfl rfl rfl wlaT_0 (Nat.le_of_ble_eq_true rfl) (wlpT_0_15.trans (congrArg (wT cs ad) e_s2)) ?_
  refine g_aload_n 0 dX5_asChoose_12 rfl rfl ?_
  refine g_iload_n 1 dX5_asChoose_13 rfl rfl ?_
  obtain ⟨v3, hc4, hf⟩ := obd_some hf
  refine g_callVl (ci := 5) (As := [.int a1]) (rest := []) (w2 := (wT cs ad v3.2)) 0 dX5_asChoose_14 vX5_asChoose_316 (c_X5_asThumb ad hty hc4) rfl (mid0 _) rfl rfl 0 wlaT_0 rfl (Nat.le_of_ble_eq_true rfl) ⟨Nat.zero_le _, Nat.zero_le _⟩ (mid2 _ _) ?_
  refine g_aload_n 0 dX5_asChoose_17 rfl rfl ?_
  refine g_get (ci := 5) (T := TX5) (N := 16) 0 6 (.ref (ad 20)) dX5_asChoose_18 iX5_asChoose_X5 rfl jX5_asChoose_38 (by decide) wlaT_0 rfl ?_
  refine g_get (ci := 0) (T := TX0) (N := 15) 20 3 (.ref (ad 23)) dX5_asChoose_21 iX5_asChoose_X0 rfl jX5_asChoose_146 (by decide) wlaT_20 rfl ?_
  refine g_iload_n 1 dX5_asChoose_24 rfl rfl ?_
  obtain ⟨h5, hf⟩ := ochi_some hf
  refine g_iald 23 0 dX5_asChoose_25 wlaT_23 (tI hty) h5 ?_
  refine g_i2l dX5_asChoose_26 ?_
  refine g_ladd dX5_asChoose_27 ?_
  obtain rfl := Option.some.inj hf
  exact hr _ _ dX5_asChoose_28

-- ThumbScale asRound (I)J
def rmX5_asRound : Room := { frames := 1, cells := 0, slots := 0, locals := 21 }
def kX5_asRound : MK := (cX5_asRound, 2, RX5, wsX5_asRound, (some .long), rmX5_asRound)

set_option maxRecDepth 20000 in
theorem jX5_asRound_337 : Cond.fieldLink RX5 337 (TX5 15).1 (TX5 15).2.1 (TX5 15).2.2.1 ∈ wsX5_asRound := by decide +kernel
set_option maxRecDepth 20000 in
theorem iX5_asRound_X5 : ∀ x ∈ u_ws RX5 TX5 16, x ∈ wsX5_asRound := by decide +kernel
set_option maxRecDepth 20000 in
theorem qX5_asRound_360 : Cond.constantLong RX5 360 (100000 : Int64) ∈ wsX5_asRound := by decide +kernel
set_option maxRecDepth 20000 in
theorem vX5_asRound_307 : KV kX5_asRound 307 RX5 yX5_asWay wsX5_asWay rmX5_asWay 1 := ⟨_, _, _, _, gX5_asRound_X5_asWay, rfl, rfl, rfl, by decide +kernel, ⟨by decide, by decide⟩⟩
set_option maxRecDepth 20000 in
theorem jX5_asRound_38 : Cond.fieldLink RX5 38 (TX5 6).1 (TX5 6).2.1 (TX5 6).2.2.1 ∈ wsX5_asRound := by decide +kernel
set_option maxRecDepth 20000 in
theorem jX5_asRound_155 : Cond.fieldLink RX5 155 (TX0 6).1 (TX0 6).2.1 (TX0 6).2.2.1 ∈ wsX5_asRound := by decide +kernel
set_option maxRecDepth 20000 in
theorem iX5_asRound_X0 : ∀ x ∈ u_ws RX0 TX0 15, x ∈ wsX5_asRound := by decide +kernel
def f_X5_asRound (F : Nat) (s : ST) (a1 : Int32) : Option (Int64 × ST) :=
    olt ((T_traced s) + (100000 : Int64)) (fun z1 =>
    olt (uT_traced s z1) (fun s2 =>
    obd (f_X5_asWay F s2 a1) (fun v3 =>
    ochi a1 30 (
    some ((v3.1 + (Int32.toInt64 ((B_bagSteps (T_book v3.2)) (Int32.toNatClampNeg a1)))), v3.2)))))

set_option maxHeartbeats 4000000 in
set_option maxRecDepth 100000 in
theorem c_X5_asRound {l : Launch} {D : va_G} {tys : List (ClassId × FieldType)} {X : XT} {cs : CS} (ad : Nat → Nat) {F : Nat} {s : ST} {a1 : Int32} {r : (Int64 × ST)} (htyM : tys = tyA cs) (hf : f_X5_asRound F s a1 = some r) : Cl l D tys X yX5_asRound wsX5_asRound rmX5_asRound [.ref (ad 0), .int a1] (wT cs ad s) r.1 (wT cs ad r.2) := by
  refine Cl_ofG (by decide +kernel) rfl (Nat.le_of_ble_eq_true rfl) (fun E _ _ hty0 hX0 hr => ?_)
  have hty := hty0.trans htyM
  have hr : Rl E kX5_asRound r.1 (wT cs ad r.2) := hr
  show G E kX5_asRound 0 0 0 [(0, .ref (ad 0)), (1, .int a1)] [] (wT cs ad s)
  unfold f_X5_asRound at hf
  refine g_aload_n 0 dX5_asRound_0 rfl rfl ?_
  refine g_dup dX5_asRound_1 rfl ?_
  refine g_get (ci := 5) (T := TX5) (N := 16) 0 15 (.long (T_traced s)) dX5_asRound_2 iX5_asRound_X5 rfl jX5_asRound_337 (by decide) wlaT_0 rfl ?_
  refine g_ldc2 (v := (100000 : Int64)) dX5_asRound_5 qX5_asRound_360 ?_
  refine g_ladd dX5_asRound_8 ?_
  obtain ⟨z1, e_z1, hf⟩ := olt_some hf
  refine g_cast rfl rfl (congrArg (fun q => Value.long q :: [.ref (ad 0)]) e_z1) rfl ?_
  obtain ⟨s2, e_s2, hf⟩ := olt_some hf
  refine g_put (ci := 5) (T := TX5) (N := 16) (ty := .long) (w2 := (wT cs ad s2)) 0 15 (.long z1) tyX5 dX5_asRound_9 iX5_asRound_X5 tyX5_ok nmX5 rfl jX5_asRound_337 (by decide) rfl rfl rfl rfl wlaT_0 (Nat.le_of_ble_eq_true rfl) (wlpT_0_15.trans (congrArg (wT cs ad) e_s2)) ?_
  refine g_aload_n 0 dX5_asRound_12 rfl rfl ?_
  refine g_iload_n 1 dX5_asRound_13 rfl rfl ?_
  obtain ⟨v3, hc4, hf⟩ := obd_some hf
  refine g_callVl (ci := 5) (As := [.int a1]) (rest := []) (w2 := (wT cs ad v3.2)) 0 dX5_asRound_14 vX5_asRound_307 (c_X5_asWay ad hty hc4) rfl (mid0 _) rfl rfl 0 wlaT_0 rfl (Nat.le_of_ble_eq_true rfl) ⟨Nat.zero_le _, Nat.zero_le _⟩ (mid2 _ _) ?_
  refine g_aload_n 0 dX5_asRound_17 rfl rfl ?_
  refine g_get (ci := 5) (T := TX5) (N := 16) 0 6 (.ref (ad 20)) dX5_asRound_18 iX5_asRound_X5 rfl jX5_asRound_38 (by decide) wlaT_0 rfl ?_
  refine g_get (ci := 0) (T := TX0) (N := 15) 20 6 (.ref (ad 26)) dX5_asRound_21 iX5_asRound_X0 rfl jX5_asRound_155 (by decide) wlaT_20 rfl ?_
  refine g_iload_n 1 dX5_asRound_24 rfl rfl ?_
  obtain ⟨h5, hf⟩ := ochi_some hf
  refine g_iald 26 0 dX5_asRound_25 wlaT_26 (tI hty) h5 ?_
  refine g_i2l dX5_asRound_26 ?_
  refine g_ladd dX5_asRound_27 ?_
  obtain rfl := Option.some.inj hf
  exact hr _ _ dX5_asRound_28

-- ThumbScale asTold (I)J
def rmX5_asTold : Room := { frames := 2, cells := 0, slots := 0, locals := 42 }
def kX5_asTold : MK := (cX5_asTold, 2, RX5, wsX5_asTold, (some .long), rmX5_asTold)

set_option maxRecDepth 20000 in
theorem jX5_asTold_337 : Cond.fieldLink RX5 337 (TX5 15).1 (TX5 15).2.1 (TX5 15).2.2.1 ∈ wsX5_asTold := by decide +kernel
set_option maxRecDepth 20000 in
theorem iX5_asTold_X5 : ∀ x ∈ u_ws RX5 TX5 16, x ∈ wsX5_asTold := by decide +kernel
set_option maxRecDepth 20000 in
theorem qX5_asTold_362 : Cond.constantLong RX5 362 (1000000 : Int64) ∈ wsX5_asTold := by decide +kernel
set_option maxRecDepth 20000 in
theorem vX5_asTold_322 : KV kX5_asTold 322 RX5 yX5_asRound wsX5_asRound rmX5_asRound 1 := ⟨_, _, _, _, gX5_asTold_X5_asRound, rfl, rfl, rfl, by decide +kernel, ⟨by decide, by decide⟩⟩
set_option maxRecDepth 20000 in
theorem jX5_asTold_38 : Cond.fieldLink RX5 38 (TX5 6).1 (TX5 6).2.1 (TX5 6).2.2.1 ∈ wsX5_asTold := by decide +kernel
set_option maxRecDepth 20000 in
theorem jX5_asTold_143 : Cond.fieldLink RX5 143 (TX0 2).1 (TX0 2).2.1 (TX0 2).2.2.1 ∈ wsX5_asTold := by decide +kernel
set_option maxRecDepth 20000 in
theorem iX5_asTold_X0 : ∀ x ∈ u_ws RX0 TX0 15, x ∈ wsX5_asTold := by decide +kernel
def f_X5_asTold (F : Nat) (s : ST) (a1 : Int32) : Option (Int64 × ST) :=
    olt ((T_traced s) + (1000000 : Int64)) (fun z1 =>
    olt (uT_traced s z1) (fun s2 =>
    obd (f_X5_asRound F s2 a1) (fun v3 =>
    ochi a1 30 (
    some ((v3.1 - (Int32.toInt64 ((B_bagHour (T_book v3.2)) (Int32.toNatClampNeg a1)))), v3.2)))))

set_option maxHeartbeats 4000000 in
set_option maxRecDepth 100000 in
theorem c_X5_asTold {l : Launch} {D : va_G} {tys : List (ClassId × FieldType)} {X : XT} {cs : CS} (ad : Nat → Nat) {F : Nat} {s : ST} {a1 : Int32} {r : (Int64 × ST)} (htyM : tys = tyA cs) (hf : f_X5_asTold F s a1 = some r) : Cl l D tys X yX5_asTold wsX5_asTold rmX5_asTold [.ref (ad 0), .int a1] (wT cs ad s) r.1 (wT cs ad r.2) := by
  refine Cl_ofG (by decide +kernel) rfl (Nat.le_of_ble_eq_true rfl) (fun E _ _ hty0 hX0 hr => ?_)
  have hty := hty0.trans htyM
  have hr : Rl E kX5_asTold r.1 (wT cs ad r.2) := hr
  show G E kX5_asTold 0 0 0 [(0, .ref (ad 0)), (1, .int a1)] [] (wT cs ad s)
  unfold f_X5_asTold at hf
  refine g_aload_n 0 dX5_asTold_0 rfl rfl ?_
  refine g_dup dX5_asTold_1 rfl ?_
  refine g_get (ci := 5) (T := TX5) (N := 16) 0 15 (.long (T_traced s)) dX5_asTold_2 iX5_asTold_X5 rfl jX5_asTold_337 (by decide) wlaT_0 rfl ?_
  refine g_ldc2 (v := (1000000 : Int64)) dX5_asTold_5 qX5_asTold_362 ?_
  refine g_ladd dX5_asTold_8 ?_
  obtain ⟨z1, e_z1, hf⟩ := olt_some hf
  refine g_cast rfl rfl (congrArg (fun q => Value.long q :: [.ref (ad 0)]) e_z1) rfl ?_
  obtain ⟨s2, e_s2, hf⟩ := olt_some hf
  refine g_put (ci := 5) (T := TX5) (N := 16) (ty := .long) (w2 := (wT cs ad s2)) 0 15 (.long z1) tyX5 dX5_asTold_9 iX5_asTold_X5 tyX5_ok nmX5 rfl jX5_asTold_337 (by decide) rfl rfl rfl rfl wlaT_0 (Nat.le_of_ble_eq_true rfl) (wlpT_0_15.trans (congrArg (wT cs ad) e_s2)) ?_
  refine g_aload_n 0 dX5_asTold_12 rfl rfl ?_
  refine g_iload_n 1 dX5_asTold_13 rfl rfl ?_
  obtain ⟨v3, hc4, hf⟩ := obd_some hf
  refine g_callVl (ci := 5) (As := [.int a1]) (rest := []) (w2 := (wT cs ad v3.2)) 0 dX5_asTold_14 vX5_asTold_322 (c_X5_asRound ad hty hc4) rfl (mid0 _) rfl rfl 0 wlaT_0 rfl (Nat.le_of_ble_eq_true rfl) ⟨Nat.zero_le _, Nat.zero_le _⟩ (mid2 _ _) ?_
  refine g_aload_n 0 dX5_asTold_17 rfl rfl ?_
  refine g_get (ci := 5) (T := TX5) (N := 16) 0 6 (.ref (ad 20)) dX5_asTold_18 iX5_asTold_X5 rfl jX5_asTold_38 (by decide) wlaT_0 rfl ?_
  refine g_get (ci := 0) (T := TX0) (N := 15) 20 2 (.ref (ad 22)) dX5_asTold_21 iX5_asTold_X0 rfl jX5_asTold_143 (by decide) wlaT_20 rfl ?_
  refine g_iload_n 1 dX5_asTold_24 rfl rfl ?_
  obtain ⟨h5, hf⟩ := ochi_some hf
  refine g_iald 22 0 dX5_asTold_25 wlaT_22 (tI hty) h5 ?_
  refine g_i2l dX5_asTold_26 ?_
  refine g_lsub dX5_asTold_27 ?_
  obtain rfl := Option.some.inj hf
  exact hr _ _ dX5_asTold_28
