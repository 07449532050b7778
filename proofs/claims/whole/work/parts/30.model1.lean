-- ThumbScaleModel byteAt (I)I
def rmX6_byteAt : Room := { frames := 0, cells := 0, slots := 0, locals := 0 }
def kX6_byteAt : MK := (cX6_byteAt, 2, RX6, wsX6_byteAt, (some .int), rmX6_byteAt)

set_option maxRecDepth 20000 in
theorem jX6_byteAt_76 : Cond.fieldLink RX6 76 (TX6 7).1 (TX6 7).2.1 (TX6 7).2.2.1 ∈ wsX6_byteAt := by decide +kernel
set_option maxRecDepth 20000 in
theorem iX6_byteAt_X6 : ∀ x ∈ u_ws RX6 TX6 29, x ∈ wsX6_byteAt := by decide +kernel
set_option maxRecDepth 20000 in
theorem jX6_byteAt_24 : Cond.fieldLink RX6 24 (TX6 6).1 (TX6 6).2.1 (TX6 6).2.2.1 ∈ wsX6_byteAt := by decide +kernel
def f_X6_byteAt (F : Nat) (s : SO) (a1 : Int32) : Option Int32 :=
    (if (O_typed s) ≤ a1 then
    some (-1 : Int32)
    else
    ochi a1 400 (
    some ((O_text s) (Int32.toNatClampNeg a1))))

set_option maxHeartbeats 4000000 in
set_option maxRecDepth 100000 in
theorem c_X6_byteAt {l : Launch} {D : va_G} {tys : List (ClassId × FieldType)} {X : XT} {cs : CS} (ad : Nat → Nat) {F : Nat} {s : SO} {a1 : Int32} {r : Int32} (htyM : tys = tyA cs) (hf : f_X6_byteAt F s a1 = some r) : Ci l D tys X yX6_byteAt wsX6_byteAt rmX6_byteAt [.ref (ad 0), .int a1] (wO cs ad s) r (wO cs ad s) := by
  refine Ci_ofG (by decide +kernel) rfl (Nat.le_of_ble_eq_true rfl) .int rfl (vp_nar_int _) (fun E _ _ hty0 hX0 hr => ?_)
  have hty := hty0.trans htyM
  have hr : Ri E kX6_byteAt r (wO cs ad s) := hr
  show G E kX6_byteAt 0 0 0 [(0, .ref (ad 0)), (1, .int a1)] [] (wO cs ad s)
  unfold f_X6_byteAt at hf
  refine g_iload_n 1 dX6_byteAt_0 rfl rfl ?_
  refine g_aload_n 0 dX6_byteAt_1 rfl rfl ?_
  refine g_get (ci := 6) (T := TX6) (N := 29) 0 7 (.int (O_typed s)) dX6_byteAt_2 iX6_byteAt_X6 rfl jX6_byteAt_76 (by decide) wlaO_0 rfl ?_
  refine g_icmp_ge (tgt := 17) dX6_byteAt_5 (by decide) (fun h1 => ?_) (fun h1 => ?_)
  · have hf := ift h1 hf
    refine g_iconst (v := (-1 : Int32)) dX6_byteAt_17 (by decide) ?_
    obtain rfl := Option.some.inj hf
    exact hr _ _ dX6_byteAt_18
  · have hf := iff_ h1 hf
    refine g_aload_n 0 dX6_byteAt_8 rfl rfl ?_
    refine g_get (ci := 6) (T := TX6) (N := 29) 0 6 (.ref (ad 5)) dX6_byteAt_9 iX6_byteAt_X6 rfl jX6_byteAt_24 (by decide) wlaO_0 rfl ?_
    refine g_iload_n 1 dX6_byteAt_12 rfl rfl ?_
    obtain ⟨h2, hf⟩ := ochi_some hf
    refine g_iald 5 0 dX6_byteAt_13 wlaO_5 (tI hty) h2 ?_
    refine g_goto (tgt := 18) dX6_byteAt_14 (by decide) ?_
    obtain rfl := Option.some.inj hf
    exact hr _ _ dX6_byteAt_18

-- ThumbScaleModel advances ()V
def rmX6_advances : Room := { frames := 3, cells := 0, slots := 0, locals := 72 }
def kX6_advances : MK := (cX6_advances, 4, RX6, wsX6_advances, none, rmX6_advances)

set_option maxRecDepth 20000 in
theorem jX6_advances_95 : Cond.fieldLink RX6 95 (TX6 8).1 (TX6 8).2.1 (TX6 8).2.2.1 ∈ wsX6_advances := by decide +kernel
set_option maxRecDepth 20000 in
theorem iX6_advances_X6 : ∀ x ∈ u_ws RX6 TX6 29, x ∈ wsX6_advances := by decide +kernel
set_option maxRecDepth 20000 in
theorem vX6_advances_98 : KV kX6_advances 98 RX6 yX6_byteAt wsX6_byteAt rmX6_byteAt 1 := ⟨_, _, _, _, gX6_advances_X6_byteAt, rfl, rfl, rfl, by decide +kernel, ⟨by decide, by decide⟩⟩
set_option maxRecDepth 20000 in
theorem jX6_advances_102 : Cond.fieldLink RX6 102 (TX6 10).1 (TX6 10).2.1 (TX6 10).2.2.1 ∈ wsX6_advances := by decide +kernel
set_option maxRecDepth 20000 in
theorem vX6_advances_61 : KS kX6_advances 61 yX6_in wsX6_in rmX6_in 3 := ⟨_, _, _, _, gX6_advances_X6_in, rfl, rfl, rfl, by decide +kernel, ⟨by decide, by decide⟩⟩
set_option maxRecDepth 20000 in
theorem jX6_advances_105 : Cond.fieldLink RX6 105 (TX6 9).1 (TX6 9).2.1 (TX6 9).2.2.1 ∈ wsX6_advances := by decide +kernel
set_option maxRecDepth 20000 in
theorem jX6_advances_112 : Cond.fieldLink RX6 112 (TX6 11).1 (TX6 11).2.1 (TX6 11).2.2.1 ∈ wsX6_advances := by decide +kernel
set_option maxRecDepth 20000 in
theorem vX6_advances_108 : KS kX6_advances 108 yX6_wordOf wsX6_wordOf rmX6_wordOf 2 := ⟨_, _, _, _, gX6_advances_X6_wordOf, rfl, rfl, rfl, by decide +kernel, ⟨by decide, by decide⟩⟩
set_option maxRecDepth 20000 in
theorem vX6_advances_83 : KS kX6_advances 83 yX6_add wsX6_add rmX6_add 2 := ⟨_, _, _, _, gX6_advances_X6_add, rfl, rfl, rfl, by decide +kernel, ⟨by decide, by decide⟩⟩
def f_X6_advances_L184 (F : Nat) (x24 : Int32) : Nat → SO → Option SO
  | 0, _ => none
  | n + 1, s23 =>
    obd (f_X6_byteAt F s23 (O_next s23)) (fun v25 =>
    obd (f_X6_in F v25 (48 : Int32) (57 : Int32)) (fun v27 =>
    (if v27 = 0 then
    obd ((if (99 : Int32) < (O_value s23) then
    some (4 : Int32)
    else
    (if x24 = (48 : Int32) then
    (if ((O_next s23) - (O_place s23)) ≤ (1 : Int32) then
    some (2 : Int32)
    else
    some (4 : Int32))
    else
    some (2 : Int32)))) (fun v33 =>
    olt (uO_token s23 v33) (fun s37 =>
    some s37))
    else
    obd ((if (O_value s23) ≤ (99 : Int32) then
    obd (f_X6_byteAt F s23 (O_next s23)) (fun v43 =>
    some ((((10 : Int32) * (O_value s23)) + v43) - (48 : Int32)))
    else
    some (O_value s23))) (fun v41 =>
    olt (uO_value s23 v41) (fun s45 =>
    olt ((O_next s45) + (1 : Int32)) (fun z46 =>
    olt (uO_next s45 z46) (fun s47 =>
    f_X6_advances_L184 F x24 n s47)))))))

def f_X6_advances_L68 (F : Nat) : Nat → Int64 → SO → Option SO
  | 0, _, _ => none
  | n + 1, x48, s49 =>
    obd (f_X6_byteAt F s49 (O_next s49)) (fun v50 =>
    obd (f_X6_in F v50 (97 : Int32) (122 : Int32)) (fun v52 =>
    (if v52 = 0 then
    obd (f_X6_wordOf F x48 ((O_next s49) - (O_place s49))) (fun v55 =>
    olt (uO_value s49 v55) (fun s57 =>
    obd ((if (O_value s57) = (-9 : Int32) then
    some (4 : Int32)
    else
    some (1 : Int32))) (fun v59 =>
    olt (uO_token s57 v59) (fun s61 =>
    some s61))))
    else
    obd ((if (8 : Int32) ≤ ((O_next s49) - (O_place s49)) then
    some x48
    else
    obd (f_X6_byteAt F s49 (O_next s49)) (fun v69 =>
    obd (f_X6_add F x48 v69) (fun v71 =>
    some v71)))) (fun v67 =>
    olt ((O_next s49) + (1 : Int32)) (fun z73 =>
    olt (uO_next s49 z73) (fun s74 =>
    f_X6_advances_L68 F n v67 s74))))))

def f_X6_advances_L0 (F : Nat) : Nat → SO → Option SO
  | 0, _ => none
  | n + 1, s1 =>
    obd (f_X6_byteAt F s1 (O_next s1)) (fun v2 =>
    (if v2 = (32 : Int32) then
    olt ((O_next s1) + (1 : Int32)) (fun z76 =>
    olt (uO_next s1 z76) (fun s77 =>
    f_X6_advances_L0 F n s77))
    else
    olt (O_next s1) (fun z5 =>
    olt (uO_place s1 z5) (fun s6 =>
    obd (f_X6_byteAt F s6 (O_next s6)) (fun v7 =>
    (if 0 ≤ v7 then
    obd (f_X6_in F v7 (97 : Int32) (122 : Int32)) (fun v10 =>
    (if v10 = 0 then
    obd (f_X6_in F v7 (48 : Int32) (57 : Int32)) (fun v13 =>
    (if v13 = 0 then
    olt ((O_next s6) + (1 : Int32)) (fun z16 =>
    olt (uO_next s6 z16) (fun s17 =>
    obd ((if v7 = (59 : Int32) then
    some (3 : Int32)
    else
    some (4 : Int32))) (fun v19 =>
    olt (uO_token s17 v19) (fun s21 =>
    some s21))))
    else
    olt (uO_value s6 (0 : Int32)) (fun s22 =>
    f_X6_advances_L184 F v7 F s22)))
    else
    f_X6_advances_L68 F F (0 : Int64) s6))
    else
    olt (uO_token s6 (0 : Int32)) (fun s75 =>
    some s75)))))))

def f_X6_advances (F : Nat) (s : SO) : Option SO :=
    f_X6_advances_L0 F F s

set_option maxHeartbeats 4000000 in
set_option maxRecDepth 100000 in
theorem w_X6_advances_L184 {E : GE} {cs : CS} {ad : Nat → Nat} {F : Nat} {x24 : Int32} {r : SO} (hty : eT E = tyA cs) (hr : Rv E kX6_advances (wO cs ad r)) : ∀ (n : Nat) (s23 : SO), f_X6_advances_L184 F x24 n s23 = some r → G E kX6_advances 0 0 184 [(0, .ref (ad 0)), (1, .int x24)] [] (wO cs ad s23) := by
  intro n
  induction n with
  | zero =>
    intro s23 hf
    cases (show (none : Option SO) = some r from hf)
  | succ n ih =>
    intro s23 hf
    rw [f_X6_advances_L184] at hf
    refine g_aload_n 0 dX6_advances_184 rfl rfl ?_
    refine g_aload_n 0 dX6_advances_185 rfl rfl ?_
    refine g_get (ci := 6) (T := TX6) (N := 29) 0 8 (.int (O_next s23)) dX6_advances_186 iX6_advances_X6 rfl jX6_advances_95 (by decide) wlaO_0 rfl ?_
    obtain ⟨v25, hc26, hf⟩ := obd_some hf
    refine g_callVi (ci := 6) (As := [.int (O_next s23)]) (rest := []) (w2 := (wO cs ad s23)) 0 dX6_advances_189 vX6_advances_98 (c_X6_byteAt ad hty hc26) rfl (mid0 _) rfl rfl 0 wlaO_0 rfl (Nat.le_of_ble_eq_true rfl) ⟨Nat.zero_le _, Nat.zero_le _⟩ (mid2 _ _) ?_
    refine g_bipush (v := (48 : Int32)) dX6_advances_192 (by decide) ?_
    refine g_bipush (v := (57 : Int32)) dX6_advances_194 (by decide) ?_
    obtain ⟨v27, hc28, hf⟩ := obd_some hf
    refine g_callSi (As := [.int v25, .int (48 : Int32), .int (57 : Int32)]) (rest := []) (w2 := (wO cs ad s23)) 0 dX6_advances_196 vX6_advances_61 (c_X6_in hty hc28) rfl (midm _) rfl (Nat.le_of_ble_eq_true rfl) ⟨Nat.zero_le _, Nat.zero_le _⟩ (midn _) ?_
    refine g_if_eq (tgt := 254) dX6_advances_199 (by decide) (fun h29 => ?_) (fun h29 => ?_)
    · have hf := ift h29 hf
      refine g_aload_n 0 dX6_advances_254 rfl rfl ?_
      refine g_aload_n 0 dX6_advances_255 rfl rfl ?_
      refine g_get (ci := 6) (T := TX6) (N := 29) 0 11 (.int (O_value s23)) dX6_advances_256 iX6_advances_X6 rfl jX6_advances_112 (by decide) wlaO_0 rfl ?_
      refine g_bipush (v := (99 : Int32)) dX6_advances_259 (by decide) ?_
      obtain ⟨v33, hE_v33, hf⟩ := obd_some hf
      have J_v33 : G E kX6_advances 0 0 288 [(0, .ref (ad 0))] [.int v33, .ref (ad 0)] (wO cs ad s23) := by
        obtain ⟨s37, e_s37, hf⟩ := olt_some hf
        refine g_put (ci := 6) (T := TX6) (N := 29) (ty := .int) (w2 := (wO cs ad s37)) 0 9 (.int v33) tyX6 dX6_advances_288 iX6_advances_X6 tyX6_ok nmX6 rfl jX6_advances_105 (by decide) rfl rfl rfl rfl wlaO_0 (Nat.le_of_ble_eq_true rfl) (wlpO_0_9.trans (congrArg (wO cs ad) e_s37)) ?_
        refine g_goto (tgt := 319) dX6_advances_291 (by decide) ?_
        obtain rfl := Option.some.inj hf
        exact hr _ _ dX6_advances_319
      have hf := hE_v33
      refine g_icmp_gt (tgt := 283) dX6_advances_261 (by decide) (fun h34 => ?_) (fun h34 => ?_)
      · have hf := ift h34 hf
        refine g_iconst (v := (4 : Int32)) dX6_advances_283 (by decide) ?_
        refine g_goto (tgt := 288) dX6_advances_284 (by decide) ?_
        obtain rfl := Option.some.inj hf
        exact g_sub [0] rfl J_v33
      · have hf := iff_ h34 hf
        refine g_iload_n 1 dX6_advances_264 rfl rfl ?_
        refine g_bipush (v := (48 : Int32)) dX6_advances_265 (by decide) ?_
        refine g_icmp_ne (tgt := 287) dX6_advances_267 (by decide) (fun h35 => ?_) (fun h35 => ?_)
        · have hf := iff_ h35 hf
          refine g_iconst (v := (2 : Int32)) dX6_advances_287 (by decide) ?_
          obtain rfl := Option.some.inj hf
          exact g_sub [0] rfl J_v33
        · have hf := ift h35 hf
          refine g_aload_n 0 dX6_advances_270 rfl rfl ?_
          refine g_get (ci := 6) (T := TX6) (N := 29) 0 8 (.int (O_next s23)) dX6_advances_271 iX6_advances_X6 rfl jX6_advances_95 (by decide) wlaO_0 rfl ?_
          refine g_aload_n 0 dX6_advances_274 rfl rfl ?_
          refine g_get (ci := 6) (T := TX6) (N := 29) 0 10 (.int (O_place s23)) dX6_advances_275 iX6_advances_X6 rfl jX6_advances_102 (by decide) wlaO_0 rfl ?_
          refine g_isub dX6_advances_278 ?_
          refine g_iconst (v := (1 : Int32)) dX6_advances_279 (by decide) ?_
          refine g_icmp_le (tgt := 287) dX6_advances_280 (by decide) (fun h36 => ?_) (fun h36 => ?_)
          · have hf := ift h36 hf
            refine g_iconst (v := (2 : Int32)) dX6_advances_287 (by decide) ?_
            obtain rfl := Option.some.inj hf
            exact g_sub [0] rfl J_v33
          · have hf := iff_ h36 hf
            refine g_iconst (v := (4 : Int32)) dX6_advances_283 (by decide) ?_
            refine g_goto (tgt := 288) dX6_advances_284 (by decide) ?_
            obtain rfl := Option.some.inj hf
            exact g_sub [0] rfl J_v33
    · have hf := iff_ h29 hf
      refine g_aload_n 0 dX6_advances_202 rfl rfl ?_
      refine g_aload_n 0 dX6_advances_203 rfl rfl ?_
      refine g_get (ci := 6) (T := TX6) (N := 29) 0 11 (.int (O_value s23)) dX6_advances_204 iX6_advances_X6 rfl jX6_advances_112 (by decide) wlaO_0 rfl ?_
      refine g_bipush (v := (99 : Int32)) dX6_advances_207 (by decide) ?_
      obtain ⟨v41, hE_v41, hf⟩ := obd_some hf
      have J_v41 : G E kX6_advances 0 0 238 [(0, .ref (ad 0)), (1, .int x24)] [.int v41, .ref (ad 0)] (wO cs ad s23) := by
        obtain ⟨s45, e_s45, hf⟩ := olt_some hf
        refine g_put (ci := 6) (T := TX6) (N := 29) (ty := .int) (w2 := (wO cs ad s45)) 0 11 (.int v41) tyX6 dX6_advances_238 iX6_advances_X6 tyX6_ok nmX6 rfl jX6_advances_112 (by decide) rfl rfl rfl rfl wlaO_0 (Nat.le_of_ble_eq_true rfl) (wlpO_0_11.trans (congrArg (wO cs ad) e_s45)) ?_
        refine g_aload_n 0 dX6_advances_241 rfl rfl ?_
        refine g_dup dX6_advances_242 rfl ?_
        refine g_get (ci := 6) (T := TX6) (N := 29) 0 8 (.int (O_next s45)) dX6_advances_243 iX6_advances_X6 rfl jX6_advances_95 (by decide) wlaO_0 rfl ?_
        refine g_iconst (v := (1 : Int32)) dX6_advances_246 (by decide) ?_
        refine g_iadd dX6_advances_247 ?_
        obtain ⟨z46, e_z46, hf⟩ := olt_some hf
        refine g_cast rfl rfl (congrArg (fun q => Value.int q :: [.ref (ad 0)]) e_z46) rfl ?_
        obtain ⟨s47, e_s47, hf⟩ := olt_some hf
        refine g_put (ci := 6) (T := TX6) (N := 29) (ty := .int) (w2 := (wO cs ad s47)) 0 8 (.int z46) tyX6 dX6_advances_248 iX6_advances_X6 tyX6_ok nmX6 rfl jX6_advances_95 (by decide) rfl rfl rfl rfl wlaO_0 (Nat.le_of_ble_eq_true rfl) (wlpO_0_8.trans (congrArg (wO cs ad) e_s47)) ?_
        refine g_goto (tgt := 184) dX6_advances_251 (by decide) ?_
        exact g_sub [0, 1] rfl (ih s47 hf)
      have hf := hE_v41
      refine g_icmp_le (tgt := 219) dX6_advances_209 (by decide) (fun h42 => ?_) (fun h42 => ?_)
      · have hf := ift h42 hf
        refine g_bipush (v := (10 : Int32)) dX6_advances_219 (by decide) ?_
        refine g_aload_n 0 dX6_advances_221 rfl rfl ?_
        refine g_get (ci := 6) (T := TX6) (N := 29) 0 11 (.int (O_value s23)) dX6_advances_222 iX6_advances_X6 rfl jX6_advances_112 (by decide) wlaO_0 rfl ?_
        refine g_imul dX6_advances_225 ?_
        refine g_aload_n 0 dX6_advances_226 rfl rfl ?_
        refine g_aload_n 0 dX6_advances_227 rfl rfl ?_
        refine g_get (ci := 6) (T := TX6) (N := 29) 0 8 (.int (O_next s23)) dX6_advances_228 iX6_advances_X6 rfl jX6_advances_95 (by decide) wlaO_0 rfl ?_
        obtain ⟨v43, hc44, hf⟩ := obd_some hf
        refine g_callVi (ci := 6) (As := [.int (O_next s23)]) (rest := [.int ((10 : Int32) * (O_value s23)), .ref (ad 0)]) (w2 := (wO cs ad s23)) 0 dX6_advances_231 vX6_advances_98 (c_X6_byteAt ad hty hc44) rfl (mid0 _) rfl rfl 0 wlaO_0 rfl (Nat.le_of_ble_eq_true rfl) ⟨Nat.zero_le _, Nat.zero_le _⟩ (mid2 _ _) ?_
        refine g_iadd dX6_advances_234 ?_
        refine g_bipush (v := (48 : Int32)) dX6_advances_235 (by decide) ?_
        refine g_isub dX6_advances_237 ?_
        obtain rfl := Option.some.inj hf
        exact g_sub [0, 1] rfl J_v41
      · have hf := iff_ h42 hf
        refine g_aload_n 0 dX6_advances_212 rfl rfl ?_
        refine g_get (ci := 6) (T := TX6) (N := 29) 0 11 (.int (O_value s23)) dX6_advances_213 iX6_advances_X6 rfl jX6_advances_112 (by decide) wlaO_0 rfl ?_
        refine g_goto (tgt := 238) dX6_advances_216 (by decide) ?_
        obtain rfl := Option.some.inj hf
        exact g_sub [0, 1] rfl J_v41

set_option maxHeartbeats 4000000 in
set_option maxRecDepth 100000 in
theorem w_X6_advances_L68 {E : GE} {cs : CS} {ad : Nat → Nat} {F : Nat} {r : SO} (hty : eT E = tyA cs) (hr : Rv E kX6_advances (wO cs ad r)) : ∀ (n : Nat) (x48 : Int64) (s49 : SO), f_X6_advances_L68 F n x48 s49 = some r → G E kX6_advances 0 0 68 [(0, .ref (ad 0)), (2, .long x48)] [] (wO cs ad s49) := by
  intro n
  induction n with
  | zero =>
    intro x48 s49 hf
    cases (show (none : Option SO) = some r from hf)
  | succ n ih =>
    intro x48 s49 hf
    rw [f_X6_advances_L68] at hf
    refine g_aload_n 0 dX6_advances_68 rfl rfl ?_
    refine g_aload_n 0 dX6_advances_69 rfl rfl ?_
    refine g_get (ci := 6) (T := TX6) (N := 29) 0 8 (.int (O_next s49)) dX6_advances_70 iX6_advances_X6 rfl jX6_advances_95 (by decide) wlaO_0 rfl ?_
    obtain ⟨v50, hc51, hf⟩ := obd_some hf
    refine g_callVi (ci := 6) (As := [.int (O_next s49)]) (rest := []) (w2 := (wO cs ad s49)) 0 dX6_advances_73 vX6_advances_98 (c_X6_byteAt ad hty hc51) rfl (mid0 _) rfl rfl 0 wlaO_0 rfl (Nat.le_of_ble_eq_true rfl) ⟨Nat.zero_le _, Nat.zero_le _⟩ (mid2 _ _) ?_
    refine g_bipush (v := (97 : Int32)) dX6_advances_76 (by decide) ?_
    refine g_bipush (v := (122 : Int32)) dX6_advances_78 (by decide) ?_
    obtain ⟨v52, hc53, hf⟩ := obd_some hf
    refine g_callSi (As := [.int v50, .int (97 : Int32), .int (122 : Int32)]) (rest := []) (w2 := (wO cs ad s49)) 0 dX6_advances_80 vX6_advances_61 (c_X6_in hty hc53) rfl (midm _) rfl (Nat.le_of_ble_eq_true rfl) ⟨Nat.zero_le _, Nat.zero_le _⟩ (midn _) ?_
    refine g_if_eq (tgt := 130) dX6_advances_83 (by decide) (fun h54 => ?_) (fun h54 => ?_)
    · have hf := ift h54 hf
      refine g_aload_n 0 dX6_advances_130 rfl rfl ?_
      refine g_lload_n 1 dX6_advances_131 rfl rfl ?_
      refine g_aload_n 0 dX6_advances_132 rfl rfl ?_
      refine g_get (ci := 6) (T := TX6) (N := 29) 0 8 (.int (O_next s49)) dX6_advances_133 iX6_advances_X6 rfl jX6_advances_95 (by decide) wlaO_0 rfl ?_
      refine g_aload_n 0 dX6_advances_136 rfl rfl ?_
      refine g_get (ci := 6) (T := TX6) (N := 29) 0 10 (.int (O_place s49)) dX6_advances_137 iX6_advances_X6 rfl jX6_advances_102 (by decide) wlaO_0 rfl ?_
      refine g_isub dX6_advances_140 ?_
      obtain ⟨v55, hc56, hf⟩ := obd_some hf
      refine g_callSi (As := [.long x48, .int ((O_next s49) - (O_place s49))]) (rest := [.ref (ad 0)]) (w2 := (wO cs ad s49)) 0 dX6_advances_141 vX6_advances_108 (c_X6_wordOf hty hc56) rfl (midm _) rfl (Nat.le_of_ble_eq_true rfl) ⟨Nat.zero_le _, Nat.zero_le _⟩ (midn _) ?_
      obtain ⟨s57, e_s57, hf⟩ := olt_some hf
      refine g_put (ci := 6) (T := TX6) (N := 29) (ty := .int) (w2 := (wO cs ad s57)) 0 11 (.int v55) tyX6 dX6_advances_144 iX6_advances_X6 tyX6_ok nmX6 rfl jX6_advances_112 (by decide) rfl rfl rfl rfl wlaO_0 (Nat.le_of_ble_eq_true rfl) (wlpO_0_11.trans (congrArg (wO cs ad) e_s57)) ?_
      refine g_aload_n 0 dX6_advances_147 rfl rfl ?_
      refine g_aload_n 0 dX6_advances_148 rfl rfl ?_
      refine g_get (ci := 6) (T := TX6) (N := 29) 0 11 (.int (O_value s57)) dX6_advances_149 iX6_advances_X6 rfl jX6_advances_112 (by decide) wlaO_0 rfl ?_
      refine g_bipush (v := (-9 : Int32)) dX6_advances_152 (by decide) ?_
      obtain ⟨v59, hE_v59, hf⟩ := obd_some hf
      have J_v59 : G E kX6_advances 0 0 162 [(0, .ref (ad 0))] [.int v59, .ref (ad 0)] (wO cs ad s57) := by
        obtain ⟨s61, e_s61, hf⟩ := olt_some hf
        refine g_put (ci := 6) (T := TX6) (N := 29) (ty := .int) (w2 := (wO cs ad s61)) 0 9 (.int v59) tyX6 dX6_advances_162 iX6_advances_X6 tyX6_ok nmX6 rfl jX6_advances_105 (by decide) rfl rfl rfl rfl wlaO_0 (Nat.le_of_ble_eq_true rfl) (wlpO_0_9.trans (congrArg (wO cs ad) e_s61)) ?_
        refine g_goto (tgt := 319) dX6_advances_165 (by decide) ?_
        obtain rfl := Option.some.inj hf
        exact hr _ _ dX6_advances_319
      have hf := hE_v59
      refine g_icmp_ne (tgt := 161) dX6_advances_154 (by decide) (fun h60 => ?_) (fun h60 => ?_)
      · have hf := iff_ h60 hf
        refine g_iconst (v := (1 : Int32)) dX6_advances_161 (by decide) ?_
        obtain rfl := Option.some.inj hf
        exact g_sub [0] rfl J_v59
      · have hf := ift h60 hf
        refine g_iconst (v := (4 : Int32)) dX6_advances_157 (by decide) ?_
        refine g_goto (tgt := 162) dX6_advances_158 (by decide) ?_
        obtain rfl := Option.some.inj hf
        exact g_sub [0] rfl J_v59
    · have hf := iff_ h54 hf
      refine g_aload_n 0 dX6_advances_86 rfl rfl ?_
      refine g_get (ci := 6) (T := TX6) (N := 29) 0 8 (.int (O_next s49)) dX6_advances_87 iX6_advances_X6 rfl jX6_advances_95 (by decide) wlaO_0 rfl ?_
      refine g_aload_n 0 dX6_advances_90 rfl rfl ?_
      refine g_get (ci := 6) (T := TX6) (N := 29) 0 10 (.int (O_place s49)) dX6_advances_91 iX6_advances_X6 rfl jX6_advances_102 (by decide) wlaO_0 rfl ?_
      refine g_isub dX6_advances_94 ?_
      refine g_bipush (v := (8 : Int32)) dX6_advances_95 (by decide) ?_
      obtain ⟨v67, hE_v67, hf⟩ := obd_some hf
      have J_v67 : G E kX6_advances 0 0 116 [(0, .ref (ad 0))] [.long v67] (wO cs ad s49) := by
        refine g_lstore_n (lv2 := [(2, .long v67), (0, .ref (ad 0))]) dX6_advances_116 rfl (by decide) rfl ?_
        refine g_aload_n 1 dX6_advances_117 rfl rfl ?_
        refine g_dup dX6_advances_118 rfl ?_
        refine g_get (ci := 6) (T := TX6) (N := 29) 0 8 (.int (O_next s49)) dX6_advances_119 iX6_advances_X6 rfl jX6_advances_95 (by decide) wlaO_0 rfl ?_
        refine g_iconst (v := (1 : Int32)) dX6_advances_122 (by decide) ?_
        refine g_iadd dX6_advances_123 ?_
        obtain ⟨z73, e_z73, hf⟩ := olt_some hf
        refine g_cast rfl rfl (congrArg (fun q => Value.int q :: [.ref (ad 0)]) e_z73) rfl ?_
        obtain ⟨s74, e_s74, hf⟩ := olt_some hf
        refine g_put (ci := 6) (T := TX6) (N := 29) (ty := .int) (w2 := (wO cs ad s74)) 0 8 (.int z73) tyX6 dX6_advances_124 iX6_advances_X6 tyX6_ok nmX6 rfl jX6_advances_95 (by decide) rfl rfl rfl rfl wlaO_0 (Nat.le_of_ble_eq_true rfl) (wlpO_0_8.trans (congrArg (wO cs ad) e_s74)) ?_
        refine g_goto (tgt := 68) dX6_advances_127 (by decide) ?_
        exact g_sub [1, 0] rfl (ih v67 s74 hf)
      have hf := hE_v67
      refine g_icmp_ge (tgt := 115) dX6_advances_97 (by decide) (fun h68 => ?_) (fun h68 => ?_)
      · have hf := ift h68 hf
        refine g_lload_n 1 dX6_advances_115 rfl rfl ?_
        obtain rfl := Option.some.inj hf
        exact g_sub [0] rfl J_v67
      · have hf := iff_ h68 hf
        refine g_lload_n 1 dX6_advances_100 rfl rfl ?_
        refine g_aload_n 0 dX6_advances_101 rfl rfl ?_
        refine g_aload_n 0 dX6_advances_102 rfl rfl ?_
        refine g_get (ci := 6) (T := TX6) (N := 29) 0 8 (.int (O_next s49)) dX6_advances_103 iX6_advances_X6 rfl jX6_advances_95 (by decide) wlaO_0 rfl ?_
        obtain ⟨v69, hc70, hf⟩ := obd_some hf
        refine g_callVi (ci := 6) (As := [.int (O_next s49)]) (rest := [.long x48]) (w2 := (wO cs ad s49)) 0 dX6_advances_106 vX6_advances_98 (c_X6_byteAt ad hty hc70) rfl (mid0 _) rfl rfl 0 wlaO_0 rfl (Nat.le_of_ble_eq_true rfl) ⟨Nat.zero_le _, Nat.zero_le _⟩ (mid2 _ _) ?_
        obtain ⟨v71, hc72, hf⟩ := obd_some hf
        refine g_callSl (As := [.long x48, .int v69]) (rest := []) (w2 := (wO cs ad s49)) 0 dX6_advances_109 vX6_advances_83 (c_X6_add hty hc72) rfl (midm _) rfl (Nat.le_of_ble_eq_true rfl) ⟨Nat.zero_le _, Nat.zero_le _⟩ (midn _) ?_
        refine g_goto (tgt := 116) dX6_advances_112 (by decide) ?_
        obtain rfl := Option.some.inj hf
        exact g_sub [0] rfl J_v67

set_option maxHeartbeats 4000000 in
set_option maxRecDepth 100000 in
theorem w_X6_advances_L0 {E : GE} {cs : CS} {ad : Nat → Nat} {F : Nat} {r : SO} (hty : eT E = tyA cs) (hr : Rv E kX6_advances (wO cs ad r)) : ∀ (n : Nat) (s1 : SO), f_X6_advances_L0 F n s1 = some r → G E kX6_advances 0 0 0 [(0, .ref (ad 0))] [] (wO cs ad s1) := by
  intro n
  induction n with
  | zero =>
    intro s1 hf
    cases (show (none : Option SO) = some r from hf)
  | succ n ih =>
    intro s1 hf
    rw [f_X6_advances_L0] at hf
    refine g_aload_n 0 dX6_advances_0 rfl rfl ?_
    refine g_aload_n 0 dX6_advances_1 rfl rfl ?_
    refine g_get (ci := 6) (T := TX6) (N := 29) 0 8 (.int (O_next s1)) dX6_advances_2 iX6_advances_X6 rfl jX6_advances_95 (by decide) wlaO_0 rfl ?_
    obtain ⟨v2, hc3, hf⟩ := obd_some hf
    refine g_callVi (ci := 6) (As := [.int (O_next s1)]) (rest := []) (w2 := (wO cs ad s1)) 0 dX6_advances_5 vX6_advances_98 (c_X6_byteAt ad hty hc3) rfl (mid0 _) rfl rfl 0 wlaO_0 rfl (Nat.le_of_ble_eq_true rfl) ⟨Nat.zero_le _, Nat.zero_le _⟩ (mid2 _ _) ?_
    refine g_bipush (v := (32 : Int32)) dX6_advances_8 (by decide) ?_
    refine g_icmp_ne (tgt := 26) dX6_advances_10 (by decide) (fun h4 => ?_) (fun h4 => ?_)
    · have hf := iff_ h4 hf
      refine g_aload_n 0 dX6_advances_26 rfl rfl ?_
      refine g_aload_n 0 dX6_advances_27 rfl rfl ?_
      refine g_get (ci := 6) (T := TX6) (N := 29) 0 8 (.int (O_next s1)) dX6_advances_28 iX6_advances_X6 rfl jX6_advances_95 (by decide) wlaO_0 rfl ?_
      obtain ⟨z5, e_z5, hf⟩ := olt_some hf
      refine g_cast rfl rfl (congrArg (fun q => Value.int q :: [.ref (ad 0)]) e_z5) rfl ?_
      obtain ⟨s6, e_s6, hf⟩ := olt_some hf
      refine g_put (ci := 6) (T := TX6) (N := 29) (ty := .int) (w2 := (wO cs ad s6)) 0 10 (.int z5) tyX6 dX6_advances_31 iX6_advances_X6 tyX6_ok nmX6 rfl jX6_advances_102 (by decide) rfl rfl rfl rfl wlaO_0 (Nat.le_of_ble_eq_true rfl) (wlpO_0_10.trans (congrArg (wO cs ad) e_s6)) ?_
      refine g_aload_n 0 dX6_advances_34 rfl rfl ?_
      refine g_aload_n 0 dX6_advances_35 rfl rfl ?_
      refine g_get (ci := 6) (T := TX6) (N := 29) 0 8 (.int (O_next s6)) dX6_advances_36 iX6_advances_X6 rfl jX6_advances_95 (by decide) wlaO_0 rfl ?_
      obtain ⟨v7, hc8, hf⟩ := obd_some hf
      refine g_callVi (ci := 6) (As := [.int (O_next s6)]) (rest := []) (w2 := (wO cs ad s6)) 0 dX6_advances_39 vX6_advances_98 (c_X6_byteAt ad hty hc8) rfl (mid0 _) rfl rfl 0 wlaO_0 rfl (Nat.le_of_ble_eq_true rfl) ⟨Nat.zero_le _, Nat.zero_le _⟩ (mid2 _ _) ?_
      refine g_istore_n (lv2 := [(1, .int v7), (0, .ref (ad 0))]) dX6_advances_42 rfl (by decide) rfl ?_
      refine g_iload_n 0 dX6_advances_43 rfl rfl ?_
      refine g_if_ge (tgt := 55) dX6_advances_44 (by decide) (fun h9 => ?_) (fun h9 => ?_)
      · have hf := ift h9 hf
        refine g_iload_n 0 dX6_advances_55 rfl rfl ?_
        refine g_bipush (v := (97 : Int32)) dX6_advances_56 (by decide) ?_
        refine g_bipush (v := (122 : Int32)) dX6_advances_58 (by decide) ?_
        obtain ⟨v10, hc11, hf⟩ := obd_some hf
        refine g_callSi (As := [.int v7, .int (97 : Int32), .int (122 : Int32)]) (rest := []) (w2 := (wO cs ad s6)) 0 dX6_advances_60 vX6_advances_61 (c_X6_in hty hc11) rfl (midm _) rfl (Nat.le_of_ble_eq_true rfl) ⟨Nat.zero_le _, Nat.zero_le _⟩ (midn _) ?_
        refine g_if_eq (tgt := 168) dX6_advances_63 (by decide) (fun h12 => ?_) (fun h12 => ?_)
        · have hf := ift h12 hf
          refine g_iload_n 0 dX6_advances_168 rfl rfl ?_
          refine g_bipush (v := (48 : Int32)) dX6_advances_169 (by decide) ?_
          refine g_bipush (v := (57 : Int32)) dX6_advances_171 (by decide) ?_
          obtain ⟨v13, hc14, hf⟩ := obd_some hf
          refine g_callSi (As := [.int v7, .int (48 : Int32), .int (57 : Int32)]) (rest := []) (w2 := (wO cs ad s6)) 0 dX6_advances_173 vX6_advances_61 (c_X6_in hty hc14) rfl (midm _) rfl (Nat.le_of_ble_eq_true rfl) ⟨Nat.zero_le _, Nat.zero_le _⟩ (midn _) ?_
          refine g_if_eq (tgt := 294) dX6_advances_176 (by decide) (fun h15 => ?_) (fun h15 => ?_)
          · have hf := ift h15 hf
            refine g_aload_n 1 dX6_advances_294 rfl rfl ?_
            refine g_dup dX6_advances_295 rfl ?_
            refine g_get (ci := 6) (T := TX6) (N := 29) 0 8 (.int (O_next s6)) dX6_advances_296 iX6_advances_X6 rfl jX6_advances_95 (by decide) wlaO_0 rfl ?_
            refine g_iconst (v := (1 : Int32)) dX6_advances_299 (by decide) ?_
            refine g_iadd dX6_advances_300 ?_
            obtain ⟨z16, e_z16, hf⟩ := olt_some hf
            refine g_cast rfl rfl (congrArg (fun q => Value.int q :: [.ref (ad 0)]) e_z16) rfl ?_
            obtain ⟨s17, e_s17, hf⟩ := olt_some hf
            refine g_put (ci := 6) (T := TX6) (N := 29) (ty := .int) (w2 := (wO cs ad s17)) 0 8 (.int z16) tyX6 dX6_advances_301 iX6_advances_X6 tyX6_ok nmX6 rfl jX6_advances_95 (by decide) rfl rfl rfl rfl wlaO_0 (Nat.le_of_ble_eq_true rfl) (wlpO_0_8.trans (congrArg (wO cs ad) e_s17)) ?_
            refine g_aload_n 1 dX6_advances_304 rfl rfl ?_
            refine g_iload_n 0 dX6_advances_305 rfl rfl ?_
            refine g_bipush (v := (59 : Int32)) dX6_advances_306 (by decide) ?_
            obtain ⟨v19, hE_v19, hf⟩ := obd_some hf
            have J_v19 : G E kX6_advances 0 0 316 [(0, .ref (ad 0))] [.int v19, .ref (ad 0)] (wO cs ad s17) := by
              obtain ⟨s21, e_s21, hf⟩ := olt_some hf
              refine g_put (ci := 6) (T := TX6) (N := 29) (ty := .int) (w2 := (wO cs ad s21)) 0 9 (.int v19) tyX6 dX6_advances_316 iX6_advances_X6 tyX6_ok nmX6 rfl jX6_advances_105 (by decide) rfl rfl rfl rfl wlaO_0 (Nat.le_of_ble_eq_true rfl) (wlpO_0_9.trans (congrArg (wO cs ad) e_s21)) ?_
              obtain rfl := Option.some.inj hf
              exact hr _ _ dX6_advances_319
            have hf := hE_v19
            refine g_icmp_ne (tgt := 315) dX6_advances_308 (by decide) (fun h20 => ?_) (fun h20 => ?_)
            · have hf := iff_ h20 hf
              refine g_iconst (v := (4 : Int32)) dX6_advances_315 (by decide) ?_
              obtain rfl := Option.some.inj hf
              exact g_sub [1] rfl J_v19
            · have hf := ift h20 hf
              refine g_iconst (v := (3 : Int32)) dX6_advances_311 (by decide) ?_
              refine g_goto (tgt := 316) dX6_advances_312 (by decide) ?_
              obtain rfl := Option.some.inj hf
              exact g_sub [1] rfl J_v19
          · have hf := iff_ h15 hf
            refine g_aload_n 1 dX6_advances_179 rfl rfl ?_
            refine g_iconst (v := (0 : Int32)) dX6_advances_180 (by decide) ?_
            obtain ⟨s22, e_s22, hf⟩ := olt_some hf
            refine g_put (ci := 6) (T := TX6) (N := 29) (ty := .int) (w2 := (wO cs ad s22)) 0 11 (.int (0 : Int32)) tyX6 dX6_advances_181 iX6_advances_X6 tyX6_ok nmX6 rfl jX6_advances_112 (by decide) rfl rfl rfl rfl wlaO_0 (Nat.le_of_ble_eq_true rfl) (wlpO_0_11.trans (congrArg (wO cs ad) e_s22)) ?_
            exact g_sub [1, 0] rfl (w_X6_advances_L184 hty hr F s22 hf)
        · have hf := iff_ h12 hf
          refine g_lconst (v := (0 : Int64)) dX6_advances_66 (by decide) ?_
          refine g_lstore_n (lv2 := [(2, .long (0 : Int64)), (1, .int v7), (0, .ref (ad 0))]) dX6_advances_67 rfl (by decide) rfl ?_
          exact g_sub [2, 0] rfl (w_X6_advances_L68 hty hr F (0 : Int64) s6 hf)
      · have hf := iff_ h9 hf
        refine g_aload_n 1 dX6_advances_47 rfl rfl ?_
        refine g_iconst (v := (0 : Int32)) dX6_advances_48 (by decide) ?_
        obtain ⟨s75, e_s75, hf⟩ := olt_some hf
        refine g_put (ci := 6) (T := TX6) (N := 29) (ty := .int) (w2 := (wO cs ad s75)) 0 9 (.int (0 : Int32)) tyX6 dX6_advances_49 iX6_advances_X6 tyX6_ok nmX6 rfl jX6_advances_105 (by decide) rfl rfl rfl rfl wlaO_0 (Nat.le_of_ble_eq_true rfl) (wlpO_0_9.trans (congrArg (wO cs ad) e_s75)) ?_
        refine g_goto (tgt := 319) dX6_advances_52 (by decide) ?_
        obtain rfl := Option.some.inj hf
        exact hr _ _ dX6_advances_319
    · have hf := ift h4 hf
      refine g_aload_n 0 dX6_advances_13 rfl rfl ?_
      refine g_dup dX6_advances_14 rfl ?_
      refine g_get (ci := 6) (T := TX6) (N := 29) 0 8 (.int (O_next s1)) dX6_advances_15 iX6_advances_X6 rfl jX6_advances_95 (by decide) wlaO_0 rfl ?_
      refine g_iconst (v := (1 : Int32)) dX6_advances_18 (by decide) ?_
      refine g_iadd dX6_advances_19 ?_
      obtain ⟨z76, e_z76, hf⟩ := olt_some hf
      refine g_cast rfl rfl (congrArg (fun q => Value.int q :: [.ref (ad 0)]) e_z76) rfl ?_
      obtain ⟨s77, e_s77, hf⟩ := olt_some hf
      refine g_put (ci := 6) (T := TX6) (N := 29) (ty := .int) (w2 := (wO cs ad s77)) 0 8 (.int z76) tyX6 dX6_advances_20 iX6_advances_X6 tyX6_ok nmX6 rfl jX6_advances_95 (by decide) rfl rfl rfl rfl wlaO_0 (Nat.le_of_ble_eq_true rfl) (wlpO_0_8.trans (congrArg (wO cs ad) e_s77)) ?_
      refine g_goto (tgt := 0) dX6_advances_23 (by decide) ?_
      exact g_sub [0] rfl (ih s77 hf)

set_option maxHeartbeats 4000000 in
set_option maxRecDepth 100000 in
theorem c_X6_advances {l : Launch} {D : va_G} {tys : List (ClassId × FieldType)} {X : XT} {cs : CS} (ad : Nat → Nat) {F : Nat} {s : SO} {r : SO} (htyM : tys = tyA cs) (hf : f_X6_advances F s = some r) : Cv l D tys X yX6_advances wsX6_advances rmX6_advances [.ref (ad 0)] (wO cs ad s) (wO cs ad r) := by
  refine Cv_ofG (by decide +kernel) rfl (Nat.le_of_ble_eq_true rfl) (fun E _ _ hty0 hX0 hr => ?_)
  have hty := hty0.trans htyM
  have hr : Rv E kX6_advances (wO cs ad r) := hr
  show G E kX6_advances 0 0 0 [(0, .ref (ad 0))] [] (wO cs ad s)
  unfold f_X6_advances at hf
  exact g_sub [0] rfl (w_X6_advances_L0 hty hr F s hf)

-- ThumbScaleModel isWell ()Z
def rmX6_isWell : Room := { frames := 0, cells := 0, slots := 0, locals := 0 }
def kX6_isWell : MK := (cX6_isWell, 1, RX6, wsX6_isWell, (some .boolean), rmX6_isWell)

set_option maxRecDepth 20000 in
theorem jX6_isWell_115 : Cond.fieldLink RX6 115 (TX6 12).1 (TX6 12).2.1 (TX6 12).2.2.1 ∈ wsX6_isWell := by decide +kernel
set_option maxRecDepth 20000 in
theorem iX6_isWell_X6 : ∀ x ∈ u_ws RX6 TX6 29, x ∈ wsX6_isWell := by decide +kernel
def f_X6_isWell (F : Nat) (s : SO) : Option Int32 :=
    (if 0 ≤ (O_fault s) then
    some (0 : Int32)
    else
    some (1 : Int32))

set_option maxHeartbeats 4000000 in
set_option maxRecDepth 100000 in
theorem c_X6_isWell {l : Launch} {D : va_G} {tys : List (ClassId × FieldType)} {X : XT} {cs : CS} (ad : Nat → Nat) {F : Nat} {s : SO} {r : Int32} (htyM : tys = tyA cs) (hf : f_X6_isWell F s = some r) : Ci l D tys X yX6_isWell wsX6_isWell rmX6_isWell [.ref (ad 0)] (wO cs ad s) r (wO cs ad s) := by
  refine Cz_ofG (by decide +kernel) rfl (Nat.le_of_ble_eq_true rfl) (fun E _ _ hty0 hX0 hr => ?_)
  have hty := hty0.trans htyM
  have hr : Rz E kX6_isWell r (wO cs ad s) := hr
  show G E kX6_isWell 0 0 0 [(0, .ref (ad 0))] [] (wO cs ad s)
  unfold f_X6_isWell at hf
  refine g_aload_n 0 dX6_isWell_0 rfl rfl ?_
  refine g_get (ci := 6) (T := TX6) (N := 29) 0 12 (.int (O_fault s)) dX6_isWell_1 iX6_isWell_X6 rfl jX6_isWell_115 (by decide) wlaO_0 rfl ?_
  refine g_if_ge (tgt := 11) dX6_isWell_4 (by decide) (fun h1 => ?_) (fun h1 => ?_)
  · have hf := ift h1 hf
    refine g_iconst (v := (0 : Int32)) dX6_isWell_11 (by decide) ?_
    obtain rfl := Option.some.inj hf
    exact hr _ _ dX6_isWell_12 (Or.inl rfl)
  · have hf := iff_ h1 hf
    refine g_iconst (v := (1 : Int32)) dX6_isWell_7 (by decide) ?_
    refine g_goto (tgt := 12) dX6_isWell_8 (by decide) ?_
    obtain rfl := Option.some.inj hf
    exact hr _ _ dX6_isWell_12 (Or.inr rfl)

-- ThumbScaleModel takes (Z)I
def rmX6_takes : Room := { frames := 4, cells := 0, slots := 0, locals := 95 }
def kX6_takes : MK := (cX6_takes, 3, RX6, wsX6_takes, (some .int), rmX6_takes)

set_option maxRecDepth 20000 in
theorem vX6_takes_118 : KV kX6_takes 118 RX6 yX6_isWell wsX6_isWell rmX6_isWell 0 := ⟨_, _, _, _, gX6_takes_X6_isWell, rfl, rfl, rfl, by decide +kernel, ⟨by decide, by decide⟩⟩
set_option maxRecDepth 20000 in
theorem jX6_takes_112 : Cond.fieldLink RX6 112 (TX6 11).1 (TX6 11).2.1 (TX6 11).2.2.1 ∈ wsX6_takes := by decide +kernel
set_option maxRecDepth 20000 in
theorem iX6_takes_X6 : ∀ x ∈ u_ws RX6 TX6 29, x ∈ wsX6_takes := by decide +kernel
set_option maxRecDepth 20000 in
theorem vX6_takes_122 : KV kX6_takes 122 RX6 yX6_advances wsX6_advances rmX6_advances 0 := ⟨_, _, _, _, gX6_takes_X6_advances, rfl, rfl, rfl, by decide +kernel, ⟨by decide, by decide⟩⟩
set_option maxRecDepth 20000 in
theorem jX6_takes_102 : Cond.fieldLink RX6 102 (TX6 10).1 (TX6 10).2.1 (TX6 10).2.2.1 ∈ wsX6_takes := by decide +kernel
set_option maxRecDepth 20000 in
theorem jX6_takes_115 : Cond.fieldLink RX6 115 (TX6 12).1 (TX6 12).2.1 (TX6 12).2.2.1 ∈ wsX6_takes := by decide +kernel
def f_X6_takes (F : Nat) (s : SO) (a1 : Int32) : Option (Int32 × SO) :=
    obd (f_X6_isWell F s) (fun v1 =>
    (if v1 = 0 then
    some ((0 : Int32), s)
    else
    (if a1 = 0 then
    olt (O_place s) (fun z7 =>
    olt (uO_fault s z7) (fun s8 =>
    some ((0 : Int32), s8)))
    else
    obd (f_X6_advances F s) (fun v5 =>
    some ((O_value s), v5)))))

set_option maxHeartbeats 4000000 in
set_option maxRecDepth 100000 in
theorem c_X6_takes {l : Launch} {D : va_G} {tys : List (ClassId × FieldType)} {X : XT} {cs : CS} (ad : Nat → Nat) {F : Nat} {s : SO} {a1 : Int32} {r : (Int32 × SO)} (htyM : tys = tyA cs) (hf : f_X6_takes F s a1 = some r) : Ci l D tys X yX6_takes wsX6_takes rmX6_takes [.ref (ad 0), .int a1] (wO cs ad s) r.1 (wO cs ad r.2) := by
  refine Ci_ofG (by decide +kernel) rfl (Nat.le_of_ble_eq_true rfl) .int rfl (vp_nar_int _) (fun E _ _ hty0 hX0 hr => ?_)
  have hty := hty0.trans htyM
  have hr : Ri E kX6_takes r.1 (wO cs ad r.2) := hr
  show G E kX6_takes 0 0 0 [(0, .ref (ad 0)), (1, .int a1)] [] (wO cs ad s)
  unfold f_X6_takes at hf
  refine g_aload_n 0 dX6_takes_0 rfl rfl ?_
  obtain ⟨v1, hc2, hf⟩ := obd_some hf
  refine g_callVi (ci := 6) (As := []) (rest := []) (w2 := (wO cs ad s)) 0 dX6_takes_1 vX6_takes_118 (c_X6_isWell ad hty hc2) rfl (mid0 _) rfl rfl 0 wlaO_0 rfl (Nat.le_of_ble_eq_true rfl) ⟨Nat.zero_le _, Nat.zero_le _⟩ (mid2 _ _) ?_
  refine g_if_ne (tgt := 9) dX6_takes_4 (by decide) (fun h3 => ?_) (fun h3 => ?_)
  · have hf := iff_ h3 hf
    refine g_iload_n 1 dX6_takes_9 rfl rfl ?_
    refine g_if_ne (tgt := 23) dX6_takes_10 (by decide) (fun h4 => ?_) (fun h4 => ?_)
    · have hf := iff_ h4 hf
      refine g_aload_n 0 dX6_takes_23 rfl rfl ?_
      refine g_get (ci := 6) (T := TX6) (N := 29) 0 11 (.int (O_value s)) dX6_takes_24 iX6_takes_X6 rfl jX6_takes_112 (by decide) wlaO_0 rfl ?_
      refine g_istore_n (lv2 := [(2, .int (O_value s)), (0, .ref (ad 0)), (1, .int a1)]) dX6_takes_27 rfl (by decide) rfl ?_
      refine g_aload_n 1 dX6_takes_28 rfl rfl ?_
      obtain ⟨v5, hc6, hf⟩ := obd_some hf
      refine g_callVv (ci := 6) (As := []) (rest := []) (w2 := (wO cs ad v5)) 0 dX6_takes_29 vX6_takes_122 (c_X6_advances ad hty hc6) rfl (mid0 _) rfl rfl 0 wlaO_0 rfl (Nat.le_of_ble_eq_true rfl) ⟨Nat.zero_le _, Nat.zero_le _⟩ (mid2 _ _) ?_
      refine g_iload_n 0 dX6_takes_32 rfl rfl ?_
      obtain rfl := Option.some.inj hf
      exact hr _ _ dX6_takes_33
    · have hf := ift h4 hf
      refine g_aload_n 0 dX6_takes_13 rfl rfl ?_
      refine g_aload_n 0 dX6_takes_14 rfl rfl ?_
      refine g_get (ci := 6) (T := TX6) (N := 29) 0 10 (.int (O_place s)) dX6_takes_15 iX6_takes_X6 rfl jX6_takes_102 (by decide) wlaO_0 rfl ?_
      obtain ⟨z7, e_z7, hf⟩ := olt_some hf
      refine g_cast rfl rfl (congrArg (fun q => Value.int q :: [.ref (ad 0)]) e_z7) rfl ?_
      obtain ⟨s8, e_s8, hf⟩ := olt_some hf
      refine g_put (ci := 6) (T := TX6) (N := 29) (ty := .int) (w2 := (wO cs ad s8)) 0 12 (.int z7) tyX6 dX6_takes_18 iX6_takes_X6 tyX6_ok nmX6 rfl jX6_takes_115 (by decide) rfl rfl rfl rfl wlaO_0 (Nat.le_of_ble_eq_true rfl) (wlpO_0_12.trans (congrArg (wO cs ad) e_s8)) ?_
      refine g_iconst (v := (0 : Int32)) dX6_takes_21 (by decide) ?_
      obtain rfl := Option.some.inj hf
      exact hr _ _ dX6_takes_22
  · have hf := ift h3 hf
    refine g_iconst (v := (0 : Int32)) dX6_takes_7 (by decide) ?_
    obtain rfl := Option.some.inj hf
    exact hr _ _ dX6_takes_8

-- ThumbScaleModel number (II)I
def rmX6_number : Room := { frames := 5, cells := 0, slots := 0, locals := 117 }
def kX6_number : MK := (cX6_number, 3, RX6, wsX6_number, (some .int), rmX6_number)

set_option maxRecDepth 20000 in
theorem jX6_number_105 : Cond.fieldLink RX6 105 (TX6 9).1 (TX6 9).2.1 (TX6 9).2.2.1 ∈ wsX6_number := by decide +kernel
set_option maxRecDepth 20000 in
theorem iX6_number_X6 : ∀ x ∈ u_ws RX6 TX6 29, x ∈ wsX6_number := by decide +kernel
set_option maxRecDepth 20000 in
theorem jX6_number_112 : Cond.fieldLink RX6 112 (TX6 11).1 (TX6 11).2.1 (TX6 11).2.2.1 ∈ wsX6_number := by decide +kernel
set_option maxRecDepth 20000 in
theorem vX6_number_61 : KS kX6_number 61 yX6_in wsX6_in rmX6_in 3 := ⟨_, _, _, _, gX6_number_X6_in, rfl, rfl, rfl, by decide +kernel, ⟨by decide, by decide⟩⟩
set_option maxRecDepth 20000 in
theorem vX6_number_125 : KV kX6_number 125 RX6 yX6_takes wsX6_takes rmX6_takes 1 := ⟨_, _, _, _, gX6_number_X6_takes, rfl, rfl, rfl, by decide +kernel, ⟨by decide, by decide⟩⟩
def f_X6_number (F : Nat) (s : SO) (a1 : Int32) (a2 : Int32) : Option (Int32 × SO) :=
    obd ((if (O_token s) = (2 : Int32) then
    obd (f_X6_in F (O_value s) a1 a2) (fun v7 =>
    (if v7 = 0 then
    some (0 : Int32)
    else
    some (1 : Int32)))
    else
    some (0 : Int32))) (fun v5 =>
    obd (f_X6_takes F s v5) (fun v10 =>
    some (v10.1, v10.2)))

set_option maxHeartbeats 4000000 in
set_option maxRecDepth 100000 in
theorem c_X6_number {l : Launch} {D : va_G} {tys : List (ClassId × FieldType)} {X : XT} {cs : CS} (ad : Nat → Nat) {F : Nat} {s : SO} {a1 : Int32} {a2 : Int32} {r : (Int32 × SO)} (htyM : tys = tyA cs) (hf : f_X6_number F s a1 a2 = some r) : Ci l D tys X yX6_number wsX6_number rmX6_number [.ref (ad 0), .int a1, .int a2] (wO cs ad s) r.1 (wO cs ad r.2) := by
  refine Ci_ofG (by decide +kernel) rfl (Nat.le_of_ble_eq_true rfl) .int rfl (vp_nar_int _) (fun E _ _ hty0 hX0 hr => ?_)
  have hty := hty0.trans htyM
  have hr : Ri E kX6_number r.1 (wO cs ad r.2) := hr
  show G E kX6_number 0 0 0 [(0, .ref (ad 0)), (1, .int a1), (2, .int a2)] [] (wO cs ad s)
  unfold f_X6_number at hf
  refine g_aload_n 0 dX6_number_0 rfl rfl ?_
  refine g_aload_n 0 dX6_number_1 rfl rfl ?_
  refine g_get (ci := 6) (T := TX6) (N := 29) 0 9 (.int (O_token s)) dX6_number_2 iX6_number_X6 rfl jX6_number_105 (by decide) wlaO_0 rfl ?_
  refine g_iconst (v := (2 : Int32)) dX6_number_5 (by decide) ?_
  obtain ⟨v5, hE_v5, hf⟩ := obd_some hf
  have J_v5 : G E kX6_number 0 0 26 [(0, .ref (ad 0)), (1, .int a1), (2, .int a2)] [.int v5, .ref (ad 0)] (wO cs ad s) := by
    obtain ⟨v10, hc11, hf⟩ := obd_some hf
    refine g_callVi (ci := 6) (As := [.int v5]) (rest := []) (w2 := (wO cs ad v10.2)) 0 dX6_number_26 vX6_number_125 (c_X6_takes ad hty hc11) rfl (mid0 _) rfl rfl 0 wlaO_0 rfl (Nat.le_of_ble_eq_true rfl) ⟨Nat.zero_le _, Nat.zero_le _⟩ (mid2 _ _) ?_
    obtain rfl := Option.some.inj hf
    exact hr _ _ dX6_number_29
  have hf := hE_v5
  refine g_icmp_ne (tgt := 25) dX6_number_6 (by decide) (fun h6 => ?_) (fun h6 => ?_)
  · have hf := iff_ h6 hf
    refine g_iconst (v := (0 : Int32)) dX6_number_25 (by decide) ?_
    obtain rfl := Option.some.inj hf
    exact g_sub [0, 1, 2] rfl J_v5
  · have hf := ift h6 hf
    refine g_aload_n 0 dX6_number_9 rfl rfl ?_
    refine g_get (ci := 6) (T := TX6) (N := 29) 0 11 (.int (O_value s)) dX6_number_10 iX6_number_X6 rfl jX6_number_112 (by decide) wlaO_0 rfl ?_
    refine g_iload_n 1 dX6_number_13 rfl rfl ?_
    refine g_iload_n 2 dX6_number_14 rfl rfl ?_
    obtain ⟨v7, hc8, hf⟩ := obd_some hf
    refine g_callSi (As := [.int (O_value s), .int a1, .int a2]) (rest := [.ref (ad 0)]) (w2 := (wO cs ad s)) 0 dX6_number_15 vX6_number_61 (c_X6_in hty hc8) rfl (midm _) rfl (Nat.le_of_ble_eq_true rfl) ⟨Nat.zero_le _, Nat.zero_le _⟩ (midn _) ?_
    refine g_if_eq (tgt := 25) dX6_number_18 (by decide) (fun h9 => ?_) (fun h9 => ?_)
    · have hf := ift h9 hf
      refine g_iconst (v := (0 : Int32)) dX6_number_25 (by decide) ?_
      obtain rfl := Option.some.inj hf
      exact g_sub [0, 1, 2] rfl J_v5
    · have hf := iff_ h9 hf
      refine g_iconst (v := (1 : Int32)) dX6_number_21 (by decide) ?_
      refine g_goto (tgt := 26) dX6_number_22 (by decide) ?_
      obtain rfl := Option.some.inj hf
      exact g_sub [0, 1, 2] rfl J_v5

-- ThumbScaleModel isWord (I)Z
def rmX6_isWord : Room := { frames := 1, cells := 0, slots := 0, locals := 20 }
def kX6_isWord : MK := (cX6_isWord, 2, RX6, wsX6_isWord, (some .boolean), rmX6_isWord)

set_option maxRecDepth 20000 in
theorem vX6_isWord_118 : KV kX6_isWord 118 RX6 yX6_isWell wsX6_isWell rmX6_isWell 0 := ⟨_, _, _, _, gX6_isWord_X6_isWell, rfl, rfl, rfl, by decide +kernel, ⟨by decide, by decide⟩⟩
set_option maxRecDepth 20000 in
theorem jX6_isWord_105 : Cond.fieldLink RX6 105 (TX6 9).1 (TX6 9).2.1 (TX6 9).2.2.1 ∈ wsX6_isWord := by decide +kernel
set_option maxRecDepth 20000 in
theorem iX6_isWord_X6 : ∀ x ∈ u_ws RX6 TX6 29, x ∈ wsX6_isWord := by decide +kernel
set_option maxRecDepth 20000 in
theorem jX6_isWord_112 : Cond.fieldLink RX6 112 (TX6 11).1 (TX6 11).2.1 (TX6 11).2.2.1 ∈ wsX6_isWord := by decide +kernel
def f_X6_isWord (F : Nat) (s : SO) (a1 : Int32) : Option Int32 :=
    obd (f_X6_isWell F s) (fun v1 =>
    (if v1 = 0 then
    some (0 : Int32)
    else
    (if (O_token s) = (1 : Int32) then
    (if (O_value s) = a1 then
    some (1 : Int32)
    else
    some (0 : Int32))
    else
    some (0 : Int32))))

set_option maxHeartbeats 4000000 in
set_option maxRecDepth 100000 in
theorem c_X6_isWord {l : Launch} {D : va_G} {tys : List (ClassId × FieldType)} {X : XT} {cs : CS} (ad : Nat → Nat) {F : Nat} {s : SO} {a1 : Int32} {r : Int32} (htyM : tys = tyA cs) (hf : f_X6_isWord F s a1 = some r) : Ci l D tys X yX6_isWord wsX6_isWord rmX6_isWord [.ref (ad 0), .int a1] (wO cs ad s) r (wO cs ad s) := by
  refine Cz_ofG (by decide +kernel) rfl (Nat.le_of_ble_eq_true rfl) (fun E _ _ hty0 hX0 hr => ?_)
  have hty := hty0.trans htyM
  have hr : Rz E kX6_isWord r (wO cs ad s) := hr
  show G E kX6_isWord 0 0 0 [(0, .ref (ad 0)), (1, .int a1)] [] (wO cs ad s)
  unfold f_X6_isWord at hf
  refine g_aload_n 0 dX6_isWord_0 rfl rfl ?_
  obtain ⟨v1, hc2, hf⟩ := obd_some hf
  refine g_callVi (ci := 6) (As := []) (rest := []) (w2 := (wO cs ad s)) 0 dX6_isWord_1 vX6_isWord_118 (c_X6_isWell ad hty hc2) rfl (mid0 _) rfl rfl 0 wlaO_0 rfl (Nat.le_of_ble_eq_true rfl) ⟨Nat.zero_le _, Nat.zero_le _⟩ (mid2 _ _) ?_
  refine g_if_eq (tgt := 27) dX6_isWord_4 (by decide) (fun h3 => ?_) (fun h3 => ?_)
  · have hf := ift h3 hf
    refine g_iconst (v := (0 : Int32)) dX6_isWord_27 (by decide) ?_
    obtain rfl := Option.some.inj hf
    exact hr _ _ dX6_isWord_28 (Or.inl rfl)
  · have hf := iff_ h3 hf
    refine g_aload_n 0 dX6_isWord_7 rfl rfl ?_
    refine g_get (ci := 6) (T := TX6) (N := 29) 0 9 (.int (O_token s)) dX6_isWord_8 iX6_isWord_X6 rfl jX6_isWord_105 (by decide) wlaO_0 rfl ?_
    refine g_iconst (v := (1 : Int32)) dX6_isWord_11 (by decide) ?_
    refine g_icmp_ne (tgt := 27) dX6_isWord_12 (by decide) (fun h4 => ?_) (fun h4 => ?_)
    · have hf := iff_ h4 hf
      refine g_iconst (v := (0 : Int32)) dX6_isWord_27 (by decide) ?_
      obtain rfl := Option.some.inj hf
      exact hr _ _ dX6_isWord_28 (Or.inl rfl)
    · have hf := ift h4 hf
      refine g_aload_n 0 dX6_isWord_15 rfl rfl ?_
      refine g_get (ci := 6) (T := TX6) (N := 29) 0 11 (.int (O_value s)) dX6_isWord_16 iX6_isWord_X6 rfl jX6_isWord_112 (by decide) wlaO_0 rfl ?_
      refine g_iload_n 1 dX6_isWord_19 rfl rfl ?_
      refine g_icmp_ne (tgt := 27) dX6_isWord_20 (by decide) (fun h5 => ?_) (fun h5 => ?_)
      · have hf := iff_ h5 hf
        refine g_iconst (v := (0 : Int32)) dX6_isWord_27 (by decide) ?_
        obtain rfl := Option.some.inj hf
        exact hr _ _ dX6_isWord_28 (Or.inl rfl)
      · have hf := ift h5 hf
        refine g_iconst (v := (1 : Int32)) dX6_isWord_23 (by decide) ?_
        refine g_goto (tgt := 28) dX6_isWord_24 (by decide) ?_
        obtain rfl := Option.some.inj hf
        exact hr _ _ dX6_isWord_28 (Or.inr rfl)

-- ThumbScaleModel readsLuck ()V
def rmX6_readsLuck : Room := { frames := 6, cells := 0, slots := 0, locals := 139 }
def kX6_readsLuck : MK := (cX6_readsLuck, 1, RX6, wsX6_readsLuck, none, rmX6_readsLuck)

set_option maxRecDepth 20000 in
theorem jX6_readsLuck_27 : Cond.fieldLink RX6 27 (TX6 13).1 (TX6 13).2.1 (TX6 13).2.2.1 ∈ wsX6_readsLuck := by decide +kernel
set_option maxRecDepth 20000 in
theorem iX6_readsLuck_X6 : ∀ x ∈ u_ws RX6 TX6 29, x ∈ wsX6_readsLuck := by decide +kernel
set_option maxRecDepth 20000 in
theorem vX6_readsLuck_129 : KV kX6_readsLuck 129 RX6 yX6_number wsX6_number rmX6_number 2 := ⟨_, _, _, _, gX6_readsLuck_X6_number, rfl, rfl, rfl, by decide +kernel, ⟨by decide, by decide⟩⟩
set_option maxRecDepth 20000 in
theorem jX6_readsLuck_105 : Cond.fieldLink RX6 105 (TX6 9).1 (TX6 9).2.1 (TX6 9).2.2.1 ∈ wsX6_readsLuck := by decide +kernel
set_option maxRecDepth 20000 in
theorem jX6_readsLuck_112 : Cond.fieldLink RX6 112 (TX6 11).1 (TX6 11).2.1 (TX6 11).2.2.1 ∈ wsX6_readsLuck := by decide +kernel
set_option maxRecDepth 20000 in
theorem vX6_readsLuck_125 : KV kX6_readsLuck 125 RX6 yX6_takes wsX6_takes rmX6_takes 1 := ⟨_, _, _, _, gX6_readsLuck_X6_takes, rfl, rfl, rfl, by decide +kernel, ⟨by decide, by decide⟩⟩
def f_X6_readsLuck (F : Nat) (s : SO) : Option SO :=
    obd (f_X6_number F s (0 : Int32) (10 : Int32)) (fun v1 =>
    ochi (3 : Int32) 6 (olt (uO_luck v1.2 (upd (O_luck v1.2) (Int32.toNatClampNeg (3 : Int32)) v1.1)) (fun s4 =>
    obd (f_X6_number F s4 (0 : Int32) (10 : Int32)) (fun v5 =>
    ochi (4 : Int32) 6 (olt (uO_luck v5.2 (upd (O_luck v5.2) (Int32.toNatClampNeg (4 : Int32)) v5.1)) (fun s8 =>
    obd ((if (O_token s8) = (2 : Int32) then
    ochi (3 : Int32) 6 (
    ochi (4 : Int32) 6 (
    (if ((((O_luck s8) (Int32.toNatClampNeg (3 : Int32))) + ((O_luck s8) (Int32.toNatClampNeg (4 : Int32)))) + (O_value s8)) = (10 : Int32) then
    some (1 : Int32)
    else
    some (0 : Int32))))
    else
    some (0 : Int32))) (fun v13 =>
    obd (f_X6_takes F s8 v13) (fun v18 =>
    ochi (5 : Int32) 6 (olt (uO_luck v18.2 (upd (O_luck v18.2) (Int32.toNatClampNeg (5 : Int32)) v18.1)) (fun s21 =>
    some s21))))))))))

set_option maxHeartbeats 4000000 in
set_option maxRecDepth 100000 in
theorem c_X6_readsLuck {l : Launch} {D : va_G} {tys : List (ClassId × FieldType)} {X : XT} {cs : CS} (ad : Nat → Nat) {F : Nat} {s : SO} {r : SO} (htyM : tys = tyA cs) (hf : f_X6_readsLuck F s = some r) : Cv l D tys X yX6_readsLuck wsX6_readsLuck rmX6_readsLuck [.ref (ad 0)] (wO cs ad s) (wO cs ad r) := by
  refine Cv_ofG (by decide +kernel) rfl (Nat.le_of_ble_eq_true rfl) (fun E _ _ hty0 hX0 hr => ?_)
  have hty := hty0.trans htyM
  have hr : Rv E kX6_readsLuck (wO cs ad r) := hr
  show G E kX6_readsLuck 0 0 0 [(0, .ref (ad 0))] [] (wO cs ad s)
  unfold f_X6_readsLuck at hf
  refine g_aload_n 0 dX6_readsLuck_0 rfl rfl ?_
  refine g_get (ci := 6) (T := TX6) (N := 29) 0 13 (.ref (ad 6)) dX6_readsLuck_1 iX6_readsLuck_X6 rfl jX6_readsLuck_27 (by decide) wlaO_0 rfl ?_
  refine g_iconst (v := (3 : Int32)) dX6_readsLuck_4 (by decide) ?_
  refine g_aload_n 0 dX6_readsLuck_5 rfl rfl ?_
  refine g_iconst (v := (0 : Int32)) dX6_readsLuck_6 (by decide) ?_
  refine g_bipush (v := (10 : Int32)) dX6_readsLuck_7 (by decide) ?_
  obtain ⟨v1, hc2, hf⟩ := obd_some hf
  refine g_callVi (ci := 6) (As := [.int (0 : Int32), .int (10 : Int32)]) (rest := [.int (3 : Int32), .ref (ad 6)]) (w2 := (wO cs ad v1.2)) 0 dX6_readsLuck_9 vX6_readsLuck_129 (c_X6_number ad hty hc2) rfl (mid0 _) rfl rfl 0 wlaO_0 rfl (Nat.le_of_ble_eq_true rfl) ⟨Nat.zero_le _, Nat.zero_le _⟩ (mid2 _ _) ?_
  obtain ⟨h3, hf⟩ := ochi_some hf
  obtain ⟨s4, e_s4, hf⟩ := olt_some hf
  refine g_iast (w2 := (wO cs ad s4)) 6 0 dX6_readsLuck_12 wlaO_6 (tI hty) h3 (wlsO_6.trans (congrArg (wO cs ad) e_s4)) ?_
  refine g_aload_n 0 dX6_readsLuck_13 rfl rfl ?_
  refine g_get (ci := 6) (T := TX6) (N := 29) 0 13 (.ref (ad 6)) dX6_readsLuck_14 iX6_readsLuck_X6 rfl jX6_readsLuck_27 (by decide) wlaO_0 rfl ?_
  refine g_iconst (v := (4 : Int32)) dX6_readsLuck_17 (by decide) ?_
  refine g_aload_n 0 dX6_readsLuck_18 rfl rfl ?_
  refine g_iconst (v := (0 : Int32)) dX6_readsLuck_19 (by decide) ?_
  refine g_bipush (v := (10 : Int32)) dX6_readsLuck_20 (by decide) ?_
  obtain ⟨v5, hc6, hf⟩ := obd_some hf
  refine g_callVi (ci := 6) (As := [.int (0 : Int32), .int (10 : Int32)]) (rest := [.int (4 : Int32), .ref (ad 6)]) (w2 := (wO cs ad v5.2)) 0 dX6_readsLuck_22 vX6_readsLuck_129 (c_X6_number ad hty hc6) rfl (mid0 _) rfl rfl 0 wlaO_0 rfl (Nat.le_of_ble_eq_true rfl) ⟨Nat.zero_le _, Nat.zero_le _⟩ (mid2 _ _) ?_
  obtain ⟨h7, hf⟩ := ochi_some hf
  obtain ⟨s8, e_s8, hf⟩ := olt_some hf
  refine g_iast (w2 := (wO cs ad s8)) 6 0 dX6_readsLuck_25 wlaO_6 (tI hty) h7 (wlsO_6.trans (congrArg (wO cs ad) e_s8)) ?_
  refine g_aload_n 0 dX6_readsLuck_26 rfl rfl ?_
  refine g_get (ci := 6) (T := TX6) (N := 29) 0 13 (.ref (ad 6)) dX6_readsLuck_27 iX6_readsLuck_X6 rfl jX6_readsLuck_27 (by decide) wlaO_0 rfl ?_
  refine g_iconst (v := (5 : Int32)) dX6_readsLuck_30 (by decide) ?_
  refine g_aload_n 0 dX6_readsLuck_31 rfl rfl ?_
  refine g_aload_n 0 dX6_readsLuck_32 rfl rfl ?_
  refine g_get (ci := 6) (T := TX6) (N := 29) 0 9 (.int (O_token s8)) dX6_readsLuck_33 iX6_readsLuck_X6 rfl jX6_readsLuck_105 (by decide) wlaO_0 rfl ?_
  refine g_iconst (v := (2 : Int32)) dX6_readsLuck_36 (by decide) ?_
  obtain ⟨v13, hE_v13, hf⟩ := obd_some hf
  have J_v13 : G E kX6_readsLuck 0 0 68 [(0, .ref (ad 0))] [.int v13, .ref (ad 0), .int (5 : Int32), .ref (ad 6)] (wO cs ad s8) := by
    obtain ⟨v18, hc19, hf⟩ := obd_some hf
    refine g_callVi (ci := 6) (As := [.int v13]) (rest := [.int (5 : Int32), .ref (ad 6)]) (w2 := (wO cs ad v18.2)) 0 dX6_readsLuck_68 vX6_readsLuck_125 (c_X6_takes ad hty hc19) rfl (mid0 _) rfl rfl 0 wlaO_0 rfl (Nat.le_of_ble_eq_true rfl) ⟨Nat.zero_le _, Nat.zero_le _⟩ (mid2 _ _) ?_
    obtain ⟨h20, hf⟩ := ochi_some hf
    obtain ⟨s21, e_s21, hf⟩ := olt_some hf
    refine g_iast (w2 := (wO cs ad s21)) 6 0 dX6_readsLuck_71 wlaO_6 (tI hty) h20 (wlsO_6.trans (congrArg (wO cs ad) e_s21)) ?_
    obtain rfl := Option.some.inj hf
    exact hr _ _ dX6_readsLuck_72
  have hf := hE_v13
  refine g_icmp_ne (tgt := 67) dX6_readsLuck_37 (by decide) (fun h14 => ?_) (fun h14 => ?_)
  · have hf := iff_ h14 hf
    refine g_iconst (v := (0 : Int32)) dX6_readsLuck_67 (by decide) ?_
    obtain rfl := Option.some.inj hf
    exact g_sub [0] rfl J_v13
  · have hf := ift h14 hf
    refine g_aload_n 0 dX6_readsLuck_40 rfl rfl ?_
    refine g_get (ci := 6) (T := TX6) (N := 29) 0 13 (.ref (ad 6)) dX6_readsLuck_41 iX6_readsLuck_X6 rfl jX6_readsLuck_27 (by decide) wlaO_0 rfl ?_
    refine g_iconst (v := (3 : Int32)) dX6_readsLuck_44 (by decide) ?_
    obtain ⟨h15, hf⟩ := ochi_some hf
    refine g_iald 6 0 dX6_readsLuck_45 wlaO_6 (tI hty) h15 ?_
    refine g_aload_n 0 dX6_readsLuck_46 rfl rfl ?_
    refine g_get (ci := 6) (T := TX6) (N := 29) 0 13 (.ref (ad 6)) dX6_readsLuck_47 iX6_readsLuck_X6 rfl jX6_readsLuck_27 (by decide) wlaO_0 rfl ?_
    refine g_iconst (v := (4 : Int32)) dX6_readsLuck_50 (by decide) ?_
    obtain ⟨h16, hf⟩ := ochi_some hf
    refine g_iald 6 0 dX6_readsLuck_51 wlaO_6 (tI hty) h16 ?_
    refine g_iadd dX6_readsLuck_52 ?_
    refine g_aload_n 0 dX6_readsLuck_53 rfl rfl ?_
    refine g_get (ci := 6) (T := TX6) (N := 29) 0 11 (.int (O_value s8)) dX6_readsLuck_54 iX6_readsLuck_X6 rfl jX6_readsLuck_112 (by decide) wlaO_0 rfl ?_
    refine g_iadd dX6_readsLuck_57 ?_
    refine g_bipush (v := (10 : Int32)) dX6_readsLuck_58 (by decide) ?_
    refine g_icmp_ne (tgt := 67) dX6_readsLuck_60 (by decide) (fun h17 => ?_) (fun h17 => ?_)
    · have hf := iff_ h17 hf
      refine g_iconst (v := (0 : Int32)) dX6_readsLuck_67 (by decide) ?_
      obtain rfl := Option.some.inj hf
      exact g_sub [0] rfl J_v13
    · have hf := ift h17 hf
      refine g_iconst (v := (1 : Int32)) dX6_readsLuck_63 (by decide) ?_
      refine g_goto (tgt := 68) dX6_readsLuck_64 (by decide) ?_
      obtain rfl := Option.some.inj hf
      exact g_sub [0] rfl J_v13

-- ThumbScaleModel readsStall ()V
def rmX6_readsStall : Room := { frames := 6, cells := 0, slots := 0, locals := 139 }
def kX6_readsStall : MK := (cX6_readsStall, 2, RX6, wsX6_readsStall, none, rmX6_readsStall)

set_option maxRecDepth 20000 in
theorem jX6_readsStall_133 : Cond.fieldLink RX6 133 (TX6 18).1 (TX6 18).2.1 (TX6 18).2.2.1 ∈ wsX6_readsStall := by decide +kernel
set_option maxRecDepth 20000 in
theorem iX6_readsStall_X6 : ∀ x ∈ u_ws RX6 TX6 29, x ∈ wsX6_readsStall := by decide +kernel
set_option maxRecDepth 20000 in
theorem jX6_readsStall_30 : Cond.fieldLink RX6 30 (TX6 14).1 (TX6 14).2.1 (TX6 14).2.2.1 ∈ wsX6_readsStall := by decide +kernel
set_option maxRecDepth 20000 in
theorem vX6_readsStall_129 : KV kX6_readsStall 129 RX6 yX6_number wsX6_number rmX6_number 2 := ⟨_, _, _, _, gX6_readsStall_X6_number, rfl, rfl, rfl, by decide +kernel, ⟨by decide, by decide⟩⟩
def f_X6_readsStall (F : Nat) (s : SO) : Option SO :=
    olt ((18 : Int32) + ((3 : Int32) * (O_draftStalls s))) (fun z1 =>
    obd (f_X6_number F s (1 : Int32) (20 : Int32)) (fun v2 =>
    ochi z1 36 (olt (uO_stall v2.2 (upd (O_stall v2.2) (Int32.toNatClampNeg z1) v2.1)) (fun s5 =>
    obd (f_X6_number F s5 (0 : Int32) (9 : Int32)) (fun v6 =>
    ochi (z1 + (1 : Int32)) 36 (olt (uO_stall v6.2 (upd (O_stall v6.2) (Int32.toNatClampNeg (z1 + (1 : Int32))) v6.1)) (fun s9 =>
    obd (f_X6_number F s9 (0 : Int32) (99 : Int32)) (fun v10 =>
    ochi (z1 + (2 : Int32)) 36 (olt (uO_stall v10.2 (upd (O_stall v10.2) (Int32.toNatClampNeg (z1 + (2 : Int32))) v10.1)) (fun s13 =>
    olt ((O_draftStalls s13) + (1 : Int32)) (fun z14 =>
    olt (uO_draftStalls s13 z14) (fun s15 =>
    some s15))))))))))))

set_option maxHeartbeats 4000000 in
set_option maxRecDepth 100000 in
theorem c_X6_readsStall {l : Launch} {D : va_G} {tys : List (ClassId × FieldType)} {X : XT} {cs : CS} (ad : Nat → Nat) {F : Nat} {s : SO} {r : SO} (htyM : tys = tyA cs) (hf : f_X6_readsStall F s = some r) : Cv l D tys X yX6_readsStall wsX6_readsStall rmX6_readsStall [.ref (ad 0)] (wO cs ad s) (wO cs ad r) := by
  refine Cv_ofG (by decide +kernel) rfl (Nat.le_of_ble_eq_true rfl) (fun E _ _ hty0 hX0 hr => ?_)
  have hty := hty0.trans htyM
  have hr : Rv E kX6_readsStall (wO cs ad r) := hr
  show G E kX6_readsStall 0 0 0 [(0, .ref (ad 0))] [] (wO cs ad s)
  unfold f_X6_readsStall at hf
  refine g_bipush (v := (18 : Int32)) dX6_readsStall_0 (by decide) ?_
  refine g_iconst (v := (3 : Int32)) dX6_readsStall_2 (by decide) ?_
  refine g_aload_n 0 dX6_readsStall_3 rfl rfl ?_
  refine g_get (ci := 6) (T := TX6) (N := 29) 0 18 (.int (O_draftStalls s)) dX6_readsStall_4 iX6_readsStall_X6 rfl jX6_readsStall_133 (by decide) wlaO_0 rfl ?_
  refine g_imul dX6_readsStall_7 ?_
  refine g_iadd dX6_readsStall_8 ?_
  obtain ⟨z1, e_z1, hf⟩ := olt_some hf
  refine g_cast rfl rfl (congrArg (fun q => Value.int q :: []) e_z1) rfl ?_
  refine g_istore_n (lv2 := [(1, .int z1), (0, .ref (ad 0))]) dX6_readsStall_9 rfl (by decide) rfl ?_
  refine g_aload_n 1 dX6_readsStall_10 rfl rfl ?_
  refine g_get (ci := 6) (T := TX6) (N := 29) 0 14 (.ref (ad 7)) dX6_readsStall_11 iX6_readsStall_X6 rfl jX6_readsStall_30 (by decide) wlaO_0 rfl ?_
  refine g_iload_n 0 dX6_readsStall_14 rfl rfl ?_
  refine g_aload_n 1 dX6_readsStall_15 rfl rfl ?_
  refine g_iconst (v := (1 : Int32)) dX6_readsStall_16 (by decide) ?_
  refine g_bipush (v := (20 : Int32)) dX6_readsStall_17 (by decide) ?_
  obtain ⟨v2, hc3, hf⟩ := obd_some hf
  refine g_callVi (ci := 6) (As := [.int (1 : Int32), .int (20 : Int32)]) (rest := [.int z1, .ref (ad 7)]) (w2 := (wO cs ad v2.2)) 0 dX6_readsStall_19 vX6_readsStall_129 (c_X6_number ad hty hc3) rfl (mid0 _) rfl rfl 0 wlaO_0 rfl (Nat.le_of_ble_eq_true rfl) ⟨Nat.zero_le _, Nat.zero_le _⟩ (mid2 _ _) ?_
  obtain ⟨h4, hf⟩ := ochi_some hf
  obtain ⟨s5, e_s5, hf⟩ := olt_some hf
  refine g_iast (w2 := (wO cs ad s5)) 7 0 dX6_readsStall_22 wlaO_7 (tI hty) h4 (wlsO_7.trans (congrArg (wO cs ad) e_s5)) ?_
  refine g_aload_n 1 dX6_readsStall_23 rfl rfl ?_
  refine g_get (ci := 6) (T := TX6) (N := 29) 0 14 (.ref (ad 7)) dX6_readsStall_24 iX6_readsStall_X6 rfl jX6_readsStall_30 (by decide) wlaO_0 rfl ?_
  refine g_iload_n 0 dX6_readsStall_27 rfl rfl ?_
  refine g_iconst (v := (1 : Int32)) dX6_readsStall_28 (by decide) ?_
  refine g_iadd dX6_readsStall_29 ?_
  refine g_aload_n 1 dX6_readsStall_30 rfl rfl ?_
  refine g_iconst (v := (0 : Int32)) dX6_readsStall_31 (by decide) ?_
  refine g_bipush (v := (9 : Int32)) dX6_readsStall_32 (by decide) ?_
  obtain ⟨v6, hc7, hf⟩ := obd_some hf
  refine g_callVi (ci := 6) (As := [.int (0 : Int32), .int (9 : Int32)]) (rest := [.int (z1 + (1 : Int32)), .ref (ad 7)]) (w2 := (wO cs ad v6.2)) 0 dX6_readsStall_34 vX6_readsStall_129 (c_X6_number ad hty hc7) rfl (mid0 _) rfl rfl 0 wlaO_0 rfl (Nat.le_of_ble_eq_true rfl) ⟨Nat.zero_le _, Nat.zero_le _⟩ (mid2 _ _) ?_
  obtain ⟨h8, hf⟩ := ochi_some hf
  obtain ⟨s9, e_s9, hf⟩ := olt_some hf
  refine g_iast (w2 := (wO cs ad s9)) 7 0 dX6_readsStall_37 wlaO_7 (tI hty) h8 (wlsO_7.trans (congrArg (wO cs ad) e_s9)) ?_
  refine g_aload_n 1 dX6_readsStall_38 rfl rfl ?_
  refine g_get (ci := 6) (T := TX6) (N := 29) 0 14 (.ref (ad 7)) dX6_readsStall_39 iX6_readsStall_X6 rfl jX6_readsStall_30 (by decide) wlaO_0 rfl ?_
  refine g_iload_n 0 dX6_readsStall_42 rfl rfl ?_
  refine g_iconst (v := (2 : Int32)) dX6_readsStall_43 (by decide) ?_
  refine g_iadd dX6_readsStall_44 ?_
  refine g_aload_n 1 dX6_readsStall_45 rfl rfl ?_
  refine g_iconst (v := (0 : Int32)) dX6_readsStall_46 (by decide) ?_
  refine g_bipush (v := (99 : Int32)) dX6_readsStall_47 (by decide) ?_
  obtain ⟨v10, hc11, hf⟩ := obd_some hf
  refine g_callVi (ci := 6) (As := [.int (0 : Int32), .int (99 : Int32)]) (rest := [.int (z1 + (2 : Int32)), .ref (ad 7)]) (w2 := (wO cs ad v10.2)) 0 dX6_readsStall_49 vX6_readsStall_129 (c_X6_number ad hty hc11) rfl (mid0 _) rfl rfl 0 wlaO_0 rfl (Nat.le_of_ble_eq_true rfl) ⟨Nat.zero_le _, Nat.zero_le _⟩ (mid2 _ _) ?_
  obtain ⟨h12, hf⟩ := ochi_some hf
  obtain ⟨s13, e_s13, hf⟩ := olt_some hf
  refine g_iast (w2 := (wO cs ad s13)) 7 0 dX6_readsStall_52 wlaO_7 (tI hty) h12 (wlsO_7.trans (congrArg (wO cs ad) e_s13)) ?_
  refine g_aload_n 1 dX6_readsStall_53 rfl rfl ?_
  refine g_dup dX6_readsStall_54 rfl ?_
  refine g_get (ci := 6) (T := TX6) (N := 29) 0 18 (.int (O_draftStalls s13)) dX6_readsStall_55 iX6_readsStall_X6 rfl jX6_readsStall_133 (by decide) wlaO_0 rfl ?_
  refine g_iconst (v := (1 : Int32)) dX6_readsStall_58 (by decide) ?_
  refine g_iadd dX6_readsStall_59 ?_
  obtain ⟨z14, e_z14, hf⟩ := olt_some hf
  refine g_cast rfl rfl (congrArg (fun q => Value.int q :: [.ref (ad 0)]) e_z14) rfl ?_
  obtain ⟨s15, e_s15, hf⟩ := olt_some hf
  refine g_put (ci := 6) (T := TX6) (N := 29) (ty := .int) (w2 := (wO cs ad s15)) 0 18 (.int z14) tyX6 dX6_readsStall_60 iX6_readsStall_X6 tyX6_ok nmX6 rfl jX6_readsStall_133 (by decide) rfl rfl rfl rfl wlaO_0 (Nat.le_of_ble_eq_true rfl) (wlpO_0_18.trans (congrArg (wO cs ad) e_s15)) ?_
  obtain rfl := Option.some.inj hf
  exact hr _ _ dX6_readsStall_63

-- ThumbScaleModel readsWay ()V
def rmX6_readsWay : Room := { frames := 6, cells := 0, slots := 0, locals := 139 }
def kX6_readsWay : MK := (cX6_readsWay, 5, RX6, wsX6_readsWay, none, rmX6_readsWay)

set_option maxRecDepth 20000 in
theorem jX6_readsWay_136 : Cond.fieldLink RX6 136 (TX6 19).1 (TX6 19).2.1 (TX6 19).2.2.1 ∈ wsX6_readsWay := by decide +kernel
set_option maxRecDepth 20000 in
theorem iX6_readsWay_X6 : ∀ x ∈ u_ws RX6 TX6 29, x ∈ wsX6_readsWay := by decide +kernel
set_option maxRecDepth 20000 in
theorem jX6_readsWay_105 : Cond.fieldLink RX6 105 (TX6 9).1 (TX6 9).2.1 (TX6 9).2.2.1 ∈ wsX6_readsWay := by decide +kernel
set_option maxRecDepth 20000 in
theorem jX6_readsWay_112 : Cond.fieldLink RX6 112 (TX6 11).1 (TX6 11).2.1 (TX6 11).2.2.1 ∈ wsX6_readsWay := by decide +kernel
set_option maxRecDepth 20000 in
theorem vX6_readsWay_61 : KS kX6_readsWay 61 yX6_in wsX6_in rmX6_in 3 := ⟨_, _, _, _, gX6_readsWay_X6_in, rfl, rfl, rfl, by decide +kernel, ⟨by decide, by decide⟩⟩
set_option maxRecDepth 20000 in
theorem vX6_readsWay_125 : KV kX6_readsWay 125 RX6 yX6_takes wsX6_takes rmX6_takes 1 := ⟨_, _, _, _, gX6_readsWay_X6_takes, rfl, rfl, rfl, by decide +kernel, ⟨by decide, by decide⟩⟩
set_option maxRecDepth 20000 in
theorem jX6_readsWay_33 : Cond.fieldLink RX6 33 (TX6 15).1 (TX6 15).2.1 (TX6 15).2.2.1 ∈ wsX6_readsWay := by decide +kernel
set_option maxRecDepth 20000 in
theorem vX6_readsWay_118 : KV kX6_readsWay 118 RX6 yX6_isWell wsX6_isWell rmX6_isWell 0 := ⟨_, _, _, _, gX6_readsWay_X6_isWell, rfl, rfl, rfl, by decide +kernel, ⟨by decide, by decide⟩⟩
set_option maxRecDepth 20000 in
theorem vX6_readsWay_129 : KV kX6_readsWay 129 RX6 yX6_number wsX6_number rmX6_number 2 := ⟨_, _, _, _, gX6_readsWay_X6_number, rfl, rfl, rfl, by decide +kernel, ⟨by decide, by decide⟩⟩
set_option maxRecDepth 20000 in
theorem vX6_readsWay_139 : KV kX6_readsWay 139 RX6 yX6_isWord wsX6_isWord rmX6_isWord 1 := ⟨_, _, _, _, gX6_readsWay_X6_isWord, rfl, rfl, rfl, by decide +kernel, ⟨by decide, by decide⟩⟩
set_option maxRecDepth 20000 in
theorem vX6_readsWay_122 : KV kX6_readsWay 122 RX6 yX6_advances wsX6_advances rmX6_advances 0 := ⟨_, _, _, _, gX6_readsWay_X6_advances, rfl, rfl, rfl, by decide +kernel, ⟨by decide, by decide⟩⟩
def f_X6_readsWay_L171 (F : Nat) (x66 : Int32) (k277_ : SO → Option SO) : Nat → Int32 → SO → Option SO
  | 0, _, _ => none
  | n + 1, x64, s65 =>
    (if x64 = 0 then
    k277_ s65
    else
    obd ((if (O_token s65) = (1 : Int32) then
    (if (O_value s65) < (9 : Int32) then
    some (0 : Int32)
    else
    ochi (x66 + (3 : Int32)) 48 (
    (if ((((O_way s65) (Int32.toNatClampNeg (x66 + (3 : Int32)))) >>> (((O_value s65) - (9 : Int32)) &&& 31)) &&& (1 : Int32)) = 0 then
    some (1 : Int32)
    else
    some (0 : Int32))))
    else
    some (0 : Int32))) (fun v72 =>
    obd (f_X6_takes F s65 v72) (fun v77 =>
    ochi (x66 + (3 : Int32)) 48 (
    obd (f_X6_isWell F v77.2) (fun v80 =>
    obd ((if v80 = 0 then
    some (0 : Int32)
    else
    some ((1 : Int32) <<< ((v77.1 - (9 : Int32)) &&& 31)))) (fun v83 =>
    olt (((O_way v77.2) (Int32.toNatClampNeg (x66 + (3 : Int32)))) ||| v83) (fun z85 =>
    ochi (x66 + (3 : Int32)) 48 (olt (uO_way v77.2 (upd (O_way v77.2) (Int32.toNatClampNeg (x66 + (3 : Int32))) z85)) (fun s87 =>
    obd (f_X6_isWell F s87) (fun v88 =>
    (if v88 = 0 then
    f_X6_readsWay_L171 F x66 k277_ n (0 : Int32) s87
    else
    (if (O_token s87) = (3 : Int32) then
    f_X6_readsWay_L171 F x66 k277_ n (0 : Int32) s87
    else
    f_X6_readsWay_L171 F x66 k277_ n (1 : Int32) s87))))))))))))

def f_X6_readsWay (F : Nat) (s : SO) : Option SO :=
    olt ((24 : Int32) + ((4 : Int32) * (O_draftWays s))) (fun z1 =>
    obd ((if (O_token s) = (1 : Int32) then
    obd (f_X6_in F (O_value s) (3 : Int32) (6 : Int32)) (fun v8 =>
    (if v8 = 0 then
    some (0 : Int32)
    else
    some (1 : Int32)))
    else
    some (0 : Int32))) (fun v6 =>
    obd (f_X6_takes F s v6) (fun v11 =>
    olt (v11.1 - (3 : Int32)) (fun z13 =>
    ochi z1 48 (olt (uO_way v11.2 (upd (O_way v11.2) (Int32.toNatClampNeg z1) z13)) (fun s15 =>
    ochi (z1 + (1 : Int32)) 48 (olt (uO_way s15 (upd (O_way s15) (Int32.toNatClampNeg (z1 + (1 : Int32))) (0 : Int32))) (fun s17 =>
    ochi (z1 + (2 : Int32)) 48 (olt (uO_way s17 (upd (O_way s17) (Int32.toNatClampNeg (z1 + (2 : Int32))) (1 : Int32))) (fun s19 =>
    ochi (z1 + (3 : Int32)) 48 (olt (uO_way s19 (upd (O_way s19) (Int32.toNatClampNeg (z1 + (3 : Int32))) (15 : Int32))) (fun s21 =>
    obd (f_X6_isWell F s21) (fun v22 =>
    obd ((if v22 = 0 then
    some s21
    else
    olt (obd (f_X6_number F s21 (1 : Int32) (99 : Int32)) (fun v34 =>
    ochi (z1 + (1 : Int32)) 48 (olt (uO_way v34.2 (upd (O_way v34.2) (Int32.toNatClampNeg (z1 + (1 : Int32))) v34.1)) (fun s37 =>
    some s37)))) (fun k38 =>
    (if v11.1 = (4 : Int32) then
    k38
    else
    (if v11.1 = (5 : Int32) then
    k38
    else
    some s21))))) (fun v32 =>
    obd (f_X6_isWell F v32) (fun v41 =>
    olt (fun (s43 : SO) =>
    olt ((O_draftWays s43) + (1 : Int32)) (fun z44 =>
    olt (uO_draftWays s43 z44) (fun s45 =>
    some s45))) (fun k46 =>
    (if v41 = 0 then
    k46 v32
    else
    (if v11.1 = (5 : Int32) then
    obd (f_X6_isWord F v32 (7 : Int32)) (fun v49 =>
    obd (f_X6_takes F v32 v49) (fun v51 =>
    obd (f_X6_number F v51.2 (1 : Int32) (5 : Int32)) (fun v53 =>
    ochi (z1 + (2 : Int32)) 48 (olt (uO_way v53.2 (upd (O_way v53.2) (Int32.toNatClampNeg (z1 + (2 : Int32))) v53.1)) (fun s56 =>
    obd (f_X6_isWord F s56 (8 : Int32)) (fun v57 =>
    (if v57 = 0 then
    k46 s56
    else
    obd (f_X6_advances F s56) (fun v60 =>
    ochi (z1 + (3 : Int32)) 48 (olt (uO_way v60 (upd (O_way v60) (Int32.toNatClampNeg (z1 + (3 : Int32))) (0 : Int32))) (fun s63 =>
    f_X6_readsWay_L171 F z1 k46 F (1 : Int32) s63))))))))))
    else
    k46 v32))))))))))))))))))

set_option maxHeartbeats 4000000 in
set_option maxRecDepth 100000 in
theorem w_X6_readsWay_L171 {E : GE} {cs : CS} {ad : Nat → Nat} {F : Nat} {x66 : Int32} {k277_ : SO → Option SO} {r : SO} (hty : eT E = tyA cs) (hr : Rv E kX6_readsWay (wO cs ad r)) (K277_ : ∀ (s43 : SO), k277_ s43 = some r → G E kX6_readsWay 0 0 277 [(0, .ref (ad 0))] [] (wO cs ad s43)) : ∀ (n : Nat) (x64 : Int32) (s65 : SO), f_X6_readsWay_L171 F x66 k277_ n x64 s65 = some r → G E kX6_readsWay 0 0 171 [(0, .ref (ad 0)), (1, .int x66), (3, .int x64)] [] (wO cs ad s65) := by
  intro n
  induction n with
  | zero =>
    intro x64 s65 hf
    cases (show (none : Option SO) = some r from hf)
  | succ n ih =>
    intro x64 s65 hf
    rw [f_X6_readsWay_L171] at hf
    refine g_iload_n 2 dX6_readsWay_171 rfl rfl ?_
    refine g_if_eq (tgt := 277) dX6_readsWay_172 (by decide) (fun h67 => ?_) (fun h67 => ?_)
    · have hf := ift h67 hf
      exact g_sub [0] rfl (K277_ s65 hf)
    · have hf := iff_ h67 hf
      refine g_aload_n 0 dX6_readsWay_175 rfl rfl ?_
      refine g_aload_n 0 dX6_readsWay_176 rfl rfl ?_
      refine g_get (ci := 6) (T := TX6) (N := 29) 0 9 (.int (O_token s65)) dX6_readsWay_177 iX6_readsWay_X6 rfl jX6_readsWay_105 (by decide) wlaO_0 rfl ?_
      refine g_iconst (v := (1 : Int32)) dX6_readsWay_180 (by decide) ?_
      obtain ⟨v72, hE_v72, hf⟩ := obd_some hf
      have J_v72 : G E kX6_readsWay 0 0 219 [(0, .ref (ad 0)), (1, .int x66)] [.int v72, .ref (ad 0)] (wO cs ad s65) := by
        obtain ⟨v77, hc78, hf⟩ := obd_some hf
        refine g_callVi (ci := 6) (As := [.int v72]) (rest := []) (w2 := (wO cs ad v77.2)) 0 dX6_readsWay_219 vX6_readsWay_125 (c_X6_takes ad hty hc78) rfl (mid0 _) rfl rfl 0 wlaO_0 rfl (Nat.le_of_ble_eq_true rfl) ⟨Nat.zero_le _, Nat.zero_le _⟩ (mid2 _ _) ?_
        refine g_bipush (v := (9 : Int32)) dX6_readsWay_222 (by decide) ?_
        refine g_isub dX6_readsWay_224 ?_
        refine g_istore (lv2 := [(4, .int (v77.1 - (9 : Int32))), (0, .ref (ad 0)), (1, .int x66)]) dX6_readsWay_225 (by decide) rfl ?_
        refine g_aload_n 1 dX6_readsWay_227 rfl rfl ?_
        refine g_get (ci := 6) (T := TX6) (N := 29) 0 15 (.ref (ad 8)) dX6_readsWay_228 iX6_readsWay_X6 rfl jX6_readsWay_33 (by decide) wlaO_0 rfl ?_
        refine g_iload_n 2 dX6_readsWay_231 rfl rfl ?_
        refine g_iconst (v := (3 : Int32)) dX6_readsWay_232 (by decide) ?_
        refine g_iadd dX6_readsWay_233 ?_
        refine g_dup2 dX6_readsWay_234 rfl rfl ?_
        obtain ⟨h79, hf⟩ := ochi_some hf
        refine g_iald 8 0 dX6_readsWay_235 wlaO_8 (tI hty) h79 ?_
        refine g_aload_n 1 dX6_readsWay_236 rfl rfl ?_
        obtain ⟨v80, hc81, hf⟩ := obd_some hf
        refine g_callVi (ci := 6) (As := []) (rest := [.int ((O_way v77.2) (Int32.toNatClampNeg (x66 + (3 : Int32)))), .int (x66 + (3 : Int32)), .ref (ad 8)]) (w2 := (wO cs ad v77.2)) 0 dX6_readsWay_237 vX6_readsWay_118 (c_X6_isWell ad hty hc81) rfl (mid0 _) rfl rfl 0 wlaO_0 rfl (Nat.le_of_ble_eq_true rfl) ⟨Nat.zero_le _, Nat.zero_le _⟩ (mid2 _ _) ?_
        obtain ⟨v83, hE_v83, hf⟩ := obd_some hf
        have J_v83 : G E kX6_readsWay 0 0 251 [(0, .ref (ad 0)), (1, .int x66)] [.int v83, .int ((O_way v77.2) (Int32.toNatClampNeg (x66 + (3 : Int32)))), .int (x66 + (3 : Int32)), .ref (ad 8)] (wO cs ad v77.2) := by
          refine g_ior dX6_readsWay_251 ?_
          obtain ⟨z85, e_z85, hf⟩ := olt_some hf
          refine g_cast rfl rfl (congrArg (fun q => Value.int q :: [.int (x66 + (3 : Int32)), .ref (ad 8)]) e_z85) rfl ?_
          obtain ⟨h86, hf⟩ := ochi_some hf
          obtain ⟨s87, e_s87, hf⟩ := olt_some hf
          refine g_iast (w2 := (wO cs ad s87)) 8 0 dX6_readsWay_252 wlaO_8 (tI hty) h86 (wlsO_8.trans (congrArg (wO cs ad) e_s87)) ?_
          refine g_aload_n 0 dX6_readsWay_253 rfl rfl ?_
          obtain ⟨v88, hc89, hf⟩ := obd_some hf
          refine g_callVi (ci := 6) (As := []) (rest := []) (w2 := (wO cs ad s87)) 0 dX6_readsWay_254 vX6_readsWay_118 (c_X6_isWell ad hty hc89) rfl (mid0 _) rfl rfl 0 wlaO_0 rfl (Nat.le_of_ble_eq_true rfl) ⟨Nat.zero_le _, Nat.zero_le _⟩ (mid2 _ _) ?_
          refine g_if_eq (tgt := 272) dX6_readsWay_257 (by decide) (fun h90 => ?_) (fun h90 => ?_)
          · have hf := ift h90 hf
            refine g_iconst (v := (0 : Int32)) dX6_readsWay_272 (by decide) ?_
            refine g_istore_n (lv2 := [(3, .int (0 : Int32)), (0, .ref (ad 0)), (1, .int x66)]) dX6_readsWay_273 rfl (by decide) rfl ?_
            refine g_goto (tgt := 171) dX6_readsWay_274 (by decide) ?_
            exact g_sub [1, 2, 0] rfl (ih (0 : Int32) s87 hf)
          · have hf := iff_ h90 hf
            refine g_aload_n 0 dX6_readsWay_260 rfl rfl ?_
            refine g_get (ci := 6) (T := TX6) (N := 29) 0 9 (.int (O_token s87)) dX6_readsWay_261 iX6_readsWay_X6 rfl jX6_readsWay_105 (by decide) wlaO_0 rfl ?_
            refine g_iconst (v := (3 : Int32)) dX6_readsWay_264 (by decide) ?_
            refine g_icmp_eq (tgt := 272) dX6_readsWay_265 (by decide) (fun h91 => ?_) (fun h91 => ?_)
            · have hf := ift h91 hf
              refine g_iconst (v := (0 : Int32)) dX6_readsWay_272 (by decide) ?_
              refine g_istore_n (lv2 := [(3, .int (0 : Int32)), (0, .ref (ad 0)), (1, .int x66)]) dX6_readsWay_273 rfl (by decide) rfl ?_
              refine g_goto (tgt := 171) dX6_readsWay_274 (by decide) ?_
              exact g_sub [1, 2, 0] rfl (ih (0 : Int32) s87 hf)
            · have hf := iff_ h91 hf
              refine g_iconst (v := (1 : Int32)) dX6_readsWay_268 (by decide) ?_
              refine g_goto (tgt := 273) dX6_readsWay_269 (by decide) ?_
              refine g_istore_n (lv2 := [(3, .int (1 : Int32)), (0, .ref (ad 0)), (1, .int x66)]) dX6_readsWay_273 rfl (by decide) rfl ?_
              refine g_goto (tgt := 171) dX6_readsWay_274 (by decide) ?_
              exact g_sub [1, 2, 0] rfl (ih (1 : Int32) s87 hf)
        have hf := hE_v83
        refine g_if_eq (tgt := 250) dX6_readsWay_240 (by decide) (fun h84 => ?_) (fun h84 => ?_)
        · have hf := ift h84 hf
          refine g_iconst (v := (0 : Int32)) dX6_readsWay_250 (by decide) ?_
          obtain rfl := Option.some.inj hf
          exact g_sub [1, 2] rfl J_v83
        · have hf := iff_ h84 hf
          refine g_iconst (v := (1 : Int32)) dX6_readsWay_243 (by decide) ?_
          refine g_iload 0 dX6_readsWay_244 rfl ?_
          refine g_ishl dX6_readsWay_246 ?_
          refine g_goto (tgt := 251) dX6_readsWay_247 (by decide) ?_
          obtain rfl := Option.some.inj hf
          exact g_sub [1, 2] rfl J_v83
      have hf := hE_v72
      refine g_icmp_ne (tgt := 218) dX6_readsWay_181 (by decide) (fun h73 => ?_) (fun h73 => ?_)
      · have hf := iff_ h73 hf
        refine g_iconst (v := (0 : Int32)) dX6_readsWay_218 (by decide) ?_
        obtain rfl := Option.some.inj hf
        exact g_sub [0, 1] rfl J_v72
      · have hf := ift h73 hf
        refine g_aload_n 0 dX6_readsWay_184 rfl rfl ?_
        refine g_get (ci := 6) (T := TX6) (N := 29) 0 11 (.int (O_value s65)) dX6_readsWay_185 iX6_readsWay_X6 rfl jX6_readsWay_112 (by decide) wlaO_0 rfl ?_
        refine g_bipush (v := (9 : Int32)) dX6_readsWay_188 (by decide) ?_
        refine g_icmp_lt (tgt := 218) dX6_readsWay_190 (by decide) (fun h74 => ?_) (fun h74 => ?_)
        · have hf := ift h74 hf
          refine g_iconst (v := (0 : Int32)) dX6_readsWay_218 (by decide) ?_
          obtain rfl := Option.some.inj hf
          exact g_sub [0, 1] rfl J_v72
        · have hf := iff_ h74 hf
          refine g_aload_n 0 dX6_readsWay_193 rfl rfl ?_
          refine g_get (ci := 6) (T := TX6) (N := 29) 0 15 (.ref (ad 8)) dX6_readsWay_194 iX6_readsWay_X6 rfl jX6_readsWay_33 (by decide) wlaO_0 rfl ?_
          refine g_iload_n 1 dX6_readsWay_197 rfl rfl ?_
          refine g_iconst (v := (3 : Int32)) dX6_readsWay_198 (by decide) ?_
          refine g_iadd dX6_readsWay_199 ?_
          obtain ⟨h75, hf⟩ := ochi_some hf
          refine g_iald 8 0 dX6_readsWay_200 wlaO_8 (tI hty) h75 ?_
          refine g_aload_n 0 dX6_readsWay_201 rfl rfl ?_
          refine g_get (ci := 6) (T := TX6) (N := 29) 0 11 (.int (O_value s65)) dX6_readsWay_202 iX6_readsWay_X6 rfl jX6_readsWay_112 (by decide) wlaO_0 rfl ?_
          refine g_bipush (v := (9 : Int32)) dX6_readsWay_205 (by decide) ?_
          refine g_isub dX6_readsWay_207 ?_
          refine g_ishr dX6_readsWay_208 ?_
          refine g_iconst (v := (1 : Int32)) dX6_readsWay_209 (by decide) ?_
          refine g_iand dX6_readsWay_210 ?_
          refine g_if_ne (tgt := 218) dX6_readsWay_211 (by decide) (fun h76 => ?_) (fun h76 => ?_)
          · have hf := iff_ h76 hf
            refine g_iconst (v := (0 : Int32)) dX6_readsWay_218 (by decide) ?_
            obtain rfl := Option.some.inj hf
            exact g_sub [0, 1] rfl J_v72
          · have hf := ift h76 hf
            refine g_iconst (v := (1 : Int32)) dX6_readsWay_214 (by decide) ?_
            refine g_goto (tgt := 219) dX6_readsWay_215 (by decide) ?_
            obtain rfl := Option.some.inj hf
            exact g_sub [0, 1] rfl J_v72

set_option maxHeartbeats 4000000 in
set_option maxRecDepth 100000 in
theorem c_X6_readsWay {l : Launch} {D : va_G} {tys : List (ClassId × FieldType)} {X : XT} {cs : CS} (ad : Nat → Nat) {F : Nat} {s : SO} {r : SO} (htyM : tys = tyA cs) (hf : f_X6_readsWay F s = some r) : Cv l D tys X yX6_readsWay wsX6_readsWay rmX6_readsWay [.ref (ad 0)] (wO cs ad s) (wO cs ad r) := by
  refine Cv_ofG (by decide +kernel) rfl (Nat.le_of_ble_eq_true rfl) (fun E _ _ hty0 hX0 hr => ?_)
  have hty := hty0.trans htyM
  have hr : Rv E kX6_readsWay (wO cs ad r) := hr
  show G E kX6_readsWay 0 0 0 [(0, .ref (ad 0))] [] (wO cs ad s)
  unfold f_X6_readsWay at hf
  refine g_bipush (v := (24 : Int32)) dX6_readsWay_0 (by decide) ?_
  refine g_iconst (v := (4 : Int32)) dX6_readsWay_2 (by decide) ?_
  refine g_aload_n 0 dX6_readsWay_3 rfl rfl ?_
  refine g_get (ci := 6) (T := TX6) (N := 29) 0 19 (.int (O_draftWays s)) dX6_readsWay_4 iX6_readsWay_X6 rfl jX6_readsWay_136 (by decide) wlaO_0 rfl ?_
  refine g_imul dX6_readsWay_7 ?_
  refine g_iadd dX6_readsWay_8 ?_
  obtain ⟨z1, e_z1, hf⟩ := olt_some hf
  refine g_cast rfl rfl (congrArg (fun q => Value.int q :: []) e_z1) rfl ?_
  refine g_istore_n (lv2 := [(1, .int z1), (0, .ref (ad 0))]) dX6_readsWay_9 rfl (by decide) rfl ?_
  refine g_aload_n 1 dX6_readsWay_10 rfl rfl ?_
  refine g_aload_n 1 dX6_readsWay_11 rfl rfl ?_
  refine g_get (ci := 6) (T := TX6) (N := 29) 0 9 (.int (O_token s)) dX6_readsWay_12 iX6_readsWay_X6 rfl jX6_readsWay_105 (by decide) wlaO_0 rfl ?_
  refine g_iconst (v := (1 : Int32)) dX6_readsWay_15 (by decide) ?_
  obtain ⟨v6, hE_v6, hf⟩ := obd_some hf
  have J_v6 : G E kX6_readsWay 0 0 37 [(0, .ref (ad 0)), (1, .int z1)] [.int v6, .ref (ad 0)] (wO cs ad s) := by
    obtain ⟨v11, hc12, hf⟩ := obd_some hf
    refine g_callVi (ci := 6) (As := [.int v6]) (rest := []) (w2 := (wO cs ad v11.2)) 0 dX6_readsWay_37 vX6_readsWay_125 (c_X6_takes ad hty hc12) rfl (mid0 _) rfl rfl 0 wlaO_0 rfl (Nat.le_of_ble_eq_true rfl) ⟨Nat.zero_le _, Nat.zero_le _⟩ (mid2 _ _) ?_
    refine g_istore_n (lv2 := [(2, .int v11.1), (0, .ref (ad 0)), (1, .int z1)]) dX6_readsWay_40 rfl (by decide) rfl ?_
    refine g_aload_n 1 dX6_readsWay_41 rfl rfl ?_
    refine g_get (ci := 6) (T := TX6) (N := 29) 0 15 (.ref (ad 8)) dX6_readsWay_42 iX6_readsWay_X6 rfl jX6_readsWay_33 (by decide) wlaO_0 rfl ?_
    refine g_iload_n 2 dX6_readsWay_45 rfl rfl ?_
    refine g_iload_n 0 dX6_readsWay_46 rfl rfl ?_
    refine g_iconst (v := (3 : Int32)) dX6_readsWay_47 (by decide) ?_
    refine g_isub dX6_readsWay_48 ?_
    obtain ⟨z13, e_z13, hf⟩ := olt_some hf
    refine g_cast rfl rfl (congrArg (fun q => Value.int q :: [.int z1, .ref (ad 8)]) e_z13) rfl ?_
    obtain ⟨h14, hf⟩ := ochi_some hf
    obtain ⟨s15, e_s15, hf⟩ := olt_some hf
    refine g_iast (w2 := (wO cs ad s15)) 8 0 dX6_readsWay_49 wlaO_8 (tI hty) h14 (wlsO_8.trans (congrArg (wO cs ad) e_s15)) ?_
    refine g_aload_n 1 dX6_readsWay_50 rfl rfl ?_
    refine g_get (ci := 6) (T := TX6) (N := 29) 0 15 (.ref (ad 8)) dX6_readsWay_51 iX6_readsWay_X6 rfl jX6_readsWay_33 (by decide) wlaO_0 rfl ?_
    refine g_iload_n 2 dX6_readsWay_54 rfl rfl ?_
    refine g_iconst (v := (1 : Int32)) dX6_readsWay_55 (by decide) ?_
    refine g_iadd dX6_readsWay_56 ?_
    refine g_iconst (v := (0 : Int32)) dX6_readsWay_57 (by decide) ?_
    obtain ⟨h16, hf⟩ := ochi_some hf
    obtain ⟨s17, e_s17, hf⟩ := olt_some hf
    refine g_iast (w2 := (wO cs ad s17)) 8 0 dX6_readsWay_58 wlaO_8 (tI hty) h16 (wlsO_8.trans (congrArg (wO cs ad) e_s17)) ?_
    refine g_aload_n 1 dX6_readsWay_59 rfl rfl ?_
    refine g_get (ci := 6) (T := TX6) (N := 29) 0 15 (.ref (ad 8)) dX6_readsWay_60 iX6_readsWay_X6 rfl jX6_readsWay_33 (by decide) wlaO_0 rfl ?_
    refine g_iload_n 2 dX6_readsWay_63 rfl rfl ?_
    refine g_iconst (v := (2 : Int32)) dX6_readsWay_64 (by decide) ?_
    refine g_iadd dX6_readsWay_65 ?_
    refine g_iconst (v := (1 : Int32)) dX6_readsWay_66 (by decide) ?_
    obtain ⟨h18, hf⟩ := ochi_some hf
    obtain ⟨s19, e_s19, hf⟩ := olt_some hf
    refine g_iast (w2 := (wO cs ad s19)) 8 0 dX6_readsWay_67 wlaO_8 (tI hty) h18 (wlsO_8.trans (congrArg (wO cs ad) e_s19)) ?_
    refine g_aload_n 1 dX6_readsWay_68 rfl rfl ?_
    refine g_get (ci := 6) (T := TX6) (N := 29) 0 15 (.ref (ad 8)) dX6_readsWay_69 iX6_readsWay_X6 rfl jX6_readsWay_33 (by decide) wlaO_0 rfl ?_
    refine g_iload_n 2 dX6_readsWay_72 rfl rfl ?_
    refine g_iconst (v := (3 : Int32)) dX6_readsWay_73 (by decide) ?_
    refine g_iadd dX6_readsWay_74 ?_
    refine g_bipush (v := (15 : Int32)) dX6_readsWay_75 (by decide) ?_
    obtain ⟨h20, hf⟩ := ochi_some hf
    obtain ⟨s21, e_s21, hf⟩ := olt_some hf
    refine g_iast (w2 := (wO cs ad s21)) 8 0 dX6_readsWay_77 wlaO_8 (tI hty) h20 (wlsO_8.trans (congrArg (wO cs ad) e_s21)) ?_
    refine g_aload_n 1 dX6_readsWay_78 rfl rfl ?_
    obtain ⟨v22, hc23, hf⟩ := obd_some hf
    refine g_callVi (ci := 6) (As := []) (rest := []) (w2 := (wO cs ad s21)) 0 dX6_readsWay_79 vX6_readsWay_118 (c_X6_isWell ad hty hc23) rfl (mid0 _) rfl rfl 0 wlaO_0 rfl (Nat.le_of_ble_eq_true rfl) ⟨Nat.zero_le _, Nat.zero_le _⟩ (mid2 _ _) ?_
    obtain ⟨v32, hE_v32, hf⟩ := obd_some hf
    have J_v32 : G E kX6_readsWay 0 0 110 [(0, .ref (ad 0)), (1, .int z1), (2, .int v11.1)] [] (wO cs ad v32) := by
      refine g_aload_n 0 dX6_readsWay_110 rfl rfl ?_
      obtain ⟨v41, hc42, hf⟩ := obd_some hf
      refine g_callVi (ci := 6) (As := []) (rest := []) (w2 := (wO cs ad v32)) 0 dX6_readsWay_111 vX6_readsWay_118 (c_X6_isWell ad hty hc42) rfl (mid0 _) rfl rfl 0 wlaO_0 rfl (Nat.le_of_ble_eq_true rfl) ⟨Nat.zero_le _, Nat.zero_le _⟩ (mid2 _ _) ?_
      obtain ⟨k46, e_k46, hf⟩ := olt_some hf
      have K_k46 : ∀ (s43 : SO), k46 s43 = some r → G E kX6_readsWay 0 0 277 [(0, .ref (ad 0))] [] (wO cs ad s43) := by
        intro s43 hf
        rw [← e_k46] at hf
        refine g_aload_n 0 dX6_readsWay_277 rfl rfl ?_
        refine g_dup dX6_readsWay_278 rfl ?_
        refine g_get (ci := 6) (T := TX6) (N := 29) 0 19 (.int (O_draftWays s43)) dX6_readsWay_279 iX6_readsWay_X6 rfl jX6_readsWay_136 (by decide) wlaO_0 rfl ?_
        refine g_iconst (v := (1 : Int32)) dX6_readsWay_282 (by decide) ?_
        refine g_iadd dX6_readsWay_283 ?_
        obtain ⟨z44, e_z44, hf⟩ := olt_some hf
        refine g_cast rfl rfl (congrArg (fun q => Value.int q :: [.ref (ad 0)]) e_z44) rfl ?_
        obtain ⟨s45, e_s45, hf⟩ := olt_some hf
        refine g_put (ci := 6) (T := TX6) (N := 29) (ty := .int) (w2 := (wO cs ad s45)) 0 19 (.int z44) tyX6 dX6_readsWay_284 iX6_readsWay_X6 tyX6_ok nmX6 rfl jX6_readsWay_136 (by decide) rfl rfl rfl rfl wlaO_0 (Nat.le_of_ble_eq_true rfl) (wlpO_0_19.trans (congrArg (wO cs ad) e_s45)) ?_
        obtain rfl := Option.some.inj hf
        exact hr _ _ dX6_readsWay_287
      refine g_if_eq (tgt := 277) dX6_readsWay_114 (by decide) (fun h47 => ?_) (fun h47 => ?_)
      · have hf := ift h47 hf
        exact g_sub [0] rfl (K_k46 v32 hf)
      · have hf := iff_ h47 hf
        refine g_iload_n 2 dX6_readsWay_117 rfl rfl ?_
        refine g_iconst (v := (5 : Int32)) dX6_readsWay_118 (by decide) ?_
        refine g_icmp_ne (tgt := 277) dX6_readsWay_119 (by decide) (fun h48 => ?_) (fun h48 => ?_)
        · have hf := iff_ h48 hf
          exact g_sub [0] rfl (K_k46 v32 hf)
        · have hf := ift h48 hf
          refine g_aload_n 0 dX6_readsWay_122 rfl rfl ?_
          refine g_aload_n 0 dX6_readsWay_123 rfl rfl ?_
          refine g_bipush (v := (7 : Int32)) dX6_readsWay_124 (by decide) ?_
          obtain ⟨v49, hc50, hf⟩ := obd_some hf
          refine g_callVi (ci := 6) (As := [.int (7 : Int32)]) (rest := [.ref (ad 0)]) (w2 := (wO cs ad v32)) 0 dX6_readsWay_126 vX6_readsWay_139 (c_X6_isWord ad hty hc50) rfl (mid0 _) rfl rfl 0 wlaO_0 rfl (Nat.le_of_ble_eq_true rfl) ⟨Nat.zero_le _, Nat.zero_le _⟩ (mid2 _ _) ?_
          obtain ⟨v51, hc52, hf⟩ := obd_some hf
          refine g_callVi (ci := 6) (As := [.int v49]) (rest := []) (w2 := (wO cs ad v51.2)) 0 dX6_readsWay_129 vX6_readsWay_125 (c_X6_takes ad hty hc52) rfl (mid0 _) rfl rfl 0 wlaO_0 rfl (Nat.le_of_ble_eq_true rfl) ⟨Nat.zero_le _, Nat.zero_le _⟩ (mid2 _ _) ?_
          refine g_pop dX6_readsWay_132 rfl ?_
          refine g_aload_n 0 dX6_readsWay_133 rfl rfl ?_
          refine g_get (ci := 6) (T := TX6) (N := 29) 0 15 (.ref (ad 8)) dX6_readsWay_134 iX6_readsWay_X6 rfl jX6_readsWay_33 (by decide) wlaO_0 rfl ?_
          refine g_iload_n 1 dX6_readsWay_137 rfl rfl ?_
          refine g_iconst (v := (2 : Int32)) dX6_readsWay_138 (by decide) ?_
          refine g_iadd dX6_readsWay_139 ?_
          refine g_aload_n 0 dX6_readsWay_140 rfl rfl ?_
          refine g_iconst (v := (1 : Int32)) dX6_readsWay_141 (by decide) ?_
          refine g_iconst (v := (5 : Int32)) dX6_readsWay_142 (by decide) ?_
          obtain ⟨v53, hc54, hf⟩ := obd_some hf
          refine g_callVi (ci := 6) (As := [.int (1 : Int32), .int (5 : Int32)]) (rest := [.int (z1 + (2 : Int32)), .ref (ad 8)]) (w2 := (wO cs ad v53.2)) 0 dX6_readsWay_143 vX6_readsWay_129 (c_X6_number ad hty hc54) rfl (mid0 _) rfl rfl 0 wlaO_0 rfl (Nat.le_of_ble_eq_true rfl) ⟨Nat.zero_le _, Nat.zero_le _⟩ (mid2 _ _) ?_
          obtain ⟨h55, hf⟩ := ochi_some hf
          obtain ⟨s56, e_s56, hf⟩ := olt_some hf
          refine g_iast (w2 := (wO cs ad s56)) 8 0 dX6_readsWay_146 wlaO_8 (tI hty) h55 (wlsO_8.trans (congrArg (wO cs ad) e_s56)) ?_
          refine g_aload_n 0 dX6_readsWay_147 rfl rfl ?_
          refine g_bipush (v := (8 : Int32)) dX6_readsWay_148 (by decide) ?_
          obtain ⟨v57, hc58, hf⟩ := obd_some hf
          refine g_callVi (ci := 6) (As := [.int (8 : Int32)]) (rest := []) (w2 := (wO cs ad s56)) 0 dX6_readsWay_150 vX6_readsWay_139 (c_X6_isWord ad hty hc58) rfl (mid0 _) rfl rfl 0 wlaO_0 rfl (Nat.le_of_ble_eq_true rfl) ⟨Nat.zero_le _, Nat.zero_le _⟩ (mid2 _ _) ?_
          refine g_if_eq (tgt := 277) dX6_readsWay_153 (by decide) (fun h59 => ?_) (fun h59 => ?_)
          · have hf := ift h59 hf
            exact g_sub [0] rfl (K_k46 s56 hf)
          · have hf := iff_ h59 hf
            refine g_aload_n 0 dX6_readsWay_156 rfl rfl ?_
            obtain ⟨v60, hc61, hf⟩ := obd_some hf
            refine g_callVv (ci := 6) (As := []) (rest := []) (w2 := (wO cs ad v60)) 0 dX6_readsWay_157 vX6_readsWay_122 (c_X6_advances ad hty hc61) rfl (mid0 _) rfl rfl 0 wlaO_0 rfl (Nat.le_of_ble_eq_true rfl) ⟨Nat.zero_le _, Nat.zero_le _⟩ (mid2 _ _) ?_
            refine g_aload_n 0 dX6_readsWay_160 rfl rfl ?_
            refine g_get (ci := 6) (T := TX6) (N := 29) 0 15 (.ref (ad 8)) dX6_readsWay_161 iX6_readsWay_X6 rfl jX6_readsWay_33 (by decide) wlaO_0 rfl ?_
            refine g_iload_n 1 dX6_readsWay_164 rfl rfl ?_
            refine g_iconst (v := (3 : Int32)) dX6_readsWay_165 (by decide) ?_
            refine g_iadd dX6_readsWay_166 ?_
            refine g_iconst (v := (0 : Int32)) dX6_readsWay_167 (by decide) ?_
            obtain ⟨h62, hf⟩ := ochi_some hf
            obtain ⟨s63, e_s63, hf⟩ := olt_some hf
            refine g_iast (w2 := (wO cs ad s63)) 8 0 dX6_readsWay_168 wlaO_8 (tI hty) h62 (wlsO_8.trans (congrArg (wO cs ad) e_s63)) ?_
            refine g_iconst (v := (1 : Int32)) dX6_readsWay_169 (by decide) ?_
            refine g_istore_n (lv2 := [(3, .int (1 : Int32)), (0, .ref (ad 0)), (1, .int z1), (2, .int v11.1)]) dX6_readsWay_170 rfl (by decide) rfl ?_
            exact g_sub [1, 2, 0] rfl (w_X6_readsWay_L171 hty hr K_k46 F (1 : Int32) s63 hf)
    have hf := hE_v32
    refine g_if_eq (tgt := 110) dX6_readsWay_82 (by decide) (fun h33 => ?_) (fun h33 => ?_)
    · have hf := ift h33 hf
      obtain rfl := Option.some.inj hf
      exact g_sub [1, 2, 0] rfl J_v32
    · have hf := iff_ h33 hf
      refine g_iload_n 0 dX6_readsWay_85 rfl rfl ?_
      refine g_iconst (v := (4 : Int32)) dX6_readsWay_86 (by decide) ?_
      obtain ⟨k38, e_k38, hf⟩ := olt_some hf
      have K_k38 : k38 = some v32 → G E kX6_readsWay 0 0 95 [(0, .ref (ad 0)), (1, .int z1), (2, .int v11.1)] [] (wO cs ad s21) := by
        intro hf
        rw [← e_k38] at hf
        refine g_aload_n 0 dX6_readsWay_95 rfl rfl ?_
        refine g_get (ci := 6) (T := TX6) (N := 29) 0 15 (.ref (ad 8)) dX6_readsWay_96 iX6_readsWay_X6 rfl jX6_readsWay_33 (by decide) wlaO_0 rfl ?_
        refine g_iload_n 1 dX6_readsWay_99 rfl rfl ?_
        refine g_iconst (v := (1 : Int32)) dX6_readsWay_100 (by decide) ?_
        refine g_iadd dX6_readsWay_101 ?_
        refine g_aload_n 0 dX6_readsWay_102 rfl rfl ?_
        refine g_iconst (v := (1 : Int32)) dX6_readsWay_103 (by decide) ?_
        refine g_bipush (v := (99 : Int32)) dX6_readsWay_104 (by decide) ?_
        obtain ⟨v34, hc35, hf⟩ := obd_some hf
        refine g_callVi (ci := 6) (As := [.int (1 : Int32), .int (99 : Int32)]) (rest := [.int (z1 + (1 : Int32)), .ref (ad 8)]) (w2 := (wO cs ad v34.2)) 0 dX6_readsWay_106 vX6_readsWay_129 (c_X6_number ad hty hc35) rfl (mid0 _) rfl rfl 0 wlaO_0 rfl (Nat.le_of_ble_eq_true rfl) ⟨Nat.zero_le _, Nat.zero_le _⟩ (mid2 _ _) ?_
        obtain ⟨h36, hf⟩ := ochi_some hf
        obtain ⟨s37, e_s37, hf⟩ := olt_some hf
        refine g_iast (w2 := (wO cs ad s37)) 8 0 dX6_readsWay_109 wlaO_8 (tI hty) h36 (wlsO_8.trans (congrArg (wO cs ad) e_s37)) ?_
        obtain rfl := Option.some.inj hf
        exact g_sub [0, 1, 2] rfl J_v32
      refine g_icmp_eq (tgt := 95) dX6_readsWay_87 (by decide) (fun h39 => ?_) (fun h39 => ?_)
      · have hf := ift h39 hf
        exact g_sub [1, 2, 0] rfl (K_k38 hf)
      · have hf := iff_ h39 hf
        refine g_iload_n 0 dX6_readsWay_90 rfl rfl ?_
        refine g_iconst (v := (5 : Int32)) dX6_readsWay_91 (by decide) ?_
        refine g_icmp_ne (tgt := 110) dX6_readsWay_92 (by decide) (fun h40 => ?_) (fun h40 => ?_)
        · have hf := iff_ h40 hf
          obtain rfl := Option.some.inj hf
          exact g_sub [1, 2, 0] rfl J_v32
        · have hf := ift h40 hf
          exact g_sub [1, 2, 0] rfl (K_k38 hf)
  have hf := hE_v6
  refine g_icmp_ne (tgt := 36) dX6_readsWay_16 (by decide) (fun h7 => ?_) (fun h7 => ?_)
  · have hf := iff_ h7 hf
    refine g_iconst (v := (0 : Int32)) dX6_readsWay_36 (by decide) ?_
    obtain rfl := Option.some.inj hf
    exact g_sub [1, 0] rfl J_v6
  · have hf := ift h7 hf
    refine g_aload_n 1 dX6_readsWay_19 rfl rfl ?_
    refine g_get (ci := 6) (T := TX6) (N := 29) 0 11 (.int (O_value s)) dX6_readsWay_20 iX6_readsWay_X6 rfl jX6_readsWay_112 (by decide) wlaO_0 rfl ?_
    refine g_iconst (v := (3 : Int32)) dX6_readsWay_23 (by decide) ?_
    refine g_bipush (v := (6 : Int32)) dX6_readsWay_24 (by decide) ?_
    obtain ⟨v8, hc9, hf⟩ := obd_some hf
    refine g_callSi (As := [.int (O_value s), .int (3 : Int32), .int (6 : Int32)]) (rest := [.ref (ad 0)]) (w2 := (wO cs ad s)) 0 dX6_readsWay_26 vX6_readsWay_61 (c_X6_in hty hc9) rfl (midm _) rfl (Nat.le_of_ble_eq_true rfl) ⟨Nat.zero_le _, Nat.zero_le _⟩ (midn _) ?_
    refine g_if_eq (tgt := 36) dX6_readsWay_29 (by decide) (fun h10 => ?_) (fun h10 => ?_)
    · have hf := ift h10 hf
      refine g_iconst (v := (0 : Int32)) dX6_readsWay_36 (by decide) ?_
      obtain rfl := Option.some.inj hf
      exact g_sub [1, 0] rfl J_v6
    · have hf := iff_ h10 hf
      refine g_iconst (v := (1 : Int32)) dX6_readsWay_32 (by decide) ?_
      refine g_goto (tgt := 37) dX6_readsWay_33 (by decide) ?_
      obtain rfl := Option.some.inj hf
      exact g_sub [1, 0] rfl J_v6

-- ThumbScaleModel begins ()V
def rmX6_begins : Room := { frames := 4, cells := 0, slots := 0, locals := 95 }
def kX6_begins : MK := (cX6_begins, 1, RX6, wsX6_begins, none, rmX6_begins)

set_option maxRecDepth 20000 in
theorem jX6_begins_115 : Cond.fieldLink RX6 115 (TX6 12).1 (TX6 12).2.1 (TX6 12).2.2.1 ∈ wsX6_begins := by decide +kernel
set_option maxRecDepth 20000 in
theorem iX6_begins_X6 : ∀ x ∈ u_ws RX6 TX6 29, x ∈ wsX6_begins := by decide +kernel
set_option maxRecDepth 20000 in
theorem jX6_begins_95 : Cond.fieldLink RX6 95 (TX6 8).1 (TX6 8).2.1 (TX6 8).2.2.1 ∈ wsX6_begins := by decide +kernel
set_option maxRecDepth 20000 in
theorem jX6_begins_133 : Cond.fieldLink RX6 133 (TX6 18).1 (TX6 18).2.1 (TX6 18).2.2.1 ∈ wsX6_begins := by decide +kernel
set_option maxRecDepth 20000 in
theorem jX6_begins_136 : Cond.fieldLink RX6 136 (TX6 19).1 (TX6 19).2.1 (TX6 19).2.2.1 ∈ wsX6_begins := by decide +kernel
set_option maxRecDepth 20000 in
theorem jX6_begins_27 : Cond.fieldLink RX6 27 (TX6 13).1 (TX6 13).2.1 (TX6 13).2.2.1 ∈ wsX6_begins := by decide +kernel
set_option maxRecDepth 20000 in
theorem vX6_begins_122 : KV kX6_begins 122 RX6 yX6_advances wsX6_advances rmX6_advances 0 := ⟨_, _, _, _, gX6_begins_X6_advances, rfl, rfl, rfl, by decide +kernel, ⟨by decide, by decide⟩⟩
def f_X6_begins (F : Nat) (s : SO) : Option SO :=
    olt (uO_fault s (-1 : Int32)) (fun s1 =>
    olt (uO_next s1 (0 : Int32)) (fun s2 =>
    olt (uO_draftStalls s2 (0 : Int32)) (fun s3 =>
    olt (uO_draftWays s3 (0 : Int32)) (fun s4 =>
    ochi (3 : Int32) 6 (olt (uO_luck s4 (upd (O_luck s4) (Int32.toNatClampNeg (3 : Int32)) (2 : Int32))) (fun s6 =>
    ochi (4 : Int32) 6 (olt (uO_luck s6 (upd (O_luck s6) (Int32.toNatClampNeg (4 : Int32)) (6 : Int32))) (fun s8 =>
    ochi (5 : Int32) 6 (olt (uO_luck s8 (upd (O_luck s8) (Int32.toNatClampNeg (5 : Int32)) (2 : Int32))) (fun s10 =>
    obd (f_X6_advances F s10) (fun v11 =>
    some v11)))))))))))

set_option maxHeartbeats 4000000 in
set_option maxRecDepth 100000 in
theorem c_X6_begins {l : Launch} {D : va_G} {tys : List (ClassId × FieldType)} {X : XT} {cs : CS} (ad : Nat → Nat) {F : Nat} {s : SO} {r : SO} (htyM : tys = tyA cs) (hf : f_X6_begins F s = some r) : Cv l D tys X yX6_begins wsX6_begins rmX6_begins [.ref (ad 0)] (wO cs ad s) (wO cs ad r) := by
  refine Cv_ofG (by decide +kernel) rfl (Nat.le_of_ble_eq_true rfl) (fun E _ _ hty0 hX0 hr => ?_)
  have hty := hty0.trans htyM
  have hr : Rv E kX6_begins (wO cs ad r) := hr
  show G E kX6_begins 0 0 0 [(0, .ref (ad 0))] [] (wO cs ad s)
  unfold f_X6_begins at hf
  refine g_aload_n 0 dX6_begins_0 rfl rfl ?_
  refine g_iconst (v := (-1 : Int32)) dX6_begins_1 (by decide) ?_
  obtain ⟨s1, e_s1, hf⟩ := olt_some hf
  refine g_put (ci := 6) (T := TX6) (N := 29) (ty := .int) (w2 := (wO cs ad s1)) 0 12 (.int (-1 : Int32)) tyX6 dX6_begins_2 iX6_begins_X6 tyX6_ok nmX6 rfl jX6_begins_115 (by decide) rfl rfl rfl rfl wlaO_0 (Nat.le_of_ble_eq_true rfl) (wlpO_0_12.trans (congrArg (wO cs ad) e_s1)) ?_
  refine g_aload_n 0 dX6_begins_5 rfl rfl ?_
  refine g_iconst (v := (0 : Int32)) dX6_begins_6 (by decide) ?_
  obtain ⟨s2, e_s2, hf⟩ := olt_some hf
  refine g_put (ci := 6) (T := TX6) (N := 29) (ty := .int) (w2 := (wO cs ad s2)) 0 8 (.int (0 : Int32)) tyX6 dX6_begins_7 iX6_begins_X6 tyX6_ok nmX6 rfl jX6_begins_95 (by decide) rfl rfl rfl rfl wlaO_0 (Nat.le_of_ble_eq_true rfl) (wlpO_0_8.trans (congrArg (wO cs ad) e_s2)) ?_
  refine g_aload_n 0 dX6_begins_10 rfl rfl ?_
  refine g_iconst (v := (0 : Int32)) dX6_begins_11 (by decide) ?_
  obtain ⟨s3, e_s3, hf⟩ := olt_some hf
  refine g_put (ci := 6) (T := TX6) (N := 29) (ty := .int) (w2 := (wO cs ad s3)) 0 18 (.int (0 : Int32)) tyX6 dX6_begins_12 iX6_begins_X6 tyX6_ok nmX6 rfl jX6_begins_133 (by decide) rfl rfl rfl rfl wlaO_0 (Nat.le_of_ble_eq_true rfl) (wlpO_0_18.trans (congrArg (wO cs ad) e_s3)) ?_
  refine g_aload_n 0 dX6_begins_15 rfl rfl ?_
  refine g_iconst (v := (0 : Int32)) dX6_begins_16 (by decide) ?_
  obtain ⟨s4, e_s4, hf⟩ := olt_some hf
  refine g_put (ci := 6) (T := TX6) (N := 29) (ty := .int) (w2 := (wO cs ad s4)) 0 19 (.int (0 : Int32)) tyX6 dX6_begins_17 iX6_begins_X6 tyX6_ok nmX6 rfl jX6_begins_136 (by decide) rfl rfl rfl rfl wlaO_0 (Nat.le_of_ble_eq_true rfl) (wlpO_0_19.trans (congrArg (wO cs ad) e_s4)) ?_
  refine g_aload_n 0 dX6_begins_20 rfl rfl ?_
  refine g_get (ci := 6) (T := TX6) (N := 29) 0 13 (.ref (ad 6)) dX6_begins_21 iX6_begins_X6 rfl jX6_begins_27 (by decide) wlaO_0 rfl ?_
  refine g_iconst (v := (3 : Int32)) dX6_begins_24 (by decide) ?_
  refine g_iconst (v := (2 : Int32)) dX6_begins_25 (by decide) ?_
  obtain ⟨h5, hf⟩ := ochi_some hf
  obtain ⟨s6, e_s6, hf⟩ := olt_some hf
  refine g_iast (w2 := (wO cs ad s6)) 6 0 dX6_begins_26 wlaO_6 (tI hty) h5 (wlsO_6.trans (congrArg (wO cs ad) e_s6)) ?_
  refine g_aload_n 0 dX6_begins_27 rfl rfl ?_
  refine g_get (ci := 6) (T := TX6) (N := 29) 0 13 (.ref (ad 6)) dX6_begins_28 iX6_begins_X6 rfl jX6_begins_27 (by decide) wlaO_0 rfl ?_
  refine g_iconst (v := (4 : Int32)) dX6_begins_31 (by decide) ?_
  refine g_bipush (v := (6 : Int32)) dX6_begins_32 (by decide) ?_
  obtain ⟨h7, hf⟩ := ochi_some hf
  obtain ⟨s8, e_s8, hf⟩ := olt_some hf
  refine g_iast (w2 := (wO cs ad s8)) 6 0 dX6_begins_34 wlaO_6 (tI hty) h7 (wlsO_6.trans (congrArg (wO cs ad) e_s8)) ?_
  refine g_aload_n 0 dX6_begins_35 rfl rfl ?_
  refine g_get (ci := 6) (T := TX6) (N := 29) 0 13 (.ref (ad 6)) dX6_begins_36 iX6_begins_X6 rfl jX6_begins_27 (by decide) wlaO_0 rfl ?_
  refine g_iconst (v := (5 : Int32)) dX6_begins_39 (by decide) ?_
  refine g_iconst (v := (2 : Int32)) dX6_begins_40 (by decide) ?_
  obtain ⟨h9, hf⟩ := ochi_some hf
  obtain ⟨s10, e_s10, hf⟩ := olt_some hf
  refine g_iast (w2 := (wO cs ad s10)) 6 0 dX6_begins_41 wlaO_6 (tI hty) h9 (wlsO_6.trans (congrArg (wO cs ad) e_s10)) ?_
  refine g_aload_n 0 dX6_begins_42 rfl rfl ?_
  obtain ⟨v11, hc12, hf⟩ := obd_some hf
  refine g_callVv (ci := 6) (As := []) (rest := []) (w2 := (wO cs ad v11)) 0 dX6_begins_43 vX6_begins_122 (c_X6_advances ad hty hc12) rfl (mid0 _) rfl rfl 0 wlaO_0 rfl (Nat.le_of_ble_eq_true rfl) ⟨Nat.zero_le _, Nat.zero_le _⟩ (mid2 _ _) ?_
  obtain rfl := Option.some.inj hf
  exact hr _ _ dX6_begins_46
