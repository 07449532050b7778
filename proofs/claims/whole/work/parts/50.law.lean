/-! ===== the law's loop, over any relation of the two that every call keeps ===== -/
def LX : GE → Nat → Nat → (Nat → Int32) → Prop := fun (_, _, _, s, _, _, _, _, _, _, A, _, _, _) b L xs => va_X b L xs s s.heap ∧ b < s.heap.size ∧ ¬ A b
section GL
variable {E : GE} {K : MK} {kc ks pc : Nat} {lv : List (Nat × Value)} {st : List Value} {w : va_W} {b L : Nat} {xs : Nat → Int32}
theorem g_slen (hL : LX E b L xs) (hd : decode K.1 pc = .ok (.arraylength, 1)) (kk : G E K kc ks (pc + 1) lv (.int (Int32.ofNat L) :: st) w) : G E K kc ks pc lv (.ref b :: st) w := by
  obtain ⟨p, l, e, s, m, args, below, meth, c, Q, A, D, tys, X⟩ := E
  obtain ⟨cc, nL, own, Ts, ret, R⟩ := K
  intro HC H locs ls hP hD hS hl
  have C' := HC
  obtain ⟨hx, hb, hr, hml, hown, hts, hlocks, hK, hA, hXo, hX⟩ := C'
  exact va_slen hx hb hL.1 hL.2.1 hL.2.2 hS hd (kk HC H locs ls hP hD hS hl)
theorem g_sld {i : Int32} (hL : LX E b L xs) (hd : decode K.1 pc = .ok (.iaload, 1)) (hin : vp_in i L) (kk : G E K kc ks (pc + 1) lv (.int (xs i.toNatClampNeg) :: st) w) : G E K kc ks pc lv (.int i :: .ref b :: st) w := by
  obtain ⟨p, l, e, s, m, args, below, meth, c, Q, A, D, tys, X⟩ := E
  obtain ⟨cc, nL, own, Ts, ret, R⟩ := K
  intro HC H locs ls hP hD hS hl
  have C' := HC
  obtain ⟨hx, hb, hr, hml, hown, hts, hlocks, hK, hA, hXo, hX⟩ := C'
  exact va_sld hx hb hL.1 hL.2.1 hL.2.2 hS hin hd (kk HC H locs ls hP hD hS hl)
end GL
theorem midL (a b : va_W) : ((a ++ b).drop 0).take a.length = a := by simp
theorem midL2 (a b a2 : va_W) : (a ++ b).take 0 ++ (a2 ++ (a ++ b).drop (0 + a.length)) = a2 ++ b := by simp
theorem wT_len {cs : CS} {ad : Nat → Nat} {s : ST} : (wT cs ad s).length = 61 := rfl
theorem vin_off {i k L : Nat} {c : Int32} (hc : c = nI k) (h : i + k < L) (hL : L ≤ 3584) : vp_in (nI i + c) L := by
  subst hc
  rw [nI_add]
  exact vp_in_nI h (by omega)
theorem lgc (r : Int64) : lg_cmp r r = 0 := by simp [lg_cmp]
def kL : MK := (cL_law, 4, RL, lw_tbl, ret, room_1)

set_option maxRecDepth 20000 in
theorem vL_15 : KV kL 15 RX5 yX5_type wsX5_type rmX5_type 2 := ⟨_, _, _, _, gT_X5_type, rfl, rfl, rfl, by decide +kernel, ⟨by decide, by decide⟩⟩
set_option maxRecDepth 20000 in
theorem vL_19 : KV kL 19 RX6 yX6_type wsX6_type rmX6_type 2 := ⟨_, _, _, _, gT_X6_type, rfl, rfl, rfl, by decide +kernel, ⟨by decide, by decide⟩⟩
set_option maxRecDepth 20000 in
theorem vL_20 : KV kL 20 RX5 yX5_clear wsX5_clear rmX5_clear 0 := ⟨_, _, _, _, gT_X5_clear, rfl, rfl, rfl, by decide +kernel, ⟨by decide, by decide⟩⟩
set_option maxRecDepth 20000 in
theorem vL_24 : KV kL 24 RX6 yX6_clear wsX6_clear rmX6_clear 0 := ⟨_, _, _, _, gT_X6_clear, rfl, rfl, rfl, by decide +kernel, ⟨by decide, by decide⟩⟩
set_option maxRecDepth 20000 in
theorem vL_25 : KV kL 25 RX5 yX5_market wsX5_market rmX5_market 0 := ⟨_, _, _, _, gT_X5_market, rfl, rfl, rfl, by decide +kernel, ⟨by decide, by decide⟩⟩
set_option maxRecDepth 20000 in
theorem vL_28 : KV kL 28 RX6 yX6_market wsX6_market rmX6_market 0 := ⟨_, _, _, _, gT_X6_market, rfl, rfl, rfl, by decide +kernel, ⟨by decide, by decide⟩⟩
set_option maxRecDepth 20000 in
theorem vL_29 : KV kL 29 RX5 yX5_stall wsX5_stall rmX5_stall 2 := ⟨_, _, _, _, gT_X5_stall, rfl, rfl, rfl, by decide +kernel, ⟨by decide, by decide⟩⟩
set_option maxRecDepth 20000 in
theorem vL_33 : KV kL 33 RX6 yX6_stall wsX6_stall rmX6_stall 2 := ⟨_, _, _, _, gT_X6_stall, rfl, rfl, rfl, by decide +kernel, ⟨by decide, by decide⟩⟩
set_option maxRecDepth 20000 in
theorem vL_34 : KV kL 34 RX5 yX5_way wsX5_way rmX5_way 2 := ⟨_, _, _, _, gT_X5_way, rfl, rfl, rfl, by decide +kernel, ⟨by decide, by decide⟩⟩
set_option maxRecDepth 20000 in
theorem vL_37 : KV kL 37 RX6 yX6_way wsX6_way rmX6_way 2 := ⟨_, _, _, _, gT_X6_way, rfl, rfl, rfl, by decide +kernel, ⟨by decide, by decide⟩⟩
set_option maxRecDepth 20000 in
theorem vL_38 : KV kL 38 RX5 yX5_often wsX5_often rmX5_often 4 := ⟨_, _, _, _, gT_X5_often, rfl, rfl, rfl, by decide +kernel, ⟨by decide, by decide⟩⟩
set_option maxRecDepth 20000 in
theorem vL_42 : KV kL 42 RX6 yX6_often wsX6_often rmX6_often 4 := ⟨_, _, _, _, gT_X6_often, rfl, rfl, rfl, by decide +kernel, ⟨by decide, by decide⟩⟩
set_option maxRecDepth 20000 in
theorem vL_43 : KV kL 43 RX5 yX5_bag wsX5_bag rmX5_bag 6 := ⟨_, _, _, _, gT_X5_bag, rfl, rfl, rfl, by decide +kernel, ⟨by decide, by decide⟩⟩
set_option maxRecDepth 20000 in
theorem vL_47 : KV kL 47 RX6 yX6_bag_ wsX6_bag_ rmX6_bag_ 6 := ⟨_, _, _, _, gT_X6_bag_, rfl, rfl, rfl, by decide +kernel, ⟨by decide, by decide⟩⟩
set_option maxRecDepth 20000 in
theorem vL_48 : KV kL 48 RX5 yX5_about wsX5_about rmX5_about 2 := ⟨_, _, _, _, gT_X5_about, rfl, rfl, rfl, by decide +kernel, ⟨by decide, by decide⟩⟩
set_option maxRecDepth 20000 in
theorem vL_52 : KV kL 52 RX6 yX6_about wsX6_about rmX6_about 2 := ⟨_, _, _, _, gT_X6_about, rfl, rfl, rfl, by decide +kernel, ⟨by decide, by decide⟩⟩
set_option maxRecDepth 20000 in
theorem vL_53 : KV kL 53 RX5 yX5_look wsX5_look rmX5_look 6 := ⟨_, _, _, _, gT_X5_look, rfl, rfl, rfl, by decide +kernel, ⟨by decide, by decide⟩⟩
set_option maxRecDepth 20000 in
theorem vL_56 : KV kL 56 RX6 yX6_look wsX6_look rmX6_look 6 := ⟨_, _, _, _, gT_X6_look, rfl, rfl, rfl, by decide +kernel, ⟨by decide, by decide⟩⟩
set_option maxRecDepth 20000 in
theorem vL_57 : KV kL 57 RX5 yX5_seldom wsX5_seldom rmX5_seldom 5 := ⟨_, _, _, _, gT_X5_seldom, rfl, rfl, rfl, by decide +kernel, ⟨by decide, by decide⟩⟩
set_option maxRecDepth 20000 in
theorem vL_61 : KV kL 61 RX6 yX6_seldom wsX6_seldom rmX6_seldom 5 := ⟨_, _, _, _, gT_X6_seldom, rfl, rfl, rfl, by decide +kernel, ⟨by decide, by decide⟩⟩
set_option maxRecDepth 20000 in
theorem vL_62 : KV kL 62 RX5 yX5_counted wsX5_counted rmX5_counted 1 := ⟨_, _, _, _, gT_X5_counted, rfl, rfl, rfl, by decide +kernel, ⟨by decide, by decide⟩⟩
set_option maxRecDepth 20000 in
theorem vL_66 : KV kL 66 RX6 yX6_counted wsX6_counted rmX6_counted 1 := ⟨_, _, _, _, gT_X6_counted, rfl, rfl, rfl, by decide +kernel, ⟨by decide, by decide⟩⟩
set_option maxRecDepth 20000 in
theorem vL_67 : KV kL 67 RX5 yX5_likely wsX5_likely rmX5_likely 3 := ⟨_, _, _, _, gT_X5_likely, rfl, rfl, rfl, by decide +kernel, ⟨by decide, by decide⟩⟩
set_option maxRecDepth 20000 in
theorem vL_71 : KV kL 71 RX6 yX6_likely wsX6_likely rmX6_likely 3 := ⟨_, _, _, _, gT_X6_likely, rfl, rfl, rfl, by decide +kernel, ⟨by decide, by decide⟩⟩
set_option maxRecDepth 20000 in
theorem vL_72 : KV kL 72 RX5 yX5_belief wsX5_belief rmX5_belief 2 := ⟨_, _, _, _, gT_X5_belief, rfl, rfl, rfl, by decide +kernel, ⟨by decide, by decide⟩⟩
set_option maxRecDepth 20000 in
theorem vL_75 : KV kL 75 RX6 yX6_belief wsX6_belief rmX6_belief 2 := ⟨_, _, _, _, gT_X6_belief, rfl, rfl, rfl, by decide +kernel, ⟨by decide, by decide⟩⟩
set_option maxRecDepth 20000 in
theorem vL_76 : KV kL 76 RX5 yX5_odds wsX5_odds rmX5_odds 3 := ⟨_, _, _, _, gT_X5_odds, rfl, rfl, rfl, by decide +kernel, ⟨by decide, by decide⟩⟩
set_option maxRecDepth 20000 in
theorem vL_79 : KV kL 79 RX6 yX6_odds wsX6_odds rmX6_odds 3 := ⟨_, _, _, _, gT_X6_odds, rfl, rfl, rfl, by decide +kernel, ⟨by decide, by decide⟩⟩
set_option maxRecDepth 20000 in
theorem vL_80 : KV kL 80 RX5 yX5_judged wsX5_judged rmX5_judged 1 := ⟨_, _, _, _, gT_X5_judged, rfl, rfl, rfl, by decide +kernel, ⟨by decide, by decide⟩⟩
set_option maxRecDepth 20000 in
theorem vL_84 : KV kL 84 RX6 yX6_judged wsX6_judged rmX6_judged 1 := ⟨_, _, _, _, gT_X6_judged, rfl, rfl, rfl, by decide +kernel, ⟨by decide, by decide⟩⟩
set_option maxRecDepth 20000 in
theorem vL_85 : KV kL 85 RX5 yX5_apart wsX5_apart rmX5_apart 4 := ⟨_, _, _, _, gT_X5_apart, rfl, rfl, rfl, by decide +kernel, ⟨by decide, by decide⟩⟩
set_option maxRecDepth 20000 in
theorem vL_88 : KV kL 88 RX6 yX6_apart wsX6_apart rmX6_apart 4 := ⟨_, _, _, _, gT_X6_apart, rfl, rfl, rfl, by decide +kernel, ⟨by decide, by decide⟩⟩
set_option maxRecDepth 20000 in
theorem vL_89 : KV kL 89 RX5 yX5_follow wsX5_follow rmX5_follow 3 := ⟨_, _, _, _, gT_X5_follow, rfl, rfl, rfl, by decide +kernel, ⟨by decide, by decide⟩⟩
set_option maxRecDepth 20000 in
theorem vL_93 : KV kL 93 RX6 yX6_follow wsX6_follow rmX6_follow 3 := ⟨_, _, _, _, gT_X6_follow, rfl, rfl, rfl, by decide +kernel, ⟨by decide, by decide⟩⟩
set_option maxRecDepth 20000 in
theorem vL_94 : KV kL 94 RX5 yX5_bar wsX5_bar rmX5_bar 2 := ⟨_, _, _, _, gT_X5_bar, rfl, rfl, rfl, by decide +kernel, ⟨by decide, by decide⟩⟩
set_option maxRecDepth 20000 in
theorem vL_97 : KV kL 97 RX6 yX6_bar wsX6_bar rmX6_bar 2 := ⟨_, _, _, _, gT_X6_bar, rfl, rfl, rfl, by decide +kernel, ⟨by decide, by decide⟩⟩
set_option maxRecDepth 20000 in
theorem vL_98 : KV kL 98 RX5 yX5_done wsX5_done rmX5_done 2 := ⟨_, _, _, _, gT_X5_done, rfl, rfl, rfl, by decide +kernel, ⟨by decide, by decide⟩⟩
set_option maxRecDepth 20000 in
theorem vL_101 : KV kL 101 RX6 yX6_done wsX6_done rmX6_done 2 := ⟨_, _, _, _, gT_X6_done, rfl, rfl, rfl, by decide +kernel, ⟨by decide, by decide⟩⟩
set_option maxRecDepth 20000 in
theorem vL_102 : KV kL 102 RX5 yX5_cost wsX5_cost rmX5_cost 2 := ⟨_, _, _, _, gT_X5_cost, rfl, rfl, rfl, by decide +kernel, ⟨by decide, by decide⟩⟩
set_option maxRecDepth 20000 in
theorem vL_105 : KV kL 105 RX6 yX6_cost wsX6_cost rmX6_cost 2 := ⟨_, _, _, _, gT_X6_cost, rfl, rfl, rfl, by decide +kernel, ⟨by decide, by decide⟩⟩
set_option maxRecDepth 20000 in
theorem vL_106 : KV kL 106 RX5 yX5_enough wsX5_enough rmX5_enough 1 := ⟨_, _, _, _, gT_X5_enough, rfl, rfl, rfl, by decide +kernel, ⟨by decide, by decide⟩⟩
set_option maxRecDepth 20000 in
theorem vL_109 : KV kL 109 RX6 yX6_enough wsX6_enough rmX6_enough 1 := ⟨_, _, _, _, gT_X6_enough, rfl, rfl, rfl, by decide +kernel, ⟨by decide, by decide⟩⟩
set_option maxRecDepth 20000 in
theorem vL_110 : KV kL 110 RX5 yX5_year wsX5_year rmX5_year 3 := ⟨_, _, _, _, gT_X5_year, rfl, rfl, rfl, by decide +kernel, ⟨by decide, by decide⟩⟩
set_option maxRecDepth 20000 in
theorem vL_113 : KV kL 113 RX6 yX6_year wsX6_year rmX6_year 3 := ⟨_, _, _, _, gT_X6_year, rfl, rfl, rfl, by decide +kernel, ⟨by decide, by decide⟩⟩
set_option maxRecDepth 20000 in
theorem vL_114 : KV kL 114 RX5 yX5_truly wsX5_truly rmX5_truly 2 := ⟨_, _, _, _, gT_X5_truly, rfl, rfl, rfl, by decide +kernel, ⟨by decide, by decide⟩⟩
set_option maxRecDepth 20000 in
theorem vL_117 : KV kL 117 RX6 yX6_truly wsX6_truly rmX6_truly 2 := ⟨_, _, _, _, gT_X6_truly, rfl, rfl, rfl, by decide +kernel, ⟨by decide, by decide⟩⟩
set_option maxRecDepth 20000 in
theorem vL_118 : KV kL 118 RX5 yX5_cheap wsX5_cheap rmX5_cheap 0 := ⟨_, _, _, _, gT_X5_cheap, rfl, rfl, rfl, by decide +kernel, ⟨by decide, by decide⟩⟩
set_option maxRecDepth 20000 in
theorem vL_121 : KV kL 121 RX6 yX6_cheap wsX6_cheap rmX6_cheap 0 := ⟨_, _, _, _, gT_X6_cheap, rfl, rfl, rfl, by decide +kernel, ⟨by decide, by decide⟩⟩
set_option maxRecDepth 20000 in
theorem vL_122 : KV kL 122 RX5 yX5_favoured wsX5_favoured rmX5_favoured 1 := ⟨_, _, _, _, gT_X5_favoured, rfl, rfl, rfl, by decide +kernel, ⟨by decide, by decide⟩⟩
set_option maxRecDepth 20000 in
theorem vL_125 : KV kL 125 RX6 yX6_favoured wsX6_favoured rmX6_favoured 1 := ⟨_, _, _, _, gT_X6_favoured, rfl, rfl, rfl, by decide +kernel, ⟨by decide, by decide⟩⟩
set_option maxRecDepth 20000 in
theorem vL_126 : KV kL 126 RX5 yX5_even wsX5_even rmX5_even 2 := ⟨_, _, _, _, gT_X5_even, rfl, rfl, rfl, by decide +kernel, ⟨by decide, by decide⟩⟩
set_option maxRecDepth 20000 in
theorem vL_129 : KV kL 129 RX6 yX6_even wsX6_even rmX6_even 2 := ⟨_, _, _, _, gT_X6_even, rfl, rfl, rfl, by decide +kernel, ⟨by decide, by decide⟩⟩
set_option maxRecDepth 20000 in
theorem vL_130 : KV kL 130 RX5 yX5_trial wsX5_trial rmX5_trial 4 := ⟨_, _, _, _, gT_X5_trial, rfl, rfl, rfl, by decide +kernel, ⟨by decide, by decide⟩⟩
set_option maxRecDepth 20000 in
theorem vL_133 : KV kL 133 RX6 yX6_trial wsX6_trial rmX6_trial 4 := ⟨_, _, _, _, gT_X6_trial, rfl, rfl, rfl, by decide +kernel, ⟨by decide, by decide⟩⟩
set_option maxRecDepth 20000 in
theorem vL_134 : KV kL 134 RX5 yX5_middle wsX5_middle rmX5_middle 1 := ⟨_, _, _, _, gT_X5_middle, rfl, rfl, rfl, by decide +kernel, ⟨by decide, by decide⟩⟩
set_option maxRecDepth 20000 in
theorem vL_137 : KV kL 137 RX6 yX6_middle wsX6_middle rmX6_middle 1 := ⟨_, _, _, _, gT_X6_middle, rfl, rfl, rfl, by decide +kernel, ⟨by decide, by decide⟩⟩
set_option maxRecDepth 20000 in
theorem vL_138 : KV kL 138 RX5 yX5_drift wsX5_drift rmX5_drift 2 := ⟨_, _, _, _, gT_X5_drift, rfl, rfl, rfl, by decide +kernel, ⟨by decide, by decide⟩⟩
set_option maxRecDepth 20000 in
theorem vL_141 : KV kL 141 RX6 yX6_drift wsX6_drift rmX6_drift 2 := ⟨_, _, _, _, gT_X6_drift, rfl, rfl, rfl, by decide +kernel, ⟨by decide, by decide⟩⟩
set_option maxRecDepth 20000 in
theorem vL_142 : KV kL 142 RX5 yX5_lot wsX5_lot rmX5_lot 1 := ⟨_, _, _, _, gT_X5_lot, rfl, rfl, rfl, by decide +kernel, ⟨by decide, by decide⟩⟩
set_option maxRecDepth 20000 in
theorem vL_145 : KV kL 145 RX6 yX6_lot wsX6_lot rmX6_lot 1 := ⟨_, _, _, _, gT_X6_lot, rfl, rfl, rfl, by decide +kernel, ⟨by decide, by decide⟩⟩
set_option maxRecDepth 20000 in
theorem vL_146 : KV kL 146 RX5 yX5_sales wsX5_sales rmX5_sales 4 := ⟨_, _, _, _, gT_X5_sales, rfl, rfl, rfl, by decide +kernel, ⟨by decide, by decide⟩⟩
set_option maxRecDepth 20000 in
theorem vL_149 : KV kL 149 RX6 yX6_sales wsX6_sales rmX6_sales 4 := ⟨_, _, _, _, gT_X6_sales, rfl, rfl, rfl, by decide +kernel, ⟨by decide, by decide⟩⟩
set_option maxRecDepth 20000 in
theorem vL_150 : KV kL 150 RX5 yX5_steps wsX5_steps rmX5_steps 0 := ⟨_, _, _, _, gT_X5_steps, rfl, rfl, rfl, by decide +kernel, ⟨by decide, by decide⟩⟩
set_option maxRecDepth 20000 in
theorem vL_153 : KV kL 153 RX6 yX6_steps wsX6_steps rmX6_steps 0 := ⟨_, _, _, _, gT_X6_steps, rfl, rfl, rfl, by decide +kernel, ⟨by decide, by decide⟩⟩
set_option maxRecDepth 20000 in
theorem vL_154 : KV kL 154 RX5 yX5_score wsX5_score rmX5_score 2 := ⟨_, _, _, _, gT_X5_score, rfl, rfl, rfl, by decide +kernel, ⟨by decide, by decide⟩⟩
set_option maxRecDepth 20000 in
theorem vL_157 : KV kL 157 RX6 yX6_score wsX6_score rmX6_score 2 := ⟨_, _, _, _, gT_X6_score, rfl, rfl, rfl, by decide +kernel, ⟨by decide, by decide⟩⟩
set_option maxRecDepth 20000 in
theorem vL_158 : KV kL 158 RX5 yX5_keep wsX5_keep rmX5_keep 1 := ⟨_, _, _, _, gT_X5_keep, rfl, rfl, rfl, by decide +kernel, ⟨by decide, by decide⟩⟩
set_option maxRecDepth 20000 in
theorem vL_161 : KV kL 161 RX6 yX6_keep wsX6_keep rmX6_keep 1 := ⟨_, _, _, _, gT_X6_keep, rfl, rfl, rfl, by decide +kernel, ⟨by decide, by decide⟩⟩
set_option maxRecDepth 20000 in
theorem vL_162 : KV kL 162 RX5 yX5_back wsX5_back rmX5_back 1 := ⟨_, _, _, _, gT_X5_back, rfl, rfl, rfl, by decide +kernel, ⟨by decide, by decide⟩⟩
set_option maxRecDepth 20000 in
theorem vL_165 : KV kL 165 RX6 yX6_back wsX6_back rmX6_back 1 := ⟨_, _, _, _, gT_X6_back, rfl, rfl, rfl, by decide +kernel, ⟨by decide, by decide⟩⟩
set_option maxRecDepth 20000 in
theorem vL_166 : KV kL 166 RX5 yX5_count wsX5_count rmX5_count 1 := ⟨_, _, _, _, gT_X5_count, rfl, rfl, rfl, by decide +kernel, ⟨by decide, by decide⟩⟩
set_option maxRecDepth 20000 in
theorem vL_169 : KV kL 169 RX6 yX6_count wsX6_count rmX6_count 1 := ⟨_, _, _, _, gT_X6_count, rfl, rfl, rfl, by decide +kernel, ⟨by decide, by decide⟩⟩
set_option maxRecDepth 20000 in
theorem vL_170 : KV kL 170 RX5 yX5_trace wsX5_trace rmX5_trace 0 := ⟨_, _, _, _, gT_X5_trace, rfl, rfl, rfl, by decide +kernel, ⟨by decide, by decide⟩⟩
set_option maxRecDepth 20000 in
theorem vL_174 : KV kL 174 RX6 yX6_trace wsX6_trace rmX6_trace 0 := ⟨_, _, _, _, gT_X6_trace, rfl, rfl, rfl, by decide +kernel, ⟨by decide, by decide⟩⟩
def Sim_type (Rel : ST → SO → Prop) (F : Nat) : Prop := ∀ (t : ST) (u : SO) (a1 : Int64) (a2 : Int32), Rel t u → ∃ (r : Int32) (t2 : ST) (u2 : SO), f_X5_type F t a1 a2 = some (r, t2) ∧ f_X6_type F u a1 a2 = some (r, u2) ∧ Rel t2 u2
def Sim_clear (Rel : ST → SO → Prop) (F : Nat) : Prop := ∀ (t : ST) (u : SO), Rel t u → ∃ (r : Int32) (t2 : ST) (u2 : SO), f_X5_clear F t = some (r, t2) ∧ f_X6_clear F u = some (r, u2) ∧ Rel t2 u2
def Sim_market (Rel : ST → SO → Prop) (F : Nat) : Prop := ∀ (t : ST) (u : SO), Rel t u → ∃ (r : Int32) (t2 : ST) (u2 : SO), f_X5_market F t = some (r, t2) ∧ f_X6_market F u = some (r, u2) ∧ Rel t2 u2
def Sim_stall (Rel : ST → SO → Prop) (F : Nat) : Prop := ∀ (t : ST) (u : SO) (a1 : Int32) (a2 : Int32), Rel t u → ∃ (r : Int32) (u2 : SO), f_X5_stall F t a1 a2 = some r ∧ f_X6_stall F u a1 a2 = some (r, u2) ∧ Rel t u2
def Sim_way (Rel : ST → SO → Prop) (F : Nat) : Prop := ∀ (t : ST) (u : SO) (a1 : Int32) (a2 : Int32), Rel t u → ∃ (r : Int32) (u2 : SO), f_X5_way F t a1 a2 = some r ∧ f_X6_way F u a1 a2 = some (r, u2) ∧ Rel t u2
def Sim_often (Rel : ST → SO → Prop) (F : Nat) : Prop := ∀ (t : ST) (u : SO) (a1 : Int32) (a2 : Int32) (a3 : Int32) (a4 : Int32), Rel t u → ∃ (r : Int32) (u2 : SO), f_X5_often F t a1 a2 a3 a4 = some r ∧ f_X6_often F u a1 a2 a3 a4 = some (r, u2) ∧ Rel t u2
def Sim_bag (Rel : ST → SO → Prop) (F : Nat) : Prop := ∀ (t : ST) (u : SO) (a1 : Int32) (a2 : Int32) (a3 : Int32) (a4 : Int32) (a5 : Int32) (a6 : Int32), Rel t u → ∃ (r : Int32) (t2 : ST) (u2 : SO), f_X5_bag F t a1 a2 a3 a4 a5 a6 = some (r, t2) ∧ f_X6_bag_ F u a1 a2 a3 a4 a5 a6 = some (r, u2) ∧ Rel t2 u2
def Sim_about (Rel : ST → SO → Prop) (F : Nat) : Prop := ∀ (t : ST) (u : SO) (a1 : Int32) (a2 : Int32), Rel t u → ∃ (r : Int64) (u2 : SO), f_X5_about F t a1 a2 = some r ∧ f_X6_about F u a1 a2 = some (r, u2) ∧ Rel t u2
def Sim_look (Rel : ST → SO → Prop) (F : Nat) : Prop := ∀ (t : ST) (u : SO) (a1 : Int32) (a2 : Int32) (a3 : Int32) (a4 : Int32) (a5 : Int32) (a6 : Int32), Rel t u → ∃ (r : Int32) (u2 : SO), f_X5_look F t a1 a2 a3 a4 a5 a6 = some r ∧ f_X6_look F u a1 a2 a3 a4 a5 a6 = some (r, u2) ∧ Rel t u2
def Sim_seldom (Rel : ST → SO → Prop) (F : Nat) : Prop := ∀ (t : ST) (u : SO) (a1 : Int32) (a2 : Int32) (a3 : Int32) (a4 : Int32) (a5 : Int32), Rel t u → ∃ (r : Int64) (t2 : ST) (u2 : SO), f_X5_seldom F t a1 a2 a3 a4 a5 = some (r, t2) ∧ f_X6_seldom F u a1 a2 a3 a4 a5 = some (r, u2) ∧ Rel t2 u2
def Sim_counted (Rel : ST → SO → Prop) (F : Nat) : Prop := ∀ (t : ST) (u : SO) (a1 : Int32), Rel t u → ∃ (r : Int64) (u2 : SO), f_X5_counted F t a1 = some r ∧ f_X6_counted F u a1 = some (r, u2) ∧ Rel t u2
def Sim_likely (Rel : ST → SO → Prop) (F : Nat) : Prop := ∀ (t : ST) (u : SO) (a1 : Int32) (a2 : Int32) (a3 : Int32), Rel t u → ∃ (r : Int64) (u2 : SO), f_X5_likely F t a1 a2 a3 = some r ∧ f_X6_likely F u a1 a2 a3 = some (r, u2) ∧ Rel t u2
def Sim_belief (Rel : ST → SO → Prop) (F : Nat) : Prop := ∀ (t : ST) (u : SO) (a1 : Int32) (a2 : Int32), Rel t u → ∃ (r : Int32) (t2 : ST) (u2 : SO), f_X5_belief F t a1 a2 = some (r, t2) ∧ f_X6_belief F u a1 a2 = some (r, u2) ∧ Rel t2 u2
def Sim_odds (Rel : ST → SO → Prop) (F : Nat) : Prop := ∀ (t : ST) (u : SO) (a1 : Int32) (a2 : Int32) (a3 : Int32), Rel t u → ∃ (r : Int64) (u2 : SO), f_X5_odds F t a1 a2 a3 = some r ∧ f_X6_odds F u a1 a2 a3 = some (r, u2) ∧ Rel t u2
def Sim_judged (Rel : ST → SO → Prop) (F : Nat) : Prop := ∀ (t : ST) (u : SO) (a1 : Int32), Rel t u → ∃ (r : Int32) (u2 : SO), f_X5_judged F t a1 = some r ∧ f_X6_judged F u a1 = some (r, u2) ∧ Rel t u2
def Sim_apart (Rel : ST → SO → Prop) (F : Nat) : Prop := ∀ (t : ST) (u : SO) (a1 : Int32) (a2 : Int32) (a3 : Int32) (a4 : Int32), Rel t u → ∃ (r : Int32) (u2 : SO), f_X5_apart F t a1 a2 a3 a4 = some r ∧ f_X6_apart F u a1 a2 a3 a4 = some (r, u2) ∧ Rel t u2
def Sim_follow (Rel : ST → SO → Prop) (F : Nat) : Prop := ∀ (t : ST) (u : SO) (a1 : Int32) (a2 : Int32) (a3 : Int32), Rel t u → ∃ (r : Int32) (u2 : SO), f_X5_follow F t a1 a2 a3 = some r ∧ f_X6_follow F u a1 a2 a3 = some (r, u2) ∧ Rel t u2
def Sim_bar (Rel : ST → SO → Prop) (F : Nat) : Prop := ∀ (t : ST) (u : SO) (a1 : Int32) (a2 : Int32), Rel t u → ∃ (r : Int32) (t2 : ST) (u2 : SO), f_X5_bar F t a1 a2 = some (r, t2) ∧ f_X6_bar F u a1 a2 = some (r, u2) ∧ Rel t2 u2
def Sim_done (Rel : ST → SO → Prop) (F : Nat) : Prop := ∀ (t : ST) (u : SO) (a1 : Int32) (a2 : Int32), Rel t u → ∃ (r : Int32) (u2 : SO), f_X5_done F t a1 a2 = some r ∧ f_X6_done F u a1 a2 = some (r, u2) ∧ Rel t u2
def Sim_cost (Rel : ST → SO → Prop) (F : Nat) : Prop := ∀ (t : ST) (u : SO) (a1 : Int32) (a2 : Int32), Rel t u → ∃ (r : Int64) (u2 : SO), f_X5_cost F t a1 a2 = some r ∧ f_X6_cost F u a1 a2 = some (r, u2) ∧ Rel t u2
def Sim_enough (Rel : ST → SO → Prop) (F : Nat) : Prop := ∀ (t : ST) (u : SO) (a1 : Int32), Rel t u → ∃ (r : Int32) (u2 : SO), f_X5_enough F t a1 = some r ∧ f_X6_enough F u a1 = some (r, u2) ∧ Rel t u2
def Sim_year (Rel : ST → SO → Prop) (F : Nat) : Prop := ∀ (t : ST) (u : SO) (a1 : Int32) (a2 : Int32) (a3 : Int32), Rel t u → ∃ (r : Int64) (u2 : SO), f_X5_year F t a1 a2 a3 = some r ∧ f_X6_year F u a1 a2 a3 = some (r, u2) ∧ Rel t u2
def Sim_truly (Rel : ST → SO → Prop) (F : Nat) : Prop := ∀ (t : ST) (u : SO) (a1 : Int32) (a2 : Int32), Rel t u → ∃ (r : Int64) (u2 : SO), f_X5_truly F t a1 a2 = some r ∧ f_X6_truly F u a1 a2 = some (r, u2) ∧ Rel t u2
def Sim_cheap (Rel : ST → SO → Prop) (F : Nat) : Prop := ∀ (t : ST) (u : SO), Rel t u → ∃ (r : Int32) (u2 : SO), f_X5_cheap F t = some r ∧ f_X6_cheap F u = some (r, u2) ∧ Rel t u2
def Sim_favoured (Rel : ST → SO → Prop) (F : Nat) : Prop := ∀ (t : ST) (u : SO) (a1 : Int32), Rel t u → ∃ (r : Int32) (u2 : SO), f_X5_favoured F t a1 = some r ∧ f_X6_favoured F u a1 = some (r, u2) ∧ Rel t u2
def Sim_even (Rel : ST → SO → Prop) (F : Nat) : Prop := ∀ (t : ST) (u : SO) (a1 : Int32) (a2 : Int32), Rel t u → ∃ (r : Int64) (t2 : ST) (u2 : SO), f_X5_even F t a1 a2 = some (r, t2) ∧ f_X6_even F u a1 a2 = some (r, u2) ∧ Rel t2 u2
def Sim_trial (Rel : ST → SO → Prop) (F : Nat) : Prop := ∀ (t : ST) (u : SO) (a1 : Int32) (a2 : Int32) (a3 : Int32) (a4 : Int32), Rel t u → ∃ (r : Int32) (t2 : ST) (u2 : SO), f_X5_trial F t a1 a2 a3 a4 = some (r, t2) ∧ f_X6_trial F u a1 a2 a3 a4 = some (r, u2) ∧ Rel t2 u2
def Sim_middle (Rel : ST → SO → Prop) (F : Nat) : Prop := ∀ (t : ST) (u : SO) (a1 : Int32), Rel t u → ∃ (r : Int64) (t2 : ST) (u2 : SO), f_X5_middle F t a1 = some (r, t2) ∧ f_X6_middle F u a1 = some (r, u2) ∧ Rel t2 u2
def Sim_drift (Rel : ST → SO → Prop) (F : Nat) : Prop := ∀ (t : ST) (u : SO) (a1 : Int32) (a2 : Int32), Rel t u → ∃ (r : Int64) (u2 : SO), f_X5_drift F t a1 a2 = some r ∧ f_X6_drift F u a1 a2 = some (r, u2) ∧ Rel t u2
def Sim_lot (Rel : ST → SO → Prop) (F : Nat) : Prop := ∀ (t : ST) (u : SO) (a1 : Int32), Rel t u → ∃ (r : Int32) (t2 : ST) (u2 : SO), f_X5_lot F t a1 = some (r, t2) ∧ f_X6_lot F u a1 = some (r, u2) ∧ Rel t2 u2
def Sim_sales (Rel : ST → SO → Prop) (F : Nat) : Prop := ∀ (t : ST) (u : SO) (a1 : Int32) (a2 : Int32) (a3 : Int32) (a4 : Int32), Rel t u → ∃ (r : Int32) (t2 : ST) (u2 : SO), f_X5_sales F t a1 a2 a3 a4 = some (r, t2) ∧ f_X6_sales F u a1 a2 a3 a4 = some (r, u2) ∧ Rel t2 u2
def Sim_steps (Rel : ST → SO → Prop) (F : Nat) : Prop := ∀ (t : ST) (u : SO), Rel t u → ∃ (r : Int32) (u2 : SO), f_X5_steps F t = some r ∧ f_X6_steps F u = some (r, u2) ∧ Rel t u2
def Sim_score (Rel : ST → SO → Prop) (F : Nat) : Prop := ∀ (t : ST) (u : SO) (a1 : Int32) (a2 : Int32), Rel t u → ∃ (r : Int64) (t2 : ST) (u2 : SO), f_X5_score F t a1 a2 = some (r, t2) ∧ f_X6_score F u a1 a2 = some (r, u2) ∧ Rel t2 u2
def Sim_keep (Rel : ST → SO → Prop) (F : Nat) : Prop := ∀ (t : ST) (u : SO) (a1 : Int32), Rel t u → ∃ (r : Int32) (t2 : ST) (u2 : SO), f_X5_keep F t a1 = some (r, t2) ∧ f_X6_keep F u a1 = some (r, u2) ∧ Rel t2 u2
def Sim_back (Rel : ST → SO → Prop) (F : Nat) : Prop := ∀ (t : ST) (u : SO) (a1 : Int32), Rel t u → ∃ (r : Int32) (t2 : ST) (u2 : SO), f_X5_back F t a1 = some (r, t2) ∧ f_X6_back F u a1 = some (r, u2) ∧ Rel t2 u2
def Sim_count (Rel : ST → SO → Prop) (F : Nat) : Prop := ∀ (t : ST) (u : SO) (a1 : Int32), Rel t u → ∃ (r : Int32) (u2 : SO), f_X5_count F t a1 = some r ∧ f_X6_count F u a1 = some (r, u2) ∧ Rel t u2
def Sim_trace (Rel : ST → SO → Prop) (F : Nat) : Prop := ∀ (t : ST) (u : SO), Rel t u → ∃ (r : Int64) (u2 : SO), f_X5_trace F t = some r ∧ f_X6_trace F u = some (r, u2) ∧ Rel t u2
def Sims (Rel : ST → SO → Prop) (F : Nat) : Prop := Sim_type Rel F ∧ Sim_clear Rel F ∧ Sim_market Rel F ∧ Sim_stall Rel F ∧ Sim_way Rel F ∧ Sim_often Rel F ∧ Sim_bag Rel F ∧ Sim_about Rel F ∧ Sim_look Rel F ∧ Sim_seldom Rel F ∧ Sim_counted Rel F ∧ Sim_likely Rel F ∧ Sim_belief Rel F ∧ Sim_odds Rel F ∧ Sim_judged Rel F ∧ Sim_apart Rel F ∧ Sim_follow Rel F ∧ Sim_bar Rel F ∧ Sim_done Rel F ∧ Sim_cost Rel F ∧ Sim_enough Rel F ∧ Sim_year Rel F ∧ Sim_truly Rel F ∧ Sim_cheap Rel F ∧ Sim_favoured Rel F ∧ Sim_even Rel F ∧ Sim_trial Rel F ∧ Sim_middle Rel F ∧ Sim_drift Rel F ∧ Sim_lot Rel F ∧ Sim_sales Rel F ∧ Sim_steps Rel F ∧ Sim_score Rel F ∧ Sim_keep Rel F ∧ Sim_back Rel F ∧ Sim_count Rel F ∧ Sim_trace Rel F
set_option maxRecDepth 20000 in
theorem qL_13 : Cond.constantLong RL 13 4294967295 ∈ lw_tbl := List.mem_of_getElem? (i := 1275) rfl
set_option maxHeartbeats 4000000 in
set_option maxRecDepth 100000 in
theorem law_case_type {E : GE} {cs : CS} {P : XP} {ad1 ad2 : Nat → Nat} {b L i F : Nat} {xs : Nat → Int32} {Rel : ST → SO → Prop} {t : ST} {u : SO} (S : Sim_type Rel F) (hty : eT E = tyA cs) (hN : eX E = XS P) (hL : LX E b L xs) (hLb : L ≤ 3584) (hi : i + 7 ≤ L) (hR : Rel t u) (next : ∀ (t : ST) (u : SO), Rel t u → G E kL 76 3678 1504 [(0, .ref b), (1, .ref (ad1 0)), (2, .ref (ad2 0)), (3, .int (nI i))] [] (wT cs ad1 t ++ wO cs ad2 u)) : G E kL 76 3678 196 [(0, .ref b), (1, .ref (ad1 0)), (2, .ref (ad2 0)), (3, .int (nI i))] [] (wT cs ad1 t ++ wO cs ad2 u) := by
  obtain ⟨r, t2, u2, h1, h2, hR2⟩ := S t u (((Int32.toInt64 (xs (Int32.toNatClampNeg (nI i + 1)))) <<< (Int32.toInt64 32 &&& 63)) ||| ((Int32.toInt64 (xs (Int32.toNatClampNeg (nI i + 2)))) &&& 4294967295)) (xs (Int32.toNatClampNeg (nI i + 3))) hR
  refine g_aload_n 1 dL_law_196 rfl rfl ?_
  refine g_aload_n 0 dL_law_197 rfl rfl ?_
  refine g_iload_n 3 dL_law_198 rfl rfl ?_
  refine g_iconst (v := 1) dL_law_199 (by decide) ?_
  refine g_iadd dL_law_200 ?_
  refine g_sld hL dL_law_201 (vin_off (k := 1) rfl (by omega) hLb) ?_
  refine g_i2l dL_law_202 ?_
  refine g_bipush (v := 32) dL_law_203 (by decide) ?_
  refine g_lshl dL_law_205 ?_
  refine g_aload_n 0 dL_law_206 rfl rfl ?_
  refine g_iload_n 3 dL_law_207 rfl rfl ?_
  refine g_iconst (v := 2) dL_law_208 (by decide) ?_
  refine g_iadd dL_law_209 ?_
  refine g_sld hL dL_law_210 (vin_off (k := 2) rfl (by omega) hLb) ?_
  refine g_i2l dL_law_211 ?_
  refine g_ldc2 (v := 4294967295) dL_law_212 qL_13 ?_
  refine g_land dL_law_215 ?_
  refine g_lor dL_law_216 ?_
  refine g_aload_n 0 dL_law_217 rfl rfl ?_
  refine g_iload_n 3 dL_law_218 rfl rfl ?_
  refine g_iconst (v := 3) dL_law_219 (by decide) ?_
  refine g_iadd dL_law_220 ?_
  refine g_sld hL dL_law_221 (vin_off (k := 3) rfl (by omega) hLb) ?_
  refine g_callVi (ci := 5) (As := [.long (((Int32.toInt64 (xs (Int32.toNatClampNeg (nI i + 1)))) <<< (Int32.toInt64 32 &&& 63)) ||| ((Int32.toInt64 (xs (Int32.toNatClampNeg (nI i + 2)))) &&& 4294967295)), .int (xs (Int32.toNatClampNeg (nI i + 3)))]) (rest := []) (w2 := wT cs ad1 t2 ++ wO cs ad2 u) 0 dL_law_222 vL_15 (c_X5_type ad1 hty h1) rfl (midL _ _) rfl rfl 0 wlaT_0 rfl (Nat.le_of_ble_eq_true rfl) ⟨by decide, by decide⟩ (midL2 _ _ _) ?_
  refine g_aload_n 2 dL_law_225 rfl rfl ?_
  refine g_aload_n 0 dL_law_226 rfl rfl ?_
  refine g_iload_n 3 dL_law_227 rfl rfl ?_
  refine g_iconst (v := 1) dL_law_228 (by decide) ?_
  refine g_iadd dL_law_229 ?_
  refine g_sld hL dL_law_230 (vin_off (k := 1) rfl (by omega) hLb) ?_
  refine g_i2l dL_law_231 ?_
  refine g_bipush (v := 32) dL_law_232 (by decide) ?_
  refine g_lshl dL_law_234 ?_
  refine g_aload_n 0 dL_law_235 rfl rfl ?_
  refine g_iload_n 3 dL_law_236 rfl rfl ?_
  refine g_iconst (v := 2) dL_law_237 (by decide) ?_
  refine g_iadd dL_law_238 ?_
  refine g_sld hL dL_law_239 (vin_off (k := 2) rfl (by omega) hLb) ?_
  refine g_i2l dL_law_240 ?_
  refine g_ldc2 (v := 4294967295) dL_law_241 qL_13 ?_
  refine g_land dL_law_244 ?_
  refine g_lor dL_law_245 ?_
  refine g_aload_n 0 dL_law_246 rfl rfl ?_
  refine g_iload_n 3 dL_law_247 rfl rfl ?_
  refine g_iconst (v := 3) dL_law_248 (by decide) ?_
  refine g_iadd dL_law_249 ?_
  refine g_sld hL dL_law_250 (vin_off (k := 3) rfl (by omega) hLb) ?_
  refine g_callVi (ci := 6) (As := [.long (((Int32.toInt64 (xs (Int32.toNatClampNeg (nI i + 1)))) <<< (Int32.toInt64 32 &&& 63)) ||| ((Int32.toInt64 (xs (Int32.toNatClampNeg (nI i + 2)))) &&& 4294967295)), .int (xs (Int32.toNatClampNeg (nI i + 3)))]) (rest := [.int r]) (w2 := wT cs ad1 t2 ++ wO cs ad2 u2) 61 dL_law_251 vL_19 (c_X6_type ad2 hty h2) rfl (midR _ _ wT_len) rfl rfl 0 wlaO_0 rfl (Nat.le_of_ble_eq_true rfl) ⟨by decide, by decide⟩ (midR2 _ _ _ wT_len) ?_
  refine g_icmp_eq (tgt := 1504) dL_law_254 (by decide) (fun _ => ?_) (fun h => absurd rfl h)
  exact next t2 u2 hR2
set_option maxHeartbeats 4000000 in
set_option maxRecDepth 100000 in
theorem law_case_clear {E : GE} {cs : CS} {P : XP} {ad1 ad2 : Nat → Nat} {b L i F : Nat} {xs : Nat → Int32} {Rel : ST → SO → Prop} {t : ST} {u : SO} (S : Sim_clear Rel F) (hty : eT E = tyA cs) (hN : eX E = XS P) (hL : LX E b L xs) (hLb : L ≤ 3584) (hi : i + 7 ≤ L) (hR : Rel t u) (next : ∀ (t : ST) (u : SO), Rel t u → G E kL 76 3678 1504 [(0, .ref b), (1, .ref (ad1 0)), (2, .ref (ad2 0)), (3, .int (nI i))] [] (wT cs ad1 t ++ wO cs ad2 u)) : G E kL 76 3678 259 [(0, .ref b), (1, .ref (ad1 0)), (2, .ref (ad2 0)), (3, .int (nI i))] [] (wT cs ad1 t ++ wO cs ad2 u) := by
  obtain ⟨r, t2, u2, h1, h2, hR2⟩ := S t u hR
  refine g_aload_n 1 dL_law_259 rfl rfl ?_
  refine g_callVi (ci := 5) (As := []) (rest := []) (w2 := wT cs ad1 t2 ++ wO cs ad2 u) 0 dL_law_260 vL_20 (c_X5_clear ad1 hty h1) rfl (midL _ _) rfl rfl 0 wlaT_0 rfl (Nat.le_of_ble_eq_true rfl) ⟨by decide, by decide⟩ (midL2 _ _ _) ?_
  refine g_aload_n 2 dL_law_263 rfl rfl ?_
  refine g_callVi (ci := 6) (As := []) (rest := [.int r]) (w2 := wT cs ad1 t2 ++ wO cs ad2 u2) 61 dL_law_264 vL_24 (c_X6_clear ad2 hty h2) rfl (midR _ _ wT_len) rfl rfl 0 wlaO_0 rfl (Nat.le_of_ble_eq_true rfl) ⟨by decide, by decide⟩ (midR2 _ _ _ wT_len) ?_
  refine g_icmp_eq (tgt := 1504) dL_law_267 (by decide) (fun _ => ?_) (fun h => absurd rfl h)
  exact next t2 u2 hR2
set_option maxHeartbeats 4000000 in
set_option maxRecDepth 100000 in
theorem law_case_market {E : GE} {cs : CS} {P : XP} {ad1 ad2 : Nat → Nat} {b L i F : Nat} {xs : Nat → Int32} {Rel : ST → SO → Prop} {t : ST} {u : SO} (S : Sim_market Rel F) (hty : eT E = tyA cs) (hN : eX E = XS P) (hL : LX E b L xs) (hLb : L ≤ 3584) (hi : i + 7 ≤ L) (hR : Rel t u) (next : ∀ (t : ST) (u : SO), Rel t u → G E kL 76 3678 1504 [(0, .ref b), (1, .ref (ad1 0)), (2, .ref (ad2 0)), (3, .int (nI i))] [] (wT cs ad1 t ++ wO cs ad2 u)) : G E kL 76 3678 272 [(0, .ref b), (1, .ref (ad1 0)), (2, .ref (ad2 0)), (3, .int (nI i))] [] (wT cs ad1 t ++ wO cs ad2 u) := by
  obtain ⟨r, t2, u2, h1, h2, hR2⟩ := S t u hR
  refine g_aload_n 1 dL_law_272 rfl rfl ?_
  refine g_callVi (ci := 5) (As := []) (rest := []) (w2 := wT cs ad1 t2 ++ wO cs ad2 u) 0 dL_law_273 vL_25 (c_X5_market ad1 hty hN h1) rfl (midL _ _) rfl rfl 0 wlaT_0 rfl (Nat.le_of_ble_eq_true rfl) ⟨by decide, by decide⟩ (midL2 _ _ _) ?_
  refine g_aload_n 2 dL_law_276 rfl rfl ?_
  refine g_callVi (ci := 6) (As := []) (rest := [.int r]) (w2 := wT cs ad1 t2 ++ wO cs ad2 u2) 61 dL_law_277 vL_28 (c_X6_market ad2 hty h2) rfl (midR _ _ wT_len) rfl rfl 0 wlaO_0 rfl (Nat.le_of_ble_eq_true rfl) ⟨by decide, by decide⟩ (midR2 _ _ _ wT_len) ?_
  refine g_icmp_eq (tgt := 1504) dL_law_280 (by decide) (fun _ => ?_) (fun h => absurd rfl h)
  exact next t2 u2 hR2
set_option maxHeartbeats 4000000 in
set_option maxRecDepth 100000 in
theorem law_case_stall {E : GE} {cs : CS} {P : XP} {ad1 ad2 : Nat → Nat} {b L i F : Nat} {xs : Nat → Int32} {Rel : ST → SO → Prop} {t : ST} {u : SO} (S : Sim_stall Rel F) (hty : eT E = tyA cs) (hN : eX E = XS P) (hL : LX E b L xs) (hLb : L ≤ 3584) (hi : i + 7 ≤ L) (hR : Rel t u) (next : ∀ (t : ST) (u : SO), Rel t u → G E kL 76 3678 1504 [(0, .ref b), (1, .ref (ad1 0)), (2, .ref (ad2 0)), (3, .int (nI i))] [] (wT cs ad1 t ++ wO cs ad2 u)) : G E kL 76 3678 285 [(0, .ref b), (1, .ref (ad1 0)), (2, .ref (ad2 0)), (3, .int (nI i))] [] (wT cs ad1 t ++ wO cs ad2 u) := by
  obtain ⟨r, u2, h1, h2, hR2⟩ := S t u (xs (Int32.toNatClampNeg (nI i + 1))) (xs (Int32.toNatClampNeg (nI i + 2))) hR
  refine g_aload_n 1 dL_law_285 rfl rfl ?_
  refine g_aload_n 0 dL_law_286 rfl rfl ?_
  refine g_iload_n 3 dL_law_287 rfl rfl ?_
  refine g_iconst (v := 1) dL_law_288 (by decide) ?_
  refine g_iadd dL_law_289 ?_
  refine g_sld hL dL_law_290 (vin_off (k := 1) rfl (by omega) hLb) ?_
  refine g_aload_n 0 dL_law_291 rfl rfl ?_
  refine g_iload_n 3 dL_law_292 rfl rfl ?_
  refine g_iconst (v := 2) dL_law_293 (by decide) ?_
  refine g_iadd dL_law_294 ?_
  refine g_sld hL dL_law_295 (vin_off (k := 2) rfl (by omega) hLb) ?_
  refine g_callVi (ci := 5) (As := [.int (xs (Int32.toNatClampNeg (nI i + 1))), .int (xs (Int32.toNatClampNeg (nI i + 2)))]) (rest := []) (w2 := wT cs ad1 t ++ wO cs ad2 u) 0 dL_law_296 vL_29 (c_X5_stall ad1 hty h1) rfl (midL _ _) rfl rfl 0 wlaT_0 rfl (Nat.le_of_ble_eq_true rfl) ⟨by decide, by decide⟩ (midL2 _ _ _) ?_
  refine g_aload_n 2 dL_law_299 rfl rfl ?_
  refine g_aload_n 0 dL_law_300 rfl rfl ?_
  refine g_iload_n 3 dL_law_301 rfl rfl ?_
  refine g_iconst (v := 1) dL_law_302 (by decide) ?_
  refine g_iadd dL_law_303 ?_
  refine g_sld hL dL_law_304 (vin_off (k := 1) rfl (by omega) hLb) ?_
  refine g_aload_n 0 dL_law_305 rfl rfl ?_
  refine g_iload_n 3 dL_law_306 rfl rfl ?_
  refine g_iconst (v := 2) dL_law_307 (by decide) ?_
  refine g_iadd dL_law_308 ?_
  refine g_sld hL dL_law_309 (vin_off (k := 2) rfl (by omega) hLb) ?_
  refine g_callVi (ci := 6) (As := [.int (xs (Int32.toNatClampNeg (nI i + 1))), .int (xs (Int32.toNatClampNeg (nI i + 2)))]) (rest := [.int r]) (w2 := wT cs ad1 t ++ wO cs ad2 u2) 61 dL_law_310 vL_33 (c_X6_stall ad2 hty h2) rfl (midR _ _ wT_len) rfl rfl 0 wlaO_0 rfl (Nat.le_of_ble_eq_true rfl) ⟨by decide, by decide⟩ (midR2 _ _ _ wT_len) ?_
  refine g_icmp_eq (tgt := 1504) dL_law_313 (by decide) (fun _ => ?_) (fun h => absurd rfl h)
  exact next t u2 hR2
set_option maxHeartbeats 4000000 in
set_option maxRecDepth 100000 in
theorem law_case_way {E : GE} {cs : CS} {P : XP} {ad1 ad2 : Nat → Nat} {b L i F : Nat} {xs : Nat → Int32} {Rel : ST → SO → Prop} {t : ST} {u : SO} (S : Sim_way Rel F) (hty : eT E = tyA cs) (hN : eX E = XS P) (hL : LX E b L xs) (hLb : L ≤ 3584) (hi : i + 7 ≤ L) (hR : Rel t u) (next : ∀ (t : ST) (u : SO), Rel t u → G E kL 76 3678 1504 [(0, .ref b), (1, .ref (ad1 0)), (2, .ref (ad2 0)), (3, .int (nI i))] [] (wT cs ad1 t ++ wO cs ad2 u)) : G E kL 76 3678 318 [(0, .ref b), (1, .ref (ad1 0)), (2, .ref (ad2 0)), (3, .int (nI i))] [] (wT cs ad1 t ++ wO cs ad2 u) := by
  obtain ⟨r, u2, h1, h2, hR2⟩ := S t u (xs (Int32.toNatClampNeg (nI i + 1))) (xs (Int32.toNatClampNeg (nI i + 2))) hR
  refine g_aload_n 1 dL_law_318 rfl rfl ?_
  refine g_aload_n 0 dL_law_319 rfl rfl ?_
  refine g_iload_n 3 dL_law_320 rfl rfl ?_
  refine g_iconst (v := 1) dL_law_321 (by decide) ?_
  refine g_iadd dL_law_322 ?_
  refine g_sld hL dL_law_323 (vin_off (k := 1) rfl (by omega) hLb) ?_
  refine g_aload_n 0 dL_law_324 rfl rfl ?_
  refine g_iload_n 3 dL_law_325 rfl rfl ?_
  refine g_iconst (v := 2) dL_law_326 (by decide) ?_
  refine g_iadd dL_law_327 ?_
  refine g_sld hL dL_law_328 (vin_off (k := 2) rfl (by omega) hLb) ?_
  refine g_callVi (ci := 5) (As := [.int (xs (Int32.toNatClampNeg (nI i + 1))), .int (xs (Int32.toNatClampNeg (nI i + 2)))]) (rest := []) (w2 := wT cs ad1 t ++ wO cs ad2 u) 0 dL_law_329 vL_34 (c_X5_way ad1 hty h1) rfl (midL _ _) rfl rfl 0 wlaT_0 rfl (Nat.le_of_ble_eq_true rfl) ⟨by decide, by decide⟩ (midL2 _ _ _) ?_
  refine g_aload_n 2 dL_law_332 rfl rfl ?_
  refine g_aload_n 0 dL_law_333 rfl rfl ?_
  refine g_iload_n 3 dL_law_334 rfl rfl ?_
  refine g_iconst (v := 1) dL_law_335 (by decide) ?_
  refine g_iadd dL_law_336 ?_
  refine g_sld hL dL_law_337 (vin_off (k := 1) rfl (by omega) hLb) ?_
  refine g_aload_n 0 dL_law_338 rfl rfl ?_
  refine g_iload_n 3 dL_law_339 rfl rfl ?_
  refine g_iconst (v := 2) dL_law_340 (by decide) ?_
  refine g_iadd dL_law_341 ?_
  refine g_sld hL dL_law_342 (vin_off (k := 2) rfl (by omega) hLb) ?_
  refine g_callVi (ci := 6) (As := [.int (xs (Int32.toNatClampNeg (nI i + 1))), .int (xs (Int32.toNatClampNeg (nI i + 2)))]) (rest := [.int r]) (w2 := wT cs ad1 t ++ wO cs ad2 u2) 61 dL_law_343 vL_37 (c_X6_way ad2 hty h2) rfl (midR _ _ wT_len) rfl rfl 0 wlaO_0 rfl (Nat.le_of_ble_eq_true rfl) ⟨by decide, by decide⟩ (midR2 _ _ _ wT_len) ?_
  refine g_icmp_eq (tgt := 1504) dL_law_346 (by decide) (fun _ => ?_) (fun h => absurd rfl h)
  exact next t u2 hR2
set_option maxHeartbeats 4000000 in
set_option maxRecDepth 100000 in
theorem law_case_often {E : GE} {cs : CS} {P : XP} {ad1 ad2 : Nat → Nat} {b L i F : Nat} {xs : Nat → Int32} {Rel : ST → SO → Prop} {t : ST} {u : SO} (S : Sim_often Rel F) (hty : eT E = tyA cs) (hN : eX E = XS P) (hL : LX E b L xs) (hLb : L ≤ 3584) (hi : i + 7 ≤ L) (hR : Rel t u) (next : ∀ (t : ST) (u : SO), Rel t u → G E kL 76 3678 1504 [(0, .ref b), (1, .ref (ad1 0)), (2, .ref (ad2 0)), (3, .int (nI i))] [] (wT cs ad1 t ++ wO cs ad2 u)) : G E kL 76 3678 351 [(0, .ref b), (1, .ref (ad1 0)), (2, .ref (ad2 0)), (3, .int (nI i))] [] (wT cs ad1 t ++ wO cs ad2 u) := by
  obtain ⟨r, u2, h1, h2, hR2⟩ := S t u (xs (Int32.toNatClampNeg (nI i + 1))) (xs (Int32.toNatClampNeg (nI i + 2))) (xs (Int32.toNatClampNeg (nI i + 3))) (xs (Int32.toNatClampNeg (nI i + 4))) hR
  refine g_aload_n 1 dL_law_351 rfl rfl ?_
  refine g_aload_n 0 dL_law_352 rfl rfl ?_
  refine g_iload_n 3 dL_law_353 rfl rfl ?_
  refine g_iconst (v := 1) dL_law_354 (by decide) ?_
  refine g_iadd dL_law_355 ?_
  refine g_sld hL dL_law_356 (vin_off (k := 1) rfl (by omega) hLb) ?_
  refine g_aload_n 0 dL_law_357 rfl rfl ?_
  refine g_iload_n 3 dL_law_358 rfl rfl ?_
  refine g_iconst (v := 2) dL_law_359 (by decide) ?_
  refine g_iadd dL_law_360 ?_
  refine g_sld hL dL_law_361 (vin_off (k := 2) rfl (by omega) hLb) ?_
  refine g_aload_n 0 dL_law_362 rfl rfl ?_
  refine g_iload_n 3 dL_law_363 rfl rfl ?_
  refine g_iconst (v := 3) dL_law_364 (by decide) ?_
  refine g_iadd dL_law_365 ?_
  refine g_sld hL dL_law_366 (vin_off (k := 3) rfl (by omega) hLb) ?_
  refine g_aload_n 0 dL_law_367 rfl rfl ?_
  refine g_iload_n 3 dL_law_368 rfl rfl ?_
  refine g_iconst (v := 4) dL_law_369 (by decide) ?_
  refine g_iadd dL_law_370 ?_
  refine g_sld hL dL_law_371 (vin_off (k := 4) rfl (by omega) hLb) ?_
  refine g_callVi (ci := 5) (As := [.int (xs (Int32.toNatClampNeg (nI i + 1))), .int (xs (Int32.toNatClampNeg (nI i + 2))), .int (xs (Int32.toNatClampNeg (nI i + 3))), .int (xs (Int32.toNatClampNeg (nI i + 4)))]) (rest := []) (w2 := wT cs ad1 t ++ wO cs ad2 u) 0 dL_law_372 vL_38 (c_X5_often ad1 hty h1) rfl (midL _ _) rfl rfl 0 wlaT_0 rfl (Nat.le_of_ble_eq_true rfl) ⟨by decide, by decide⟩ (midL2 _ _ _) ?_
  refine g_aload_n 2 dL_law_375 rfl rfl ?_
  refine g_aload_n 0 dL_law_376 rfl rfl ?_
  refine g_iload_n 3 dL_law_377 rfl rfl ?_
  refine g_iconst (v := 1) dL_law_378 (by decide) ?_
  refine g_iadd dL_law_379 ?_
  refine g_sld hL dL_law_380 (vin_off (k := 1) rfl (by omega) hLb) ?_
  refine g_aload_n 0 dL_law_381 rfl rfl ?_
  refine g_iload_n 3 dL_law_382 rfl rfl ?_
  refine g_iconst (v := 2) dL_law_383 (by decide) ?_
  refine g_iadd dL_law_384 ?_
  refine g_sld hL dL_law_385 (vin_off (k := 2) rfl (by omega) hLb) ?_
  refine g_aload_n 0 dL_law_386 rfl rfl ?_
  refine g_iload_n 3 dL_law_387 rfl rfl ?_
  refine g_iconst (v := 3) dL_law_388 (by decide) ?_
  refine g_iadd dL_law_389 ?_
  refine g_sld hL dL_law_390 (vin_off (k := 3) rfl (by omega) hLb) ?_
  refine g_aload_n 0 dL_law_391 rfl rfl ?_
  refine g_iload_n 3 dL_law_392 rfl rfl ?_
  refine g_iconst (v := 4) dL_law_393 (by decide) ?_
  refine g_iadd dL_law_394 ?_
  refine g_sld hL dL_law_395 (vin_off (k := 4) rfl (by omega) hLb) ?_
  refine g_callVi (ci := 6) (As := [.int (xs (Int32.toNatClampNeg (nI i + 1))), .int (xs (Int32.toNatClampNeg (nI i + 2))), .int (xs (Int32.toNatClampNeg (nI i + 3))), .int (xs (Int32.toNatClampNeg (nI i + 4)))]) (rest := [.int r]) (w2 := wT cs ad1 t ++ wO cs ad2 u2) 61 dL_law_396 vL_42 (c_X6_often ad2 hty h2) rfl (midR _ _ wT_len) rfl rfl 0 wlaO_0 rfl (Nat.le_of_ble_eq_true rfl) ⟨by decide, by decide⟩ (midR2 _ _ _ wT_len) ?_
  refine g_icmp_eq (tgt := 1504) dL_law_399 (by decide) (fun _ => ?_) (fun h => absurd rfl h)
  exact next t u2 hR2
set_option maxHeartbeats 4000000 in
set_option maxRecDepth 100000 in
theorem law_case_bag {E : GE} {cs : CS} {P : XP} {ad1 ad2 : Nat → Nat} {b L i F : Nat} {xs : Nat → Int32} {Rel : ST → SO → Prop} {t : ST} {u : SO} (S : Sim_bag Rel F) (hty : eT E = tyA cs) (hN : eX E = XS P) (hL : LX E b L xs) (hLb : L ≤ 3584) (hi : i + 7 ≤ L) (hR : Rel t u) (next : ∀ (t : ST) (u : SO), Rel t u → G E kL 76 3678 1504 [(0, .ref b), (1, .ref (ad1 0)), (2, .ref (ad2 0)), (3, .int (nI i))] [] (wT cs ad1 t ++ wO cs ad2 u)) : G E kL 76 3678 404 [(0, .ref b), (1, .ref (ad1 0)), (2, .ref (ad2 0)), (3, .int (nI i))] [] (wT cs ad1 t ++ wO cs ad2 u) := by
  obtain ⟨r, t2, u2, h1, h2, hR2⟩ := S t u (xs (Int32.toNatClampNeg (nI i + 1))) (xs (Int32.toNatClampNeg (nI i + 2))) (xs (Int32.toNatClampNeg (nI i + 3))) (xs (Int32.toNatClampNeg (nI i + 4))) (xs (Int32.toNatClampNeg (nI i + 5))) (xs (Int32.toNatClampNeg (nI i + 6))) hR
  refine g_aload_n 1 dL_law_404 rfl rfl ?_
  refine g_aload_n 0 dL_law_405 rfl rfl ?_
  refine g_iload_n 3 dL_law_406 rfl rfl ?_
  refine g_iconst (v := 1) dL_law_407 (by decide) ?_
  refine g_iadd dL_law_408 ?_
  refine g_sld hL dL_law_409 (vin_off (k := 1) rfl (by omega) hLb) ?_
  refine g_aload_n 0 dL_law_410 rfl rfl ?_
  refine g_iload_n 3 dL_law_411 rfl rfl ?_
  refine g_iconst (v := 2) dL_law_412 (by decide) ?_
  refine g_iadd dL_law_413 ?_
  refine g_sld hL dL_law_414 (vin_off (k := 2) rfl (by omega) hLb) ?_
  refine g_aload_n 0 dL_law_415 rfl rfl ?_
  refine g_iload_n 3 dL_law_416 rfl rfl ?_
  refine g_iconst (v := 3) dL_law_417 (by decide) ?_
  refine g_iadd dL_law_418 ?_
  refine g_sld hL dL_law_419 (vin_off (k := 3) rfl (by omega) hLb) ?_
  refine g_aload_n 0 dL_law_420 rfl rfl ?_
  refine g_iload_n 3 dL_law_421 rfl rfl ?_
  refine g_iconst (v := 4) dL_law_422 (by decide) ?_
  refine g_iadd dL_law_423 ?_
  refine g_sld hL dL_law_424 (vin_off (k := 4) rfl (by omega) hLb) ?_
  refine g_aload_n 0 dL_law_425 rfl rfl ?_
  refine g_iload_n 3 dL_law_426 rfl rfl ?_
  refine g_iconst (v := 5) dL_law_427 (by decide) ?_
  refine g_iadd dL_law_428 ?_
  refine g_sld hL dL_law_429 (vin_off (k := 5) rfl (by omega) hLb) ?_
  refine g_aload_n 0 dL_law_430 rfl rfl ?_
  refine g_iload_n 3 dL_law_431 rfl rfl ?_
  refine g_bipush (v := 6) dL_law_432 (by decide) ?_
  refine g_iadd dL_law_434 ?_
  refine g_sld hL dL_law_435 (vin_off (k := 6) rfl (by omega) hLb) ?_
  refine g_callVi (ci := 5) (As := [.int (xs (Int32.toNatClampNeg (nI i + 1))), .int (xs (Int32.toNatClampNeg (nI i + 2))), .int (xs (Int32.toNatClampNeg (nI i + 3))), .int (xs (Int32.toNatClampNeg (nI i + 4))), .int (xs (Int32.toNatClampNeg (nI i + 5))), .int (xs (Int32.toNatClampNeg (nI i + 6)))]) (rest := []) (w2 := wT cs ad1 t2 ++ wO cs ad2 u) 0 dL_law_436 vL_43 (c_X5_bag ad1 hty h1) rfl (midL _ _) rfl rfl 0 wlaT_0 rfl (Nat.le_of_ble_eq_true rfl) ⟨by decide, by decide⟩ (midL2 _ _ _) ?_
  refine g_aload_n 2 dL_law_439 rfl rfl ?_
  refine g_aload_n 0 dL_law_440 rfl rfl ?_
  refine g_iload_n 3 dL_law_441 rfl rfl ?_
  refine g_iconst (v := 1) dL_law_442 (by decide) ?_
  refine g_iadd dL_law_443 ?_
  refine g_sld hL dL_law_444 (vin_off (k := 1) rfl (by omega) hLb) ?_
  refine g_aload_n 0 dL_law_445 rfl rfl ?_
  refine g_iload_n 3 dL_law_446 rfl rfl ?_
  refine g_iconst (v := 2) dL_law_447 (by decide) ?_
  refine g_iadd dL_law_448 ?_
  refine g_sld hL dL_law_449 (vin_off (k := 2) rfl (by omega) hLb) ?_
  refine g_aload_n 0 dL_law_450 rfl rfl ?_
  refine g_iload_n 3 dL_law_451 rfl rfl ?_
  refine g_iconst (v := 3) dL_law_452 (by decide) ?_
  refine g_iadd dL_law_453 ?_
  refine g_sld hL dL_law_454 (vin_off (k := 3) rfl (by omega) hLb) ?_
  refine g_aload_n 0 dL_law_455 rfl rfl ?_
  refine g_iload_n 3 dL_law_456 rfl rfl ?_
  refine g_iconst (v := 4) dL_law_457 (by decide) ?_
  refine g_iadd dL_law_458 ?_
  refine g_sld hL dL_law_459 (vin_off (k := 4) rfl (by omega) hLb) ?_
  refine g_aload_n 0 dL_law_460 rfl rfl ?_
  refine g_iload_n 3 dL_law_461 rfl rfl ?_
  refine g_iconst (v := 5) dL_law_462 (by decide) ?_
  refine g_iadd dL_law_463 ?_
  refine g_sld hL dL_law_464 (vin_off (k := 5) rfl (by omega) hLb) ?_
  refine g_aload_n 0 dL_law_465 rfl rfl ?_
  refine g_iload_n 3 dL_law_466 rfl rfl ?_
  refine g_bipush (v := 6) dL_law_467 (by decide) ?_
  refine g_iadd dL_law_469 ?_
  refine g_sld hL dL_law_470 (vin_off (k := 6) rfl (by omega) hLb) ?_
  refine g_callVi (ci := 6) (As := [.int (xs (Int32.toNatClampNeg (nI i + 1))), .int (xs (Int32.toNatClampNeg (nI i + 2))), .int (xs (Int32.toNatClampNeg (nI i + 3))), .int (xs (Int32.toNatClampNeg (nI i + 4))), .int (xs (Int32.toNatClampNeg (nI i + 5))), .int (xs (Int32.toNatClampNeg (nI i + 6)))]) (rest := [.int r]) (w2 := wT cs ad1 t2 ++ wO cs ad2 u2) 61 dL_law_471 vL_47 (c_X6_bag_ ad2 hty h2) rfl (midR _ _ wT_len) rfl rfl 0 wlaO_0 rfl (Nat.le_of_ble_eq_true rfl) ⟨by decide, by decide⟩ (midR2 _ _ _ wT_len) ?_
  refine g_icmp_eq (tgt := 1504) dL_law_474 (by decide) (fun _ => ?_) (fun h => absurd rfl h)
  exact next t2 u2 hR2
set_option maxHeartbeats 4000000 in
set_option maxRecDepth 100000 in
theorem law_case_about {E : GE} {cs : CS} {P : XP} {ad1 ad2 : Nat → Nat} {b L i F : Nat} {xs : Nat → Int32} {Rel : ST → SO → Prop} {t : ST} {u : SO} (S : Sim_about Rel F) (hty : eT E = tyA cs) (hN : eX E = XS P) (hL : LX E b L xs) (hLb : L ≤ 3584) (hi : i + 7 ≤ L) (hR : Rel t u) (next : ∀ (t : ST) (u : SO), Rel t u → G E kL 76 3678 1504 [(0, .ref b), (1, .ref (ad1 0)), (2, .ref (ad2 0)), (3, .int (nI i))] [] (wT cs ad1 t ++ wO cs ad2 u)) : G E kL 76 3678 479 [(0, .ref b), (1, .ref (ad1 0)), (2, .ref (ad2 0)), (3, .int (nI i))] [] (wT cs ad1 t ++ wO cs ad2 u) := by
  obtain ⟨r, u2, h1, h2, hR2⟩ := S t u (xs (Int32.toNatClampNeg (nI i + 1))) (xs (Int32.toNatClampNeg (nI i + 2))) hR
  refine g_aload_n 1 dL_law_479 rfl rfl ?_
  refine g_aload_n 0 dL_law_480 rfl rfl ?_
  refine g_iload_n 3 dL_law_481 rfl rfl ?_
  refine g_iconst (v := 1) dL_law_482 (by decide) ?_
  refine g_iadd dL_law_483 ?_
  refine g_sld hL dL_law_484 (vin_off (k := 1) rfl (by omega) hLb) ?_
  refine g_aload_n 0 dL_law_485 rfl rfl ?_
  refine g_iload_n 3 dL_law_486 rfl rfl ?_
  refine g_iconst (v := 2) dL_law_487 (by decide) ?_
  refine g_iadd dL_law_488 ?_
  refine g_sld hL dL_law_489 (vin_off (k := 2) rfl (by omega) hLb) ?_
  refine g_callVl (ci := 5) (As := [.int (xs (Int32.toNatClampNeg (nI i + 1))), .int (xs (Int32.toNatClampNeg (nI i + 2)))]) (rest := []) (w2 := wT cs ad1 t ++ wO cs ad2 u) 0 dL_law_490 vL_48 (c_X5_about ad1 hty h1) rfl (midL _ _) rfl rfl 0 wlaT_0 rfl (Nat.le_of_ble_eq_true rfl) ⟨by decide, by decide⟩ (midL2 _ _ _) ?_
  refine g_aload_n 2 dL_law_493 rfl rfl ?_
  refine g_aload_n 0 dL_law_494 rfl rfl ?_
  refine g_iload_n 3 dL_law_495 rfl rfl ?_
  refine g_iconst (v := 1) dL_law_496 (by decide) ?_
  refine g_iadd dL_law_497 ?_
  refine g_sld hL dL_law_498 (vin_off (k := 1) rfl (by omega) hLb) ?_
  refine g_aload_n 0 dL_law_499 rfl rfl ?_
  refine g_iload_n 3 dL_law_500 rfl rfl ?_
  refine g_iconst (v := 2) dL_law_501 (by decide) ?_
  refine g_iadd dL_law_502 ?_
  refine g_sld hL dL_law_503 (vin_off (k := 2) rfl (by omega) hLb) ?_
  refine g_callVl (ci := 6) (As := [.int (xs (Int32.toNatClampNeg (nI i + 1))), .int (xs (Int32.toNatClampNeg (nI i + 2)))]) (rest := [.long r]) (w2 := wT cs ad1 t ++ wO cs ad2 u2) 61 dL_law_504 vL_52 (c_X6_about ad2 hty h2) rfl (midR _ _ wT_len) rfl rfl 0 wlaO_0 rfl (Nat.le_of_ble_eq_true rfl) ⟨by decide, by decide⟩ (midR2 _ _ _ wT_len) ?_
  refine g_lcmp dL_law_507 ?_
  refine g_if_eq (tgt := 1504) dL_law_508 (by decide) (fun _ => ?_) (fun h => absurd (lgc r) h)
  exact next t u2 hR2
set_option maxHeartbeats 4000000 in
set_option maxRecDepth 100000 in
theorem law_case_look {E : GE} {cs : CS} {P : XP} {ad1 ad2 : Nat → Nat} {b L i F : Nat} {xs : Nat → Int32} {Rel : ST → SO → Prop} {t : ST} {u : SO} (S : Sim_look Rel F) (hty : eT E = tyA cs) (hN : eX E = XS P) (hL : LX E b L xs) (hLb : L ≤ 3584) (hi : i + 7 ≤ L) (hR : Rel t u) (next : ∀ (t : ST) (u : SO), Rel t u → G E kL 76 3678 1504 [(0, .ref b), (1, .ref (ad1 0)), (2, .ref (ad2 0)), (3, .int (nI i))] [] (wT cs ad1 t ++ wO cs ad2 u)) : G E kL 76 3678 513 [(0, .ref b), (1, .ref (ad1 0)), (2, .ref (ad2 0)), (3, .int (nI i))] [] (wT cs ad1 t ++ wO cs ad2 u) := by
  obtain ⟨r, u2, h1, h2, hR2⟩ := S t u (xs (Int32.toNatClampNeg (nI i + 1))) (xs (Int32.toNatClampNeg (nI i + 2))) (xs (Int32.toNatClampNeg (nI i + 3))) (xs (Int32.toNatClampNeg (nI i + 4))) (xs (Int32.toNatClampNeg (nI i + 5))) (xs (Int32.toNatClampNeg (nI i + 6))) hR
  refine g_aload_n 1 dL_law_513 rfl rfl ?_
  refine g_aload_n 0 dL_law_514 rfl rfl ?_
  refine g_iload_n 3 dL_law_515 rfl rfl ?_
  refine g_iconst (v := 1) dL_law_516 (by decide) ?_
  refine g_iadd dL_law_517 ?_
  refine g_sld hL dL_law_518 (vin_off (k := 1) rfl (by omega) hLb) ?_
  refine g_aload_n 0 dL_law_519 rfl rfl ?_
  refine g_iload_n 3 dL_law_520 rfl rfl ?_
  refine g_iconst (v := 2) dL_law_521 (by decide) ?_
  refine g_iadd dL_law_522 ?_
  refine g_sld hL dL_law_523 (vin_off (k := 2) rfl (by omega) hLb) ?_
  refine g_aload_n 0 dL_law_524 rfl rfl ?_
  refine g_iload_n 3 dL_law_525 rfl rfl ?_
  refine g_iconst (v := 3) dL_law_526 (by decide) ?_
  refine g_iadd dL_law_527 ?_
  refine g_sld hL dL_law_528 (vin_off (k := 3) rfl (by omega) hLb) ?_
  refine g_aload_n 0 dL_law_529 rfl rfl ?_
  refine g_iload_n 3 dL_law_530 rfl rfl ?_
  refine g_iconst (v := 4) dL_law_531 (by decide) ?_
  refine g_iadd dL_law_532 ?_
  refine g_sld hL dL_law_533 (vin_off (k := 4) rfl (by omega) hLb) ?_
  refine g_aload_n 0 dL_law_534 rfl rfl ?_
  refine g_iload_n 3 dL_law_535 rfl rfl ?_
  refine g_iconst (v := 5) dL_law_536 (by decide) ?_
  refine g_iadd dL_law_537 ?_
  refine g_sld hL dL_law_538 (vin_off (k := 5) rfl (by omega) hLb) ?_
  refine g_aload_n 0 dL_law_539 rfl rfl ?_
  refine g_iload_n 3 dL_law_540 rfl rfl ?_
  refine g_bipush (v := 6) dL_law_541 (by decide) ?_
  refine g_iadd dL_law_543 ?_
  refine g_sld hL dL_law_544 (vin_off (k := 6) rfl (by omega) hLb) ?_
  refine g_callVi (ci := 5) (As := [.int (xs (Int32.toNatClampNeg (nI i + 1))), .int (xs (Int32.toNatClampNeg (nI i + 2))), .int (xs (Int32.toNatClampNeg (nI i + 3))), .int (xs (Int32.toNatClampNeg (nI i + 4))), .int (xs (Int32.toNatClampNeg (nI i + 5))), .int (xs (Int32.toNatClampNeg (nI i + 6)))]) (rest := []) (w2 := wT cs ad1 t ++ wO cs ad2 u) 0 dL_law_545 vL_53 (c_X5_look ad1 hty h1) rfl (midL _ _) rfl rfl 0 wlaT_0 rfl (Nat.le_of_ble_eq_true rfl) ⟨by decide, by decide⟩ (midL2 _ _ _) ?_
  refine g_aload_n 2 dL_law_548 rfl rfl ?_
  refine g_aload_n 0 dL_law_549 rfl rfl ?_
  refine g_iload_n 3 dL_law_550 rfl rfl ?_
  refine g_iconst (v := 1) dL_law_551 (by decide) ?_
  refine g_iadd dL_law_552 ?_
  refine g_sld hL dL_law_553 (vin_off (k := 1) rfl (by omega) hLb) ?_
  refine g_aload_n 0 dL_law_554 rfl rfl ?_
  refine g_iload_n 3 dL_law_555 rfl rfl ?_
  refine g_iconst (v := 2) dL_law_556 (by decide) ?_
  refine g_iadd dL_law_557 ?_
  refine g_sld hL dL_law_558 (vin_off (k := 2) rfl (by omega) hLb) ?_
  refine g_aload_n 0 dL_law_559 rfl rfl ?_
  refine g_iload_n 3 dL_law_560 rfl rfl ?_
  refine g_iconst (v := 3) dL_law_561 (by decide) ?_
  refine g_iadd dL_law_562 ?_
  refine g_sld hL dL_law_563 (vin_off (k := 3) rfl (by omega) hLb) ?_
  refine g_aload_n 0 dL_law_564 rfl rfl ?_
  refine g_iload_n 3 dL_law_565 rfl rfl ?_
  refine g_iconst (v := 4) dL_law_566 (by decide) ?_
  refine g_iadd dL_law_567 ?_
  refine g_sld hL dL_law_568 (vin_off (k := 4) rfl (by omega) hLb) ?_
  refine g_aload_n 0 dL_law_569 rfl rfl ?_
  refine g_iload_n 3 dL_law_570 rfl rfl ?_
  refine g_iconst (v := 5) dL_law_571 (by decide) ?_
  refine g_iadd dL_law_572 ?_
  refine g_sld hL dL_law_573 (vin_off (k := 5) rfl (by omega) hLb) ?_
  refine g_aload_n 0 dL_law_574 rfl rfl ?_
  refine g_iload_n 3 dL_law_575 rfl rfl ?_
  refine g_bipush (v := 6) dL_law_576 (by decide) ?_
  refine g_iadd dL_law_578 ?_
  refine g_sld hL dL_law_579 (vin_off (k := 6) rfl (by omega) hLb) ?_
  refine g_callVi (ci := 6) (As := [.int (xs (Int32.toNatClampNeg (nI i + 1))), .int (xs (Int32.toNatClampNeg (nI i + 2))), .int (xs (Int32.toNatClampNeg (nI i + 3))), .int (xs (Int32.toNatClampNeg (nI i + 4))), .int (xs (Int32.toNatClampNeg (nI i + 5))), .int (xs (Int32.toNatClampNeg (nI i + 6)))]) (rest := [.int r]) (w2 := wT cs ad1 t ++ wO cs ad2 u2) 61 dL_law_580 vL_56 (c_X6_look ad2 hty h2) rfl (midR _ _ wT_len) rfl rfl 0 wlaO_0 rfl (Nat.le_of_ble_eq_true rfl) ⟨by decide, by decide⟩ (midR2 _ _ _ wT_len) ?_
  refine g_icmp_eq (tgt := 1504) dL_law_583 (by decide) (fun _ => ?_) (fun h => absurd rfl h)
  exact next t u2 hR2
set_option maxHeartbeats 4000000 in
set_option maxRecDepth 100000 in
theorem law_case_seldom {E : GE} {cs : CS} {P : XP} {ad1 ad2 : Nat → Nat} {b L i F : Nat} {xs : Nat → Int32} {Rel : ST → SO → Prop} {t : ST} {u : SO} (S : Sim_seldom Rel F) (hty : eT E = tyA cs) (hN : eX E = XS P) (hL : LX E b L xs) (hLb : L ≤ 3584) (hi : i + 7 ≤ L) (hR : Rel t u) (next : ∀ (t : ST) (u : SO), Rel t u → G E kL 76 3678 1504 [(0, .ref b), (1, .ref (ad1 0)), (2, .ref (ad2 0)), (3, .int (nI i))] [] (wT cs ad1 t ++ wO cs ad2 u)) : G E kL 76 3678 588 [(0, .ref b), (1, .ref (ad1 0)), (2, .ref (ad2 0)), (3, .int (nI i))] [] (wT cs ad1 t ++ wO cs ad2 u) := by
  obtain ⟨r, t2, u2, h1, h2, hR2⟩ := S t u (xs (Int32.toNatClampNeg (nI i + 1))) (xs (Int32.toNatClampNeg (nI i + 2))) (xs (Int32.toNatClampNeg (nI i + 3))) (xs (Int32.toNatClampNeg (nI i + 4))) (xs (Int32.toNatClampNeg (nI i + 5))) hR
  refine g_aload_n 1 dL_law_588 rfl rfl ?_
  refine g_aload_n 0 dL_law_589 rfl rfl ?_
  refine g_iload_n 3 dL_law_590 rfl rfl ?_
  refine g_iconst (v := 1) dL_law_591 (by decide) ?_
  refine g_iadd dL_law_592 ?_
  refine g_sld hL dL_law_593 (vin_off (k := 1) rfl (by omega) hLb) ?_
  refine g_aload_n 0 dL_law_594 rfl rfl ?_
  refine g_iload_n 3 dL_law_595 rfl rfl ?_
  refine g_iconst (v := 2) dL_law_596 (by decide) ?_
  refine g_iadd dL_law_597 ?_
  refine g_sld hL dL_law_598 (vin_off (k := 2) rfl (by omega) hLb) ?_
  refine g_aload_n 0 dL_law_599 rfl rfl ?_
  refine g_iload_n 3 dL_law_600 rfl rfl ?_
  refine g_iconst (v := 3) dL_law_601 (by decide) ?_
  refine g_iadd dL_law_602 ?_
  refine g_sld hL dL_law_603 (vin_off (k := 3) rfl (by omega) hLb) ?_
  refine g_aload_n 0 dL_law_604 rfl rfl ?_
  refine g_iload_n 3 dL_law_605 rfl rfl ?_
  refine g_iconst (v := 4) dL_law_606 (by decide) ?_
  refine g_iadd dL_law_607 ?_
  refine g_sld hL dL_law_608 (vin_off (k := 4) rfl (by omega) hLb) ?_
  refine g_aload_n 0 dL_law_609 rfl rfl ?_
  refine g_iload_n 3 dL_law_610 rfl rfl ?_
  refine g_iconst (v := 5) dL_law_611 (by decide) ?_
  refine g_iadd dL_law_612 ?_
  refine g_sld hL dL_law_613 (vin_off (k := 5) rfl (by omega) hLb) ?_
  refine g_callVl (ci := 5) (As := [.int (xs (Int32.toNatClampNeg (nI i + 1))), .int (xs (Int32.toNatClampNeg (nI i + 2))), .int (xs (Int32.toNatClampNeg (nI i + 3))), .int (xs (Int32.toNatClampNeg (nI i + 4))), .int (xs (Int32.toNatClampNeg (nI i + 5)))]) (rest := []) (w2 := wT cs ad1 t2 ++ wO cs ad2 u) 0 dL_law_614 vL_57 (c_X5_seldom ad1 hty h1) rfl (midL _ _) rfl rfl 0 wlaT_0 rfl (Nat.le_of_ble_eq_true rfl) ⟨by decide, by decide⟩ (midL2 _ _ _) ?_
  refine g_aload_n 2 dL_law_617 rfl rfl ?_
  refine g_aload_n 0 dL_law_618 rfl rfl ?_
  refine g_iload_n 3 dL_law_619 rfl rfl ?_
  refine g_iconst (v := 1) dL_law_620 (by decide) ?_
  refine g_iadd dL_law_621 ?_
  refine g_sld hL dL_law_622 (vin_off (k := 1) rfl (by omega) hLb) ?_
  refine g_aload_n 0 dL_law_623 rfl rfl ?_
  refine g_iload_n 3 dL_law_624 rfl rfl ?_
  refine g_iconst (v := 2) dL_law_625 (by decide) ?_
  refine g_iadd dL_law_626 ?_
  refine g_sld hL dL_law_627 (vin_off (k := 2) rfl (by omega) hLb) ?_
  refine g_aload_n 0 dL_law_628 rfl rfl ?_
  refine g_iload_n 3 dL_law_629 rfl rfl ?_
  refine g_iconst (v := 3) dL_law_630 (by decide) ?_
  refine g_iadd dL_law_631 ?_
  refine g_sld hL dL_law_632 (vin_off (k := 3) rfl (by omega) hLb) ?_
  refine g_aload_n 0 dL_law_633 rfl rfl ?_
  refine g_iload_n 3 dL_law_634 rfl rfl ?_
  refine g_iconst (v := 4) dL_law_635 (by decide) ?_
  refine g_iadd dL_law_636 ?_
  refine g_sld hL dL_law_637 (vin_off (k := 4) rfl (by omega) hLb) ?_
  refine g_aload_n 0 dL_law_638 rfl rfl ?_
  refine g_iload_n 3 dL_law_639 rfl rfl ?_
  refine g_iconst (v := 5) dL_law_640 (by decide) ?_
  refine g_iadd dL_law_641 ?_
  refine g_sld hL dL_law_642 (vin_off (k := 5) rfl (by omega) hLb) ?_
  refine g_callVl (ci := 6) (As := [.int (xs (Int32.toNatClampNeg (nI i + 1))), .int (xs (Int32.toNatClampNeg (nI i + 2))), .int (xs (Int32.toNatClampNeg (nI i + 3))), .int (xs (Int32.toNatClampNeg (nI i + 4))), .int (xs (Int32.toNatClampNeg (nI i + 5)))]) (rest := [.long r]) (w2 := wT cs ad1 t2 ++ wO cs ad2 u2) 61 dL_law_643 vL_61 (c_X6_seldom ad2 hty h2) rfl (midR _ _ wT_len) rfl rfl 0 wlaO_0 rfl (Nat.le_of_ble_eq_true rfl) ⟨by decide, by decide⟩ (midR2 _ _ _ wT_len) ?_
  refine g_lcmp dL_law_646 ?_
  refine g_if_eq (tgt := 1504) dL_law_647 (by decide) (fun _ => ?_) (fun h => absurd (lgc r) h)
  exact next t2 u2 hR2
set_option maxHeartbeats 4000000 in
set_option maxRecDepth 100000 in
theorem law_case_counted {E : GE} {cs : CS} {P : XP} {ad1 ad2 : Nat → Nat} {b L i F : Nat} {xs : Nat → Int32} {Rel : ST → SO → Prop} {t : ST} {u : SO} (S : Sim_counted Rel F) (hty : eT E = tyA cs) (hN : eX E = XS P) (hL : LX E b L xs) (hLb : L ≤ 3584) (hi : i + 7 ≤ L) (hR : Rel t u) (next : ∀ (t : ST) (u : SO), Rel t u → G E kL 76 3678 1504 [(0, .ref b), (1, .ref (ad1 0)), (2, .ref (ad2 0)), (3, .int (nI i))] [] (wT cs ad1 t ++ wO cs ad2 u)) : G E kL 76 3678 652 [(0, .ref b), (1, .ref (ad1 0)), (2, .ref (ad2 0)), (3, .int (nI i))] [] (wT cs ad1 t ++ wO cs ad2 u) := by
  obtain ⟨r, u2, h1, h2, hR2⟩ := S t u (xs (Int32.toNatClampNeg (nI i + 1))) hR
  refine g_aload_n 1 dL_law_652 rfl rfl ?_
  refine g_aload_n 0 dL_law_653 rfl rfl ?_
  refine g_iload_n 3 dL_law_654 rfl rfl ?_
  refine g_iconst (v := 1) dL_law_655 (by decide) ?_
  refine g_iadd dL_law_656 ?_
  refine g_sld hL dL_law_657 (vin_off (k := 1) rfl (by omega) hLb) ?_
  refine g_callVl (ci := 5) (As := [.int (xs (Int32.toNatClampNeg (nI i + 1)))]) (rest := []) (w2 := wT cs ad1 t ++ wO cs ad2 u) 0 dL_law_658 vL_62 (c_X5_counted ad1 hty h1) rfl (midL _ _) rfl rfl 0 wlaT_0 rfl (Nat.le_of_ble_eq_true rfl) ⟨by decide, by decide⟩ (midL2 _ _ _) ?_
  refine g_aload_n 2 dL_law_661 rfl rfl ?_
  refine g_aload_n 0 dL_law_662 rfl rfl ?_
  refine g_iload_n 3 dL_law_663 rfl rfl ?_
  refine g_iconst (v := 1) dL_law_664 (by decide) ?_
  refine g_iadd dL_law_665 ?_
  refine g_sld hL dL_law_666 (vin_off (k := 1) rfl (by omega) hLb) ?_
  refine g_callVl (ci := 6) (As := [.int (xs (Int32.toNatClampNeg (nI i + 1)))]) (rest := [.long r]) (w2 := wT cs ad1 t ++ wO cs ad2 u2) 61 dL_law_667 vL_66 (c_X6_counted ad2 hty h2) rfl (midR _ _ wT_len) rfl rfl 0 wlaO_0 rfl (Nat.le_of_ble_eq_true rfl) ⟨by decide, by decide⟩ (midR2 _ _ _ wT_len) ?_
  refine g_lcmp dL_law_670 ?_
  refine g_if_eq (tgt := 1504) dL_law_671 (by decide) (fun _ => ?_) (fun h => absurd (lgc r) h)
  exact next t u2 hR2
set_option maxHeartbeats 4000000 in
set_option maxRecDepth 100000 in
theorem law_case_likely {E : GE} {cs : CS} {P : XP} {ad1 ad2 : Nat → Nat} {b L i F : Nat} {xs : Nat → Int32} {Rel : ST → SO → Prop} {t : ST} {u : SO} (S : Sim_likely Rel F) (hty : eT E = tyA cs) (hN : eX E = XS P) (hL : LX E b L xs) (hLb : L ≤ 3584) (hi : i + 7 ≤ L) (hR : Rel t u) (next : ∀ (t : ST) (u : SO), Rel t u → G E kL 76 3678 1504 [(0, .ref b), (1, .ref (ad1 0)), (2, .ref (ad2 0)), (3, .int (nI i))] [] (wT cs ad1 t ++ wO cs ad2 u)) : G E kL 76 3678 676 [(0, .ref b), (1, .ref (ad1 0)), (2, .ref (ad2 0)), (3, .int (nI i))] [] (wT cs ad1 t ++ wO cs ad2 u) := by
  obtain ⟨r, u2, h1, h2, hR2⟩ := S t u (xs (Int32.toNatClampNeg (nI i + 1))) (xs (Int32.toNatClampNeg (nI i + 2))) (xs (Int32.toNatClampNeg (nI i + 3))) hR
  refine g_aload_n 1 dL_law_676 rfl rfl ?_
  refine g_aload_n 0 dL_law_677 rfl rfl ?_
  refine g_iload_n 3 dL_law_678 rfl rfl ?_
  refine g_iconst (v := 1) dL_law_679 (by decide) ?_
  refine g_iadd dL_law_680 ?_
  refine g_sld hL dL_law_681 (vin_off (k := 1) rfl (by omega) hLb) ?_
  refine g_aload_n 0 dL_law_682 rfl rfl ?_
  refine g_iload_n 3 dL_law_683 rfl rfl ?_
  refine g_iconst (v := 2) dL_law_684 (by decide) ?_
  refine g_iadd dL_law_685 ?_
  refine g_sld hL dL_law_686 (vin_off (k := 2) rfl (by omega) hLb) ?_
  refine g_aload_n 0 dL_law_687 rfl rfl ?_
  refine g_iload_n 3 dL_law_688 rfl rfl ?_
  refine g_iconst (v := 3) dL_law_689 (by decide) ?_
  refine g_iadd dL_law_690 ?_
  refine g_sld hL dL_law_691 (vin_off (k := 3) rfl (by omega) hLb) ?_
  refine g_callVl (ci := 5) (As := [.int (xs (Int32.toNatClampNeg (nI i + 1))), .int (xs (Int32.toNatClampNeg (nI i + 2))), .int (xs (Int32.toNatClampNeg (nI i + 3)))]) (rest := []) (w2 := wT cs ad1 t ++ wO cs ad2 u) 0 dL_law_692 vL_67 (c_X5_likely ad1 hty h1) rfl (midL _ _) rfl rfl 0 wlaT_0 rfl (Nat.le_of_ble_eq_true rfl) ⟨by decide, by decide⟩ (midL2 _ _ _) ?_
  refine g_aload_n 2 dL_law_695 rfl rfl ?_
  refine g_aload_n 0 dL_law_696 rfl rfl ?_
  refine g_iload_n 3 dL_law_697 rfl rfl ?_
  refine g_iconst (v := 1) dL_law_698 (by decide) ?_
  refine g_iadd dL_law_699 ?_
  refine g_sld hL dL_law_700 (vin_off (k := 1) rfl (by omega) hLb) ?_
  refine g_aload_n 0 dL_law_701 rfl rfl ?_
  refine g_iload_n 3 dL_law_702 rfl rfl ?_
  refine g_iconst (v := 2) dL_law_703 (by decide) ?_
  refine g_iadd dL_law_704 ?_
  refine g_sld hL dL_law_705 (vin_off (k := 2) rfl (by omega) hLb) ?_
  refine g_aload_n 0 dL_law_706 rfl rfl ?_
  refine g_iload_n 3 dL_law_707 rfl rfl ?_
  refine g_iconst (v := 3) dL_law_708 (by decide) ?_
  refine g_iadd dL_law_709 ?_
  refine g_sld hL dL_law_710 (vin_off (k := 3) rfl (by omega) hLb) ?_
  refine g_callVl (ci := 6) (As := [.int (xs (Int32.toNatClampNeg (nI i + 1))), .int (xs (Int32.toNatClampNeg (nI i + 2))), .int (xs (Int32.toNatClampNeg (nI i + 3)))]) (rest := [.long r]) (w2 := wT cs ad1 t ++ wO cs ad2 u2) 61 dL_law_711 vL_71 (c_X6_likely ad2 hty h2) rfl (midR _ _ wT_len) rfl rfl 0 wlaO_0 rfl (Nat.le_of_ble_eq_true rfl) ⟨by decide, by decide⟩ (midR2 _ _ _ wT_len) ?_
  refine g_lcmp dL_law_714 ?_
  refine g_if_eq (tgt := 1504) dL_law_715 (by decide) (fun _ => ?_) (fun h => absurd (lgc r) h)
  exact next t u2 hR2
set_option maxHeartbeats 4000000 in
set_option maxRecDepth 100000 in
theorem law_case_belief {E : GE} {cs : CS} {P : XP} {ad1 ad2 : Nat → Nat} {b L i F : Nat} {xs : Nat → Int32} {Rel : ST → SO → Prop} {t : ST} {u : SO} (S : Sim_belief Rel F) (hty : eT E = tyA cs) (hN : eX E = XS P) (hL : LX E b L xs) (hLb : L ≤ 3584) (hi : i + 7 ≤ L) (hR : Rel t u) (next : ∀ (t : ST) (u : SO), Rel t u → G E kL 76 3678 1504 [(0, .ref b), (1, .ref (ad1 0)), (2, .ref (ad2 0)), (3, .int (nI i))] [] (wT cs ad1 t ++ wO cs ad2 u)) : G E kL 76 3678 720 [(0, .ref b), (1, .ref (ad1 0)), (2, .ref (ad2 0)), (3, .int (nI i))] [] (wT cs ad1 t ++ wO cs ad2 u) := by
  obtain ⟨r, t2, u2, h1, h2, hR2⟩ := S t u (xs (Int32.toNatClampNeg (nI i + 1))) (xs (Int32.toNatClampNeg (nI i + 2))) hR
  refine g_aload_n 1 dL_law_720 rfl rfl ?_
  refine g_aload_n 0 dL_law_721 rfl rfl ?_
  refine g_iload_n 3 dL_law_722 rfl rfl ?_
  refine g_iconst (v := 1) dL_law_723 (by decide) ?_
  refine g_iadd dL_law_724 ?_
  refine g_sld hL dL_law_725 (vin_off (k := 1) rfl (by omega) hLb) ?_
  refine g_aload_n 0 dL_law_726 rfl rfl ?_
  refine g_iload_n 3 dL_law_727 rfl rfl ?_
  refine g_iconst (v := 2) dL_law_728 (by decide) ?_
  refine g_iadd dL_law_729 ?_
  refine g_sld hL dL_law_730 (vin_off (k := 2) rfl (by omega) hLb) ?_
  refine g_callVi (ci := 5) (As := [.int (xs (Int32.toNatClampNeg (nI i + 1))), .int (xs (Int32.toNatClampNeg (nI i + 2)))]) (rest := []) (w2 := wT cs ad1 t2 ++ wO cs ad2 u) 0 dL_law_731 vL_72 (c_X5_belief ad1 hty h1) rfl (midL _ _) rfl rfl 0 wlaT_0 rfl (Nat.le_of_ble_eq_true rfl) ⟨by decide, by decide⟩ (midL2 _ _ _) ?_
  refine g_aload_n 2 dL_law_734 rfl rfl ?_
  refine g_aload_n 0 dL_law_735 rfl rfl ?_
  refine g_iload_n 3 dL_law_736 rfl rfl ?_
  refine g_iconst (v := 1) dL_law_737 (by decide) ?_
  refine g_iadd dL_law_738 ?_
  refine g_sld hL dL_law_739 (vin_off (k := 1) rfl (by omega) hLb) ?_
  refine g_aload_n 0 dL_law_740 rfl rfl ?_
  refine g_iload_n 3 dL_law_741 rfl rfl ?_
  refine g_iconst (v := 2) dL_law_742 (by decide) ?_
  refine g_iadd dL_law_743 ?_
  refine g_sld hL dL_law_744 (vin_off (k := 2) rfl (by omega) hLb) ?_
  refine g_callVi (ci := 6) (As := [.int (xs (Int32.toNatClampNeg (nI i + 1))), .int (xs (Int32.toNatClampNeg (nI i + 2)))]) (rest := [.int r]) (w2 := wT cs ad1 t2 ++ wO cs ad2 u2) 61 dL_law_745 vL_75 (c_X6_belief ad2 hty h2) rfl (midR _ _ wT_len) rfl rfl 0 wlaO_0 rfl (Nat.le_of_ble_eq_true rfl) ⟨by decide, by decide⟩ (midR2 _ _ _ wT_len) ?_
  refine g_icmp_eq (tgt := 1504) dL_law_748 (by decide) (fun _ => ?_) (fun h => absurd rfl h)
  exact next t2 u2 hR2
set_option maxHeartbeats 4000000 in
set_option maxRecDepth 100000 in
theorem law_case_odds {E : GE} {cs : CS} {P : XP} {ad1 ad2 : Nat → Nat} {b L i F : Nat} {xs : Nat → Int32} {Rel : ST → SO → Prop} {t : ST} {u : SO} (S : Sim_odds Rel F) (hty : eT E = tyA cs) (hN : eX E = XS P) (hL : LX E b L xs) (hLb : L ≤ 3584) (hi : i + 7 ≤ L) (hR : Rel t u) (next : ∀ (t : ST) (u : SO), Rel t u → G E kL 76 3678 1504 [(0, .ref b), (1, .ref (ad1 0)), (2, .ref (ad2 0)), (3, .int (nI i))] [] (wT cs ad1 t ++ wO cs ad2 u)) : G E kL 76 3678 753 [(0, .ref b), (1, .ref (ad1 0)), (2, .ref (ad2 0)), (3, .int (nI i))] [] (wT cs ad1 t ++ wO cs ad2 u) := by
  obtain ⟨r, u2, h1, h2, hR2⟩ := S t u (xs (Int32.toNatClampNeg (nI i + 1))) (xs (Int32.toNatClampNeg (nI i + 2))) (xs (Int32.toNatClampNeg (nI i + 3))) hR
  refine g_aload_n 1 dL_law_753 rfl rfl ?_
  refine g_aload_n 0 dL_law_754 rfl rfl ?_
  refine g_iload_n 3 dL_law_755 rfl rfl ?_
  refine g_iconst (v := 1) dL_law_756 (by decide) ?_
  refine g_iadd dL_law_757 ?_
  refine g_sld hL dL_law_758 (vin_off (k := 1) rfl (by omega) hLb) ?_
  refine g_aload_n 0 dL_law_759 rfl rfl ?_
  refine g_iload_n 3 dL_law_760 rfl rfl ?_
  refine g_iconst (v := 2) dL_law_761 (by decide) ?_
  refine g_iadd dL_law_762 ?_
  refine g_sld hL dL_law_763 (vin_off (k := 2) rfl (by omega) hLb) ?_
  refine g_aload_n 0 dL_law_764 rfl rfl ?_
  refine g_iload_n 3 dL_law_765 rfl rfl ?_
  refine g_iconst (v := 3) dL_law_766 (by decide) ?_
  refine g_iadd dL_law_767 ?_
  refine g_sld hL dL_law_768 (vin_off (k := 3) rfl (by omega) hLb) ?_
  refine g_callVl (ci := 5) (As := [.int (xs (Int32.toNatClampNeg (nI i + 1))), .int (xs (Int32.toNatClampNeg (nI i + 2))), .int (xs (Int32.toNatClampNeg (nI i + 3)))]) (rest := []) (w2 := wT cs ad1 t ++ wO cs ad2 u) 0 dL_law_769 vL_76 (c_X5_odds ad1 hty h1) rfl (midL _ _) rfl rfl 0 wlaT_0 rfl (Nat.le_of_ble_eq_true rfl) ⟨by decide, by decide⟩ (midL2 _ _ _) ?_
  refine g_aload_n 2 dL_law_772 rfl rfl ?_
  refine g_aload_n 0 dL_law_773 rfl rfl ?_
  refine g_iload_n 3 dL_law_774 rfl rfl ?_
  refine g_iconst (v := 1) dL_law_775 (by decide) ?_
  refine g_iadd dL_law_776 ?_
  refine g_sld hL dL_law_777 (vin_off (k := 1) rfl (by omega) hLb) ?_
  refine g_aload_n 0 dL_law_778 rfl rfl ?_
  refine g_iload_n 3 dL_law_779 rfl rfl ?_
  refine g_iconst (v := 2) dL_law_780 (by decide) ?_
  refine g_iadd dL_law_781 ?_
  refine g_sld hL dL_law_782 (vin_off (k := 2) rfl (by omega) hLb) ?_
  refine g_aload_n 0 dL_law_783 rfl rfl ?_
  refine g_iload_n 3 dL_law_784 rfl rfl ?_
  refine g_iconst (v := 3) dL_law_785 (by decide) ?_
  refine g_iadd dL_law_786 ?_
  refine g_sld hL dL_law_787 (vin_off (k := 3) rfl (by omega) hLb) ?_
  refine g_callVl (ci := 6) (As := [.int (xs (Int32.toNatClampNeg (nI i + 1))), .int (xs (Int32.toNatClampNeg (nI i + 2))), .int (xs (Int32.toNatClampNeg (nI i + 3)))]) (rest := [.long r]) (w2 := wT cs ad1 t ++ wO cs ad2 u2) 61 dL_law_788 vL_79 (c_X6_odds ad2 hty h2) rfl (midR _ _ wT_len) rfl rfl 0 wlaO_0 rfl (Nat.le_of_ble_eq_true rfl) ⟨by decide, by decide⟩ (midR2 _ _ _ wT_len) ?_
  refine g_lcmp dL_law_791 ?_
  refine g_if_eq (tgt := 1504) dL_law_792 (by decide) (fun _ => ?_) (fun h => absurd (lgc r) h)
  exact next t u2 hR2
set_option maxHeartbeats 4000000 in
set_option maxRecDepth 100000 in
theorem law_case_judged {E : GE} {cs : CS} {P : XP} {ad1 ad2 : Nat → Nat} {b L i F : Nat} {xs : Nat → Int32} {Rel : ST → SO → Prop} {t : ST} {u : SO} (S : Sim_judged Rel F) (hty : eT E = tyA cs) (hN : eX E = XS P) (hL : LX E b L xs) (hLb : L ≤ 3584) (hi : i + 7 ≤ L) (hR : Rel t u) (next : ∀ (t : ST) (u : SO), Rel t u → G E kL 76 3678 1504 [(0, .ref b), (1, .ref (ad1 0)), (2, .ref (ad2 0)), (3, .int (nI i))] [] (wT cs ad1 t ++ wO cs ad2 u)) : G E kL 76 3678 797 [(0, .ref b), (1, .ref (ad1 0)), (2, .ref (ad2 0)), (3, .int (nI i))] [] (wT cs ad1 t ++ wO cs ad2 u) := by
  obtain ⟨r, u2, h1, h2, hR2⟩ := S t u (xs (Int32.toNatClampNeg (nI i + 1))) hR
  refine g_aload_n 1 dL_law_797 rfl rfl ?_
  refine g_aload_n 0 dL_law_798 rfl rfl ?_
  refine g_iload_n 3 dL_law_799 rfl rfl ?_
  refine g_iconst (v := 1) dL_law_800 (by decide) ?_
  refine g_iadd dL_law_801 ?_
  refine g_sld hL dL_law_802 (vin_off (k := 1) rfl (by omega) hLb) ?_
  refine g_callVi (ci := 5) (As := [.int (xs (Int32.toNatClampNeg (nI i + 1)))]) (rest := []) (w2 := wT cs ad1 t ++ wO cs ad2 u) 0 dL_law_803 vL_80 (c_X5_judged ad1 hty h1) rfl (midL _ _) rfl rfl 0 wlaT_0 rfl (Nat.le_of_ble_eq_true rfl) ⟨by decide, by decide⟩ (midL2 _ _ _) ?_
  refine g_aload_n 2 dL_law_806 rfl rfl ?_
  refine g_aload_n 0 dL_law_807 rfl rfl ?_
  refine g_iload_n 3 dL_law_808 rfl rfl ?_
  refine g_iconst (v := 1) dL_law_809 (by decide) ?_
  refine g_iadd dL_law_810 ?_
  refine g_sld hL dL_law_811 (vin_off (k := 1) rfl (by omega) hLb) ?_
  refine g_callVi (ci := 6) (As := [.int (xs (Int32.toNatClampNeg (nI i + 1)))]) (rest := [.int r]) (w2 := wT cs ad1 t ++ wO cs ad2 u2) 61 dL_law_812 vL_84 (c_X6_judged ad2 hty h2) rfl (midR _ _ wT_len) rfl rfl 0 wlaO_0 rfl (Nat.le_of_ble_eq_true rfl) ⟨by decide, by decide⟩ (midR2 _ _ _ wT_len) ?_
  refine g_icmp_eq (tgt := 1504) dL_law_815 (by decide) (fun _ => ?_) (fun h => absurd rfl h)
  exact next t u2 hR2
set_option maxHeartbeats 4000000 in
set_option maxRecDepth 100000 in
theorem law_case_apart {E : GE} {cs : CS} {P : XP} {ad1 ad2 : Nat → Nat} {b L i F : Nat} {xs : Nat → Int32} {Rel : ST → SO → Prop} {t : ST} {u : SO} (S : Sim_apart Rel F) (hty : eT E = tyA cs) (hN : eX E = XS P) (hL : LX E b L xs) (hLb : L ≤ 3584) (hi : i + 7 ≤ L) (hR : Rel t u) (next : ∀ (t : ST) (u : SO), Rel t u → G E kL 76 3678 1504 [(0, .ref b), (1, .ref (ad1 0)), (2, .ref (ad2 0)), (3, .int (nI i))] [] (wT cs ad1 t ++ wO cs ad2 u)) : G E kL 76 3678 820 [(0, .ref b), (1, .ref (ad1 0)), (2, .ref (ad2 0)), (3, .int (nI i))] [] (wT cs ad1 t ++ wO cs ad2 u) := by
  obtain ⟨r, u2, h1, h2, hR2⟩ := S t u (xs (Int32.toNatClampNeg (nI i + 1))) (xs (Int32.toNatClampNeg (nI i + 2))) (xs (Int32.toNatClampNeg (nI i + 3))) (xs (Int32.toNatClampNeg (nI i + 4))) hR
  refine g_aload_n 1 dL_law_820 rfl rfl ?_
  refine g_aload_n 0 dL_law_821 rfl rfl ?_
  refine g_iload_n 3 dL_law_822 rfl rfl ?_
  refine g_iconst (v := 1) dL_law_823 (by decide) ?_
  refine g_iadd dL_law_824 ?_
  refine g_sld hL dL_law_825 (vin_off (k := 1) rfl (by omega) hLb) ?_
  refine g_aload_n 0 dL_law_826 rfl rfl ?_
  refine g_iload_n 3 dL_law_827 rfl rfl ?_
  refine g_iconst (v := 2) dL_law_828 (by decide) ?_
  refine g_iadd dL_law_829 ?_
  refine g_sld hL dL_law_830 (vin_off (k := 2) rfl (by omega) hLb) ?_
  refine g_aload_n 0 dL_law_831 rfl rfl ?_
  refine g_iload_n 3 dL_law_832 rfl rfl ?_
  refine g_iconst (v := 3) dL_law_833 (by decide) ?_
  refine g_iadd dL_law_834 ?_
  refine g_sld hL dL_law_835 (vin_off (k := 3) rfl (by omega) hLb) ?_
  refine g_aload_n 0 dL_law_836 rfl rfl ?_
  refine g_iload_n 3 dL_law_837 rfl rfl ?_
  refine g_iconst (v := 4) dL_law_838 (by decide) ?_
  refine g_iadd dL_law_839 ?_
  refine g_sld hL dL_law_840 (vin_off (k := 4) rfl (by omega) hLb) ?_
  refine g_callVi (ci := 5) (As := [.int (xs (Int32.toNatClampNeg (nI i + 1))), .int (xs (Int32.toNatClampNeg (nI i + 2))), .int (xs (Int32.toNatClampNeg (nI i + 3))), .int (xs (Int32.toNatClampNeg (nI i + 4)))]) (rest := []) (w2 := wT cs ad1 t ++ wO cs ad2 u) 0 dL_law_841 vL_85 (c_X5_apart ad1 hty h1) rfl (midL _ _) rfl rfl 0 wlaT_0 rfl (Nat.le_of_ble_eq_true rfl) ⟨by decide, by decide⟩ (midL2 _ _ _) ?_
  refine g_aload_n 2 dL_law_844 rfl rfl ?_
  refine g_aload_n 0 dL_law_845 rfl rfl ?_
  refine g_iload_n 3 dL_law_846 rfl rfl ?_
  refine g_iconst (v := 1) dL_law_847 (by decide) ?_
  refine g_iadd dL_law_848 ?_
  refine g_sld hL dL_law_849 (vin_off (k := 1) rfl (by omega) hLb) ?_
  refine g_aload_n 0 dL_law_850 rfl rfl ?_
  refine g_iload_n 3 dL_law_851 rfl rfl ?_
  refine g_iconst (v := 2) dL_law_852 (by decide) ?_
  refine g_iadd dL_law_853 ?_
  refine g_sld hL dL_law_854 (vin_off (k := 2) rfl (by omega) hLb) ?_
  refine g_aload_n 0 dL_law_855 rfl rfl ?_
  refine g_iload_n 3 dL_law_856 rfl rfl ?_
  refine g_iconst (v := 3) dL_law_857 (by decide) ?_
  refine g_iadd dL_law_858 ?_
  refine g_sld hL dL_law_859 (vin_off (k := 3) rfl (by omega) hLb) ?_
  refine g_aload_n 0 dL_law_860 rfl rfl ?_
  refine g_iload_n 3 dL_law_861 rfl rfl ?_
  refine g_iconst (v := 4) dL_law_862 (by decide) ?_
  refine g_iadd dL_law_863 ?_
  refine g_sld hL dL_law_864 (vin_off (k := 4) rfl (by omega) hLb) ?_
  refine g_callVi (ci := 6) (As := [.int (xs (Int32.toNatClampNeg (nI i + 1))), .int (xs (Int32.toNatClampNeg (nI i + 2))), .int (xs (Int32.toNatClampNeg (nI i + 3))), .int (xs (Int32.toNatClampNeg (nI i + 4)))]) (rest := [.int r]) (w2 := wT cs ad1 t ++ wO cs ad2 u2) 61 dL_law_865 vL_88 (c_X6_apart ad2 hty h2) rfl (midR _ _ wT_len) rfl rfl 0 wlaO_0 rfl (Nat.le_of_ble_eq_true rfl) ⟨by decide, by decide⟩ (midR2 _ _ _ wT_len) ?_
  refine g_icmp_eq (tgt := 1504) dL_law_868 (by decide) (fun _ => ?_) (fun h => absurd rfl h)
  exact next t u2 hR2
set_option maxHeartbeats 4000000 in
set_option maxRecDepth 100000 in
theorem law_case_follow {E : GE} {cs : CS} {P : XP} {ad1 ad2 : Nat → Nat} {b L i F : Nat} {xs : Nat → Int32} {Rel : ST → SO → Prop} {t : ST} {u : SO} (S : Sim_follow Rel F) (hty : eT E = tyA cs) (hN : eX E = XS P) (hL : LX E b L xs) (hLb : L ≤ 3584) (hi : i + 7 ≤ L) (hR : Rel t u) (next : ∀ (t : ST) (u : SO), Rel t u → G E kL 76 3678 1504 [(0, .ref b), (1, .ref (ad1 0)), (2, .ref (ad2 0)), (3, .int (nI i))] [] (wT cs ad1 t ++ wO cs ad2 u)) : G E kL 76 3678 873 [(0, .ref b), (1, .ref (ad1 0)), (2, .ref (ad2 0)), (3, .int (nI i))] [] (wT cs ad1 t ++ wO cs ad2 u) := by
  obtain ⟨r, u2, h1, h2, hR2⟩ := S t u (xs (Int32.toNatClampNeg (nI i + 1))) (xs (Int32.toNatClampNeg (nI i + 2))) (xs (Int32.toNatClampNeg (nI i + 3))) hR
  refine g_aload_n 1 dL_law_873 rfl rfl ?_
  refine g_aload_n 0 dL_law_874 rfl rfl ?_
  refine g_iload_n 3 dL_law_875 rfl rfl ?_
  refine g_iconst (v := 1) dL_law_876 (by decide) ?_
  refine g_iadd dL_law_877 ?_
  refine g_sld hL dL_law_878 (vin_off (k := 1) rfl (by omega) hLb) ?_
  refine g_aload_n 0 dL_law_879 rfl rfl ?_
  refine g_iload_n 3 dL_law_880 rfl rfl ?_
  refine g_iconst (v := 2) dL_law_881 (by decide) ?_
  refine g_iadd dL_law_882 ?_
  refine g_sld hL dL_law_883 (vin_off (k := 2) rfl (by omega) hLb) ?_
  refine g_aload_n 0 dL_law_884 rfl rfl ?_
  refine g_iload_n 3 dL_law_885 rfl rfl ?_
  refine g_iconst (v := 3) dL_law_886 (by decide) ?_
  refine g_iadd dL_law_887 ?_
  refine g_sld hL dL_law_888 (vin_off (k := 3) rfl (by omega) hLb) ?_
  refine g_callVi (ci := 5) (As := [.int (xs (Int32.toNatClampNeg (nI i + 1))), .int (xs (Int32.toNatClampNeg (nI i + 2))), .int (xs (Int32.toNatClampNeg (nI i + 3)))]) (rest := []) (w2 := wT cs ad1 t ++ wO cs ad2 u) 0 dL_law_889 vL_89 (c_X5_follow ad1 hty h1) rfl (midL _ _) rfl rfl 0 wlaT_0 rfl (Nat.le_of_ble_eq_true rfl) ⟨by decide, by decide⟩ (midL2 _ _ _) ?_
  refine g_aload_n 2 dL_law_892 rfl rfl ?_
  refine g_aload_n 0 dL_law_893 rfl rfl ?_
  refine g_iload_n 3 dL_law_894 rfl rfl ?_
  refine g_iconst (v := 1) dL_law_895 (by decide) ?_
  refine g_iadd dL_law_896 ?_
  refine g_sld hL dL_law_897 (vin_off (k := 1) rfl (by omega) hLb) ?_
  refine g_aload_n 0 dL_law_898 rfl rfl ?_
  refine g_iload_n 3 dL_law_899 rfl rfl ?_
  refine g_iconst (v := 2) dL_law_900 (by decide) ?_
  refine g_iadd dL_law_901 ?_
  refine g_sld hL dL_law_902 (vin_off (k := 2) rfl (by omega) hLb) ?_
  refine g_aload_n 0 dL_law_903 rfl rfl ?_
  refine g_iload_n 3 dL_law_904 rfl rfl ?_
  refine g_iconst (v := 3) dL_law_905 (by decide) ?_
  refine g_iadd dL_law_906 ?_
  refine g_sld hL dL_law_907 (vin_off (k := 3) rfl (by omega) hLb) ?_
  refine g_callVi (ci := 6) (As := [.int (xs (Int32.toNatClampNeg (nI i + 1))), .int (xs (Int32.toNatClampNeg (nI i + 2))), .int (xs (Int32.toNatClampNeg (nI i + 3)))]) (rest := [.int r]) (w2 := wT cs ad1 t ++ wO cs ad2 u2) 61 dL_law_908 vL_93 (c_X6_follow ad2 hty h2) rfl (midR _ _ wT_len) rfl rfl 0 wlaO_0 rfl (Nat.le_of_ble_eq_true rfl) ⟨by decide, by decide⟩ (midR2 _ _ _ wT_len) ?_
  refine g_icmp_eq (tgt := 1504) dL_law_911 (by decide) (fun _ => ?_) (fun h => absurd rfl h)
  exact next t u2 hR2
set_option maxHeartbeats 4000000 in
set_option maxRecDepth 100000 in
theorem law_case_bar {E : GE} {cs : CS} {P : XP} {ad1 ad2 : Nat → Nat} {b L i F : Nat} {xs : Nat → Int32} {Rel : ST → SO → Prop} {t : ST} {u : SO} (S : Sim_bar Rel F) (hty : eT E = tyA cs) (hN : eX E = XS P) (hL : LX E b L xs) (hLb : L ≤ 3584) (hi : i + 7 ≤ L) (hR : Rel t u) (next : ∀ (t : ST) (u : SO), Rel t u → G E kL 76 3678 1504 [(0, .ref b), (1, .ref (ad1 0)), (2, .ref (ad2 0)), (3, .int (nI i))] [] (wT cs ad1 t ++ wO cs ad2 u)) : G E kL 76 3678 916 [(0, .ref b), (1, .ref (ad1 0)), (2, .ref (ad2 0)), (3, .int (nI i))] [] (wT cs ad1 t ++ wO cs ad2 u) := by
  obtain ⟨r, t2, u2, h1, h2, hR2⟩ := S t u (xs (Int32.toNatClampNeg (nI i + 1))) (xs (Int32.toNatClampNeg (nI i + 2))) hR
  refine g_aload_n 1 dL_law_916 rfl rfl ?_
  refine g_aload_n 0 dL_law_917 rfl rfl ?_
  refine g_iload_n 3 dL_law_918 rfl rfl ?_
  refine g_iconst (v := 1) dL_law_919 (by decide) ?_
  refine g_iadd dL_law_920 ?_
  refine g_sld hL dL_law_921 (vin_off (k := 1) rfl (by omega) hLb) ?_
  refine g_aload_n 0 dL_law_922 rfl rfl ?_
  refine g_iload_n 3 dL_law_923 rfl rfl ?_
  refine g_iconst (v := 2) dL_law_924 (by decide) ?_
  refine g_iadd dL_law_925 ?_
  refine g_sld hL dL_law_926 (vin_off (k := 2) rfl (by omega) hLb) ?_
  refine g_callVi (ci := 5) (As := [.int (xs (Int32.toNatClampNeg (nI i + 1))), .int (xs (Int32.toNatClampNeg (nI i + 2)))]) (rest := []) (w2 := wT cs ad1 t2 ++ wO cs ad2 u) 0 dL_law_927 vL_94 (c_X5_bar ad1 hty hN h1) rfl (midL _ _) rfl rfl 0 wlaT_0 rfl (Nat.le_of_ble_eq_true rfl) ⟨by decide, by decide⟩ (midL2 _ _ _) ?_
  refine g_aload_n 2 dL_law_930 rfl rfl ?_
  refine g_aload_n 0 dL_law_931 rfl rfl ?_
  refine g_iload_n 3 dL_law_932 rfl rfl ?_
  refine g_iconst (v := 1) dL_law_933 (by decide) ?_
  refine g_iadd dL_law_934 ?_
  refine g_sld hL dL_law_935 (vin_off (k := 1) rfl (by omega) hLb) ?_
  refine g_aload_n 0 dL_law_936 rfl rfl ?_
  refine g_iload_n 3 dL_law_937 rfl rfl ?_
  refine g_iconst (v := 2) dL_law_938 (by decide) ?_
  refine g_iadd dL_law_939 ?_
  refine g_sld hL dL_law_940 (vin_off (k := 2) rfl (by omega) hLb) ?_
  refine g_callVi (ci := 6) (As := [.int (xs (Int32.toNatClampNeg (nI i + 1))), .int (xs (Int32.toNatClampNeg (nI i + 2)))]) (rest := [.int r]) (w2 := wT cs ad1 t2 ++ wO cs ad2 u2) 61 dL_law_941 vL_97 (c_X6_bar ad2 hty h2) rfl (midR _ _ wT_len) rfl rfl 0 wlaO_0 rfl (Nat.le_of_ble_eq_true rfl) ⟨by decide, by decide⟩ (midR2 _ _ _ wT_len) ?_
  refine g_icmp_eq (tgt := 1504) dL_law_944 (by decide) (fun _ => ?_) (fun h => absurd rfl h)
  exact next t2 u2 hR2
set_option maxHeartbeats 4000000 in
set_option maxRecDepth 100000 in
theorem law_case_done {E : GE} {cs : CS} {P : XP} {ad1 ad2 : Nat → Nat} {b L i F : Nat} {xs : Nat → Int32} {Rel : ST → SO → Prop} {t : ST} {u : SO} (S : Sim_done Rel F) (hty : eT E = tyA cs) (hN : eX E = XS P) (hL : LX E b L xs) (hLb : L ≤ 3584) (hi : i + 7 ≤ L) (hR : Rel t u) (next : ∀ (t : ST) (u : SO), Rel t u → G E kL 76 3678 1504 [(0, .ref b), (1, .ref (ad1 0)), (2, .ref (ad2 0)), (3, .int (nI i))] [] (wT cs ad1 t ++ wO cs ad2 u)) : G E kL 76 3678 949 [(0, .ref b), (1, .ref (ad1 0)), (2, .ref (ad2 0)), (3, .int (nI i))] [] (wT cs ad1 t ++ wO cs ad2 u) := by
  obtain ⟨r, u2, h1, h2, hR2⟩ := S t u (xs (Int32.toNatClampNeg (nI i + 1))) (xs (Int32.toNatClampNeg (nI i + 2))) hR
  refine g_aload_n 1 dL_law_949 rfl rfl ?_
  refine g_aload_n 0 dL_law_950 rfl rfl ?_
  refine g_iload_n 3 dL_law_951 rfl rfl ?_
  refine g_iconst (v := 1) dL_law_952 (by decide) ?_
  refine g_iadd dL_law_953 ?_
  refine g_sld hL dL_law_954 (vin_off (k := 1) rfl (by omega) hLb) ?_
  refine g_aload_n 0 dL_law_955 rfl rfl ?_
  refine g_iload_n 3 dL_law_956 rfl rfl ?_
  refine g_iconst (v := 2) dL_law_957 (by decide) ?_
  refine g_iadd dL_law_958 ?_
  refine g_sld hL dL_law_959 (vin_off (k := 2) rfl (by omega) hLb) ?_
  refine g_callVi (ci := 5) (As := [.int (xs (Int32.toNatClampNeg (nI i + 1))), .int (xs (Int32.toNatClampNeg (nI i + 2)))]) (rest := []) (w2 := wT cs ad1 t ++ wO cs ad2 u) 0 dL_law_960 vL_98 (c_X5_done ad1 hty h1) rfl (midL _ _) rfl rfl 0 wlaT_0 rfl (Nat.le_of_ble_eq_true rfl) ⟨by decide, by decide⟩ (midL2 _ _ _) ?_
  refine g_aload_n 2 dL_law_963 rfl rfl ?_
  refine g_aload_n 0 dL_law_964 rfl rfl ?_
  refine g_iload_n 3 dL_law_965 rfl rfl ?_
  refine g_iconst (v := 1) dL_law_966 (by decide) ?_
  refine g_iadd dL_law_967 ?_
  refine g_sld hL dL_law_968 (vin_off (k := 1) rfl (by omega) hLb) ?_
  refine g_aload_n 0 dL_law_969 rfl rfl ?_
  refine g_iload_n 3 dL_law_970 rfl rfl ?_
  refine g_iconst (v := 2) dL_law_971 (by decide) ?_
  refine g_iadd dL_law_972 ?_
  refine g_sld hL dL_law_973 (vin_off (k := 2) rfl (by omega) hLb) ?_
  refine g_callVi (ci := 6) (As := [.int (xs (Int32.toNatClampNeg (nI i + 1))), .int (xs (Int32.toNatClampNeg (nI i + 2)))]) (rest := [.int r]) (w2 := wT cs ad1 t ++ wO cs ad2 u2) 61 dL_law_974 vL_101 (c_X6_done ad2 hty h2) rfl (midR _ _ wT_len) rfl rfl 0 wlaO_0 rfl (Nat.le_of_ble_eq_true rfl) ⟨by decide, by decide⟩ (midR2 _ _ _ wT_len) ?_
  refine g_icmp_eq (tgt := 1504) dL_law_977 (by decide) (fun _ => ?_) (fun h => absurd rfl h)
  exact next t u2 hR2
set_option maxHeartbeats 4000000 in
set_option maxRecDepth 100000 in
theorem law_case_cost {E : GE} {cs : CS} {P : XP} {ad1 ad2 : Nat → Nat} {b L i F : Nat} {xs : Nat → Int32} {Rel : ST → SO → Prop} {t : ST} {u : SO} (S : Sim_cost Rel F) (hty : eT E = tyA cs) (hN : eX E = XS P) (hL : LX E b L xs) (hLb : L ≤ 3584) (hi : i + 7 ≤ L) (hR : Rel t u) (next : ∀ (t : ST) (u : SO), Rel t u → G E kL 76 3678 1504 [(0, .ref b), (1, .ref (ad1 0)), (2, .ref (ad2 0)), (3, .int (nI i))] [] (wT cs ad1 t ++ wO cs ad2 u)) : G E kL 76 3678 982 [(0, .ref b), (1, .ref (ad1 0)), (2, .ref (ad2 0)), (3, .int (nI i))] [] (wT cs ad1 t ++ wO cs ad2 u) := by
  obtain ⟨r, u2, h1, h2, hR2⟩ := S t u (xs (Int32.toNatClampNeg (nI i + 1))) (xs (Int32.toNatClampNeg (nI i + 2))) hR
  refine g_aload_n 1 dL_law_982 rfl rfl ?_
  refine g_aload_n 0 dL_law_983 rfl rfl ?_
  refine g_iload_n 3 dL_law_984 rfl rfl ?_
  refine g_iconst (v := 1) dL_law_985 (by decide) ?_
  refine g_iadd dL_law_986 ?_
  refine g_sld hL dL_law_987 (vin_off (k := 1) rfl (by omega) hLb) ?_
  refine g_aload_n 0 dL_law_988 rfl rfl ?_
  refine g_iload_n 3 dL_law_989 rfl rfl ?_
  refine g_iconst (v := 2) dL_law_990 (by decide) ?_
  refine g_iadd dL_law_991 ?_
  refine g_sld hL dL_law_992 (vin_off (k := 2) rfl (by omega) hLb) ?_
  refine g_callVl (ci := 5) (As := [.int (xs (Int32.toNatClampNeg (nI i + 1))), .int (xs (Int32.toNatClampNeg (nI i + 2)))]) (rest := []) (w2 := wT cs ad1 t ++ wO cs ad2 u) 0 dL_law_993 vL_102 (c_X5_cost ad1 hty h1) rfl (midL _ _) rfl rfl 0 wlaT_0 rfl (Nat.le_of_ble_eq_true rfl) ⟨by decide, by decide⟩ (midL2 _ _ _) ?_
  refine g_aload_n 2 dL_law_996 rfl rfl ?_
  refine g_aload_n 0 dL_law_997 rfl rfl ?_
  refine g_iload_n 3 dL_law_998 rfl rfl ?_
  refine g_iconst (v := 1) dL_law_999 (by decide) ?_
  refine g_iadd dL_law_1000 ?_
  refine g_sld hL dL_law_1001 (vin_off (k := 1) rfl (by omega) hLb) ?_
  refine g_aload_n 0 dL_law_1002 rfl rfl ?_
  refine g_iload_n 3 dL_law_1003 rfl rfl ?_
  refine g_iconst (v := 2) dL_law_1004 (by decide) ?_
  refine g_iadd dL_law_1005 ?_
  refine g_sld hL dL_law_1006 (vin_off (k := 2) rfl (by omega) hLb) ?_
  refine g_callVl (ci := 6) (As := [.int (xs (Int32.toNatClampNeg (nI i + 1))), .int (xs (Int32.toNatClampNeg (nI i + 2)))]) (rest := [.long r]) (w2 := wT cs ad1 t ++ wO cs ad2 u2) 61 dL_law_1007 vL_105 (c_X6_cost ad2 hty h2) rfl (midR _ _ wT_len) rfl rfl 0 wlaO_0 rfl (Nat.le_of_ble_eq_true rfl) ⟨by decide, by decide⟩ (midR2 _ _ _ wT_len) ?_
  refine g_lcmp dL_law_1010 ?_
  refine g_if_eq (tgt := 1504) dL_law_1011 (by decide) (fun _ => ?_) (fun h => absurd (lgc r) h)
  exact next t u2 hR2
set_option maxHeartbeats 4000000 in
set_option maxRecDepth 100000 in
theorem law_case_enough {E : GE} {cs : CS} {P : XP} {ad1 ad2 : Nat → Nat} {b L i F : Nat} {xs : Nat → Int32} {Rel : ST → SO → Prop} {t : ST} {u : SO} (S : Sim_enough Rel F) (hty : eT E = tyA cs) (hN : eX E = XS P) (hL : LX E b L xs) (hLb : L ≤ 3584) (hi : i + 7 ≤ L) (hR : Rel t u) (next : ∀ (t : ST) (u : SO), Rel t u → G E kL 76 3678 1504 [(0, .ref b), (1, .ref (ad1 0)), (2, .ref (ad2 0)), (3, .int (nI i))] [] (wT cs ad1 t ++ wO cs ad2 u)) : G E kL 76 3678 1016 [(0, .ref b), (1, .ref (ad1 0)), (2, .ref (ad2 0)), (3, .int (nI i))] [] (wT cs ad1 t ++ wO cs ad2 u) := by
  obtain ⟨r, u2, h1, h2, hR2⟩ := S t u (xs (Int32.toNatClampNeg (nI i + 1))) hR
  refine g_aload_n 1 dL_law_1016 rfl rfl ?_
  refine g_aload_n 0 dL_law_1017 rfl rfl ?_
  refine g_iload_n 3 dL_law_1018 rfl rfl ?_
  refine g_iconst (v := 1) dL_law_1019 (by decide) ?_
  refine g_iadd dL_law_1020 ?_
  refine g_sld hL dL_law_1021 (vin_off (k := 1) rfl (by omega) hLb) ?_
  refine g_callVi (ci := 5) (As := [.int (xs (Int32.toNatClampNeg (nI i + 1)))]) (rest := []) (w2 := wT cs ad1 t ++ wO cs ad2 u) 0 dL_law_1022 vL_106 (c_X5_enough ad1 hty h1) rfl (midL _ _) rfl rfl 0 wlaT_0 rfl (Nat.le_of_ble_eq_true rfl) ⟨by decide, by decide⟩ (midL2 _ _ _) ?_
  refine g_aload_n 2 dL_law_1025 rfl rfl ?_
  refine g_aload_n 0 dL_law_1026 rfl rfl ?_
  refine g_iload_n 3 dL_law_1027 rfl rfl ?_
  refine g_iconst (v := 1) dL_law_1028 (by decide) ?_
  refine g_iadd dL_law_1029 ?_
  refine g_sld hL dL_law_1030 (vin_off (k := 1) rfl (by omega) hLb) ?_
  refine g_callVi (ci := 6) (As := [.int (xs (Int32.toNatClampNeg (nI i + 1)))]) (rest := [.int r]) (w2 := wT cs ad1 t ++ wO cs ad2 u2) 61 dL_law_1031 vL_109 (c_X6_enough ad2 hty h2) rfl (midR _ _ wT_len) rfl rfl 0 wlaO_0 rfl (Nat.le_of_ble_eq_true rfl) ⟨by decide, by decide⟩ (midR2 _ _ _ wT_len) ?_
  refine g_icmp_eq (tgt := 1504) dL_law_1034 (by decide) (fun _ => ?_) (fun h => absurd rfl h)
  exact next t u2 hR2
set_option maxHeartbeats 4000000 in
set_option maxRecDepth 100000 in
theorem law_case_year {E : GE} {cs : CS} {P : XP} {ad1 ad2 : Nat → Nat} {b L i F : Nat} {xs : Nat → Int32} {Rel : ST → SO → Prop} {t : ST} {u : SO} (S : Sim_year Rel F) (hty : eT E = tyA cs) (hN : eX E = XS P) (hL : LX E b L xs) (hLb : L ≤ 3584) (hi : i + 7 ≤ L) (hR : Rel t u) (next : ∀ (t : ST) (u : SO), Rel t u → G E kL 76 3678 1504 [(0, .ref b), (1, .ref (ad1 0)), (2, .ref (ad2 0)), (3, .int (nI i))] [] (wT cs ad1 t ++ wO cs ad2 u)) : G E kL 76 3678 1039 [(0, .ref b), (1, .ref (ad1 0)), (2, .ref (ad2 0)), (3, .int (nI i))] [] (wT cs ad1 t ++ wO cs ad2 u) := by
  obtain ⟨r, u2, h1, h2, hR2⟩ := S t u (xs (Int32.toNatClampNeg (nI i + 1))) (xs (Int32.toNatClampNeg (nI i + 2))) (xs (Int32.toNatClampNeg (nI i + 3))) hR
  refine g_aload_n 1 dL_law_1039 rfl rfl ?_
  refine g_aload_n 0 dL_law_1040 rfl rfl ?_
  refine g_iload_n 3 dL_law_1041 rfl rfl ?_
  refine g_iconst (v := 1) dL_law_1042 (by decide) ?_
  refine g_iadd dL_law_1043 ?_
  refine g_sld hL dL_law_1044 (vin_off (k := 1) rfl (by omega) hLb) ?_
  refine g_aload_n 0 dL_law_1045 rfl rfl ?_
  refine g_iload_n 3 dL_law_1046 rfl rfl ?_
  refine g_iconst (v := 2) dL_law_1047 (by decide) ?_
  refine g_iadd dL_law_1048 ?_
  refine g_sld hL dL_law_1049 (vin_off (k := 2) rfl (by omega) hLb) ?_
  refine g_aload_n 0 dL_law_1050 rfl rfl ?_
  refine g_iload_n 3 dL_law_1051 rfl rfl ?_
  refine g_iconst (v := 3) dL_law_1052 (by decide) ?_
  refine g_iadd dL_law_1053 ?_
  refine g_sld hL dL_law_1054 (vin_off (k := 3) rfl (by omega) hLb) ?_
  refine g_callVl (ci := 5) (As := [.int (xs (Int32.toNatClampNeg (nI i + 1))), .int (xs (Int32.toNatClampNeg (nI i + 2))), .int (xs (Int32.toNatClampNeg (nI i + 3)))]) (rest := []) (w2 := wT cs ad1 t ++ wO cs ad2 u) 0 dL_law_1055 vL_110 (c_X5_year ad1 hty h1) rfl (midL _ _) rfl rfl 0 wlaT_0 rfl (Nat.le_of_ble_eq_true rfl) ⟨by decide, by decide⟩ (midL2 _ _ _) ?_
  refine g_aload_n 2 dL_law_1058 rfl rfl ?_
  refine g_aload_n 0 dL_law_1059 rfl rfl ?_
  refine g_iload_n 3 dL_law_1060 rfl rfl ?_
  refine g_iconst (v := 1) dL_law_1061 (by decide) ?_
  refine g_iadd dL_law_1062 ?_
  refine g_sld hL dL_law_1063 (vin_off (k := 1) rfl (by omega) hLb) ?_
  refine g_aload_n 0 dL_law_1064 rfl rfl ?_
  refine g_iload_n 3 dL_law_1065 rfl rfl ?_
  refine g_iconst (v := 2) dL_law_1066 (by decide) ?_
  refine g_iadd dL_law_1067 ?_
  refine g_sld hL dL_law_1068 (vin_off (k := 2) rfl (by omega) hLb) ?_
  refine g_aload_n 0 dL_law_1069 rfl rfl ?_
  refine g_iload_n 3 dL_law_1070 rfl rfl ?_
  refine g_iconst (v := 3) dL_law_1071 (by decide) ?_
  refine g_iadd dL_law_1072 ?_
  refine g_sld hL dL_law_1073 (vin_off (k := 3) rfl (by omega) hLb) ?_
  refine g_callVl (ci := 6) (As := [.int (xs (Int32.toNatClampNeg (nI i + 1))), .int (xs (Int32.toNatClampNeg (nI i + 2))), .int (xs (Int32.toNatClampNeg (nI i + 3)))]) (rest := [.long r]) (w2 := wT cs ad1 t ++ wO cs ad2 u2) 61 dL_law_1074 vL_113 (c_X6_year ad2 hty h2) rfl (midR _ _ wT_len) rfl rfl 0 wlaO_0 rfl (Nat.le_of_ble_eq_true rfl) ⟨by decide, by decide⟩ (midR2 _ _ _ wT_len) ?_
  refine g_lcmp dL_law_1077 ?_
  refine g_if_eq (tgt := 1504) dL_law_1078 (by decide) (fun _ => ?_) (fun h => absurd (lgc r) h)
  exact next t u2 hR2
set_option maxHeartbeats 4000000 in
set_option maxRecDepth 100000 in
theorem law_case_truly {E : GE} {cs : CS} {P : XP} {ad1 ad2 : Nat → Nat} {b L i F : Nat} {xs : Nat → Int32} {Rel : ST → SO → Prop} {t : ST} {u : SO} (S : Sim_truly Rel F) (hty : eT E = tyA cs) (hN : eX E = XS P) (hL : LX E b L xs) (hLb : L ≤ 3584) (hi : i + 7 ≤ L) (hR : Rel t u) (next : ∀ (t : ST) (u : SO), Rel t u → G E kL 76 3678 1504 [(0, .ref b), (1, .ref (ad1 0)), (2, .ref (ad2 0)), (3, .int (nI i))] [] (wT cs ad1 t ++ wO cs ad2 u)) : G E kL 76 3678 1083 [(0, .ref b), (1, .ref (ad1 0)), (2, .ref (ad2 0)), (3, .int (nI i))] [] (wT cs ad1 t ++ wO cs ad2 u) := by
  obtain ⟨r, u2, h1, h2, hR2⟩ := S t u (xs (Int32.toNatClampNeg (nI i + 1))) (xs (Int32.toNatClampNeg (nI i + 2))) hR
  refine g_aload_n 1 dL_law_1083 rfl rfl ?_
  refine g_aload_n 0 dL_law_1084 rfl rfl ?_
  refine g_iload_n 3 dL_law_1085 rfl rfl ?_
  refine g_iconst (v := 1) dL_law_1086 (by decide) ?_
  refine g_iadd dL_law_1087 ?_
  refine g_sld hL dL_law_1088 (vin_off (k := 1) rfl (by omega) hLb) ?_
  refine g_aload_n 0 dL_law_1089 rfl rfl ?_
  refine g_iload_n 3 dL_law_1090 rfl rfl ?_
  refine g_iconst (v := 2) dL_law_1091 (by decide) ?_
  refine g_iadd dL_law_1092 ?_
  refine g_sld hL dL_law_1093 (vin_off (k := 2) rfl (by omega) hLb) ?_
  refine g_callVl (ci := 5) (As := [.int (xs (Int32.toNatClampNeg (nI i + 1))), .int (xs (Int32.toNatClampNeg (nI i + 2)))]) (rest := []) (w2 := wT cs ad1 t ++ wO cs ad2 u) 0 dL_law_1094 vL_114 (c_X5_truly ad1 hty h1) rfl (midL _ _) rfl rfl 0 wlaT_0 rfl (Nat.le_of_ble_eq_true rfl) ⟨by decide, by decide⟩ (midL2 _ _ _) ?_
  refine g_aload_n 2 dL_law_1097 rfl rfl ?_
  refine g_aload_n 0 dL_law_1098 rfl rfl ?_
  refine g_iload_n 3 dL_law_1099 rfl rfl ?_
  refine g_iconst (v := 1) dL_law_1100 (by decide) ?_
  refine g_iadd dL_law_1101 ?_
  refine g_sld hL dL_law_1102 (vin_off (k := 1) rfl (by omega) hLb) ?_
  refine g_aload_n 0 dL_law_1103 rfl rfl ?_
  refine g_iload_n 3 dL_law_1104 rfl rfl ?_
  refine g_iconst (v := 2) dL_law_1105 (by decide) ?_
  refine g_iadd dL_law_1106 ?_
  refine g_sld hL dL_law_1107 (vin_off (k := 2) rfl (by omega) hLb) ?_
  refine g_callVl (ci := 6) (As := [.int (xs (Int32.toNatClampNeg (nI i + 1))), .int (xs (Int32.toNatClampNeg (nI i + 2)))]) (rest := [.long r]) (w2 := wT cs ad1 t ++ wO cs ad2 u2) 61 dL_law_1108 vL_117 (c_X6_truly ad2 hty h2) rfl (midR _ _ wT_len) rfl rfl 0 wlaO_0 rfl (Nat.le_of_ble_eq_true rfl) ⟨by decide, by decide⟩ (midR2 _ _ _ wT_len) ?_
  refine g_lcmp dL_law_1111 ?_
  refine g_if_eq (tgt := 1504) dL_law_1112 (by decide) (fun _ => ?_) (fun h => absurd (lgc r) h)
  exact next t u2 hR2
set_option maxHeartbeats 4000000 in
set_option maxRecDepth 100000 in
theorem law_case_cheap {E : GE} {cs : CS} {P : XP} {ad1 ad2 : Nat → Nat} {b L i F : Nat} {xs : Nat → Int32} {Rel : ST → SO → Prop} {t : ST} {u : SO} (S : Sim_cheap Rel F) (hty : eT E = tyA cs) (hN : eX E = XS P) (hL : LX E b L xs) (hLb : L ≤ 3584) (hi : i + 7 ≤ L) (hR : Rel t u) (next : ∀ (t : ST) (u : SO), Rel t u → G E kL 76 3678 1504 [(0, .ref b), (1, .ref (ad1 0)), (2, .ref (ad2 0)), (3, .int (nI i))] [] (wT cs ad1 t ++ wO cs ad2 u)) : G E kL 76 3678 1117 [(0, .ref b), (1, .ref (ad1 0)), (2, .ref (ad2 0)), (3, .int (nI i))] [] (wT cs ad1 t ++ wO cs ad2 u) := by
  obtain ⟨r, u2, h1, h2, hR2⟩ := S t u hR
  refine g_aload_n 1 dL_law_1117 rfl rfl ?_
  refine g_callVi (ci := 5) (As := []) (rest := []) (w2 := wT cs ad1 t ++ wO cs ad2 u) 0 dL_law_1118 vL_118 (c_X5_cheap ad1 hty h1) rfl (midL _ _) rfl rfl 0 wlaT_0 rfl (Nat.le_of_ble_eq_true rfl) ⟨by decide, by decide⟩ (midL2 _ _ _) ?_
  refine g_aload_n 2 dL_law_1121 rfl rfl ?_
  refine g_callVi (ci := 6) (As := []) (rest := [.int r]) (w2 := wT cs ad1 t ++ wO cs ad2 u2) 61 dL_law_1122 vL_121 (c_X6_cheap ad2 hty h2) rfl (midR _ _ wT_len) rfl rfl 0 wlaO_0 rfl (Nat.le_of_ble_eq_true rfl) ⟨by decide, by decide⟩ (midR2 _ _ _ wT_len) ?_
  refine g_icmp_eq (tgt := 1504) dL_law_1125 (by decide) (fun _ => ?_) (fun h => absurd rfl h)
  exact next t u2 hR2
set_option maxHeartbeats 4000000 in
set_option maxRecDepth 100000 in
theorem law_case_favoured {E : GE} {cs : CS} {P : XP} {ad1 ad2 : Nat → Nat} {b L i F : Nat} {xs : Nat → Int32} {Rel : ST → SO → Prop} {t : ST} {u : SO} (S : Sim_favoured Rel F) (hty : eT E = tyA cs) (hN : eX E = XS P) (hL : LX E b L xs) (hLb : L ≤ 3584) (hi : i + 7 ≤ L) (hR : Rel t u) (next : ∀ (t : ST) (u : SO), Rel t u → G E kL 76 3678 1504 [(0, .ref b), (1, .ref (ad1 0)), (2, .ref (ad2 0)), (3, .int (nI i))] [] (wT cs ad1 t ++ wO cs ad2 u)) : G E kL 76 3678 1130 [(0, .ref b), (1, .ref (ad1 0)), (2, .ref (ad2 0)), (3, .int (nI i))] [] (wT cs ad1 t ++ wO cs ad2 u) := by
  obtain ⟨r, u2, h1, h2, hR2⟩ := S t u (xs (Int32.toNatClampNeg (nI i + 1))) hR
  refine g_aload_n 1 dL_law_1130 rfl rfl ?_
  refine g_aload_n 0 dL_law_1131 rfl rfl ?_
  refine g_iload_n 3 dL_law_1132 rfl rfl ?_
  refine g_iconst (v := 1) dL_law_1133 (by decide) ?_
  refine g_iadd dL_law_1134 ?_
  refine g_sld hL dL_law_1135 (vin_off (k := 1) rfl (by omega) hLb) ?_
  refine g_callVi (ci := 5) (As := [.int (xs (Int32.toNatClampNeg (nI i + 1)))]) (rest := []) (w2 := wT cs ad1 t ++ wO cs ad2 u) 0 dL_law_1136 vL_122 (c_X5_favoured ad1 hty h1) rfl (midL _ _) rfl rfl 0 wlaT_0 rfl (Nat.le_of_ble_eq_true rfl) ⟨by decide, by decide⟩ (midL2 _ _ _) ?_
  refine g_aload_n 2 dL_law_1139 rfl rfl ?_
  refine g_aload_n 0 dL_law_1140 rfl rfl ?_
  refine g_iload_n 3 dL_law_1141 rfl rfl ?_
  refine g_iconst (v := 1) dL_law_1142 (by decide) ?_
  refine g_iadd dL_law_1143 ?_
  refine g_sld hL dL_law_1144 (vin_off (k := 1) rfl (by omega) hLb) ?_
  refine g_callVi (ci := 6) (As := [.int (xs (Int32.toNatClampNeg (nI i + 1)))]) (rest := [.int r]) (w2 := wT cs ad1 t ++ wO cs ad2 u2) 61 dL_law_1145 vL_125 (c_X6_favoured ad2 hty h2) rfl (midR _ _ wT_len) rfl rfl 0 wlaO_0 rfl (Nat.le_of_ble_eq_true rfl) ⟨by decide, by decide⟩ (midR2 _ _ _ wT_len) ?_
  refine g_icmp_eq (tgt := 1504) dL_law_1148 (by decide) (fun _ => ?_) (fun h => absurd rfl h)
  exact next t u2 hR2
set_option maxHeartbeats 4000000 in
set_option maxRecDepth 100000 in
theorem law_case_even {E : GE} {cs : CS} {P : XP} {ad1 ad2 : Nat → Nat} {b L i F : Nat} {xs : Nat → Int32} {Rel : ST → SO → Prop} {t : ST} {u : SO} (S : Sim_even Rel F) (hty : eT E = tyA cs) (hN : eX E = XS P) (hL : LX E b L xs) (hLb : L ≤ 3584) (hi : i + 7 ≤ L) (hR : Rel t u) (next : ∀ (t : ST) (u : SO), Rel t u → G E kL 76 3678 1504 [(0, .ref b), (1, .ref (ad1 0)), (2, .ref (ad2 0)), (3, .int (nI i))] [] (wT cs ad1 t ++ wO cs ad2 u)) : G E kL 76 3678 1153 [(0, .ref b), (1, .ref (ad1 0)), (2, .ref (ad2 0)), (3, .int (nI i))] [] (wT cs ad1 t ++ wO cs ad2 u) := by
  obtain ⟨r, t2, u2, h1, h2, hR2⟩ := S t u (xs (Int32.toNatClampNeg (nI i + 1))) (xs (Int32.toNatClampNeg (nI i + 2))) hR
  refine g_aload_n 1 dL_law_1153 rfl rfl ?_
  refine g_aload_n 0 dL_law_1154 rfl rfl ?_
  refine g_iload_n 3 dL_law_1155 rfl rfl ?_
  refine g_iconst (v := 1) dL_law_1156 (by decide) ?_
  refine g_iadd dL_law_1157 ?_
  refine g_sld hL dL_law_1158 (vin_off (k := 1) rfl (by omega) hLb) ?_
  refine g_aload_n 0 dL_law_1159 rfl rfl ?_
  refine g_iload_n 3 dL_law_1160 rfl rfl ?_
  refine g_iconst (v := 2) dL_law_1161 (by decide) ?_
  refine g_iadd dL_law_1162 ?_
  refine g_sld hL dL_law_1163 (vin_off (k := 2) rfl (by omega) hLb) ?_
  refine g_callVl (ci := 5) (As := [.int (xs (Int32.toNatClampNeg (nI i + 1))), .int (xs (Int32.toNatClampNeg (nI i + 2)))]) (rest := []) (w2 := wT cs ad1 t2 ++ wO cs ad2 u) 0 dL_law_1164 vL_126 (c_X5_even ad1 hty h1) rfl (midL _ _) rfl rfl 0 wlaT_0 rfl (Nat.le_of_ble_eq_true rfl) ⟨by decide, by decide⟩ (midL2 _ _ _) ?_
  refine g_aload_n 2 dL_law_1167 rfl rfl ?_
  refine g_aload_n 0 dL_law_1168 rfl rfl ?_
  refine g_iload_n 3 dL_law_1169 rfl rfl ?_
  refine g_iconst (v := 1) dL_law_1170 (by decide) ?_
  refine g_iadd dL_law_1171 ?_
  refine g_sld hL dL_law_1172 (vin_off (k := 1) rfl (by omega) hLb) ?_
  refine g_aload_n 0 dL_law_1173 rfl rfl ?_
  refine g_iload_n 3 dL_law_1174 rfl rfl ?_
  refine g_iconst (v := 2) dL_law_1175 (by decide) ?_
  refine g_iadd dL_law_1176 ?_
  refine g_sld hL dL_law_1177 (vin_off (k := 2) rfl (by omega) hLb) ?_
  refine g_callVl (ci := 6) (As := [.int (xs (Int32.toNatClampNeg (nI i + 1))), .int (xs (Int32.toNatClampNeg (nI i + 2)))]) (rest := [.long r]) (w2 := wT cs ad1 t2 ++ wO cs ad2 u2) 61 dL_law_1178 vL_129 (c_X6_even ad2 hty h2) rfl (midR _ _ wT_len) rfl rfl 0 wlaO_0 rfl (Nat.le_of_ble_eq_true rfl) ⟨by decide, by decide⟩ (midR2 _ _ _ wT_len) ?_
  refine g_lcmp dL_law_1181 ?_
  refine g_if_eq (tgt := 1504) dL_law_1182 (by decide) (fun _ => ?_) (fun h => absurd (lgc r) h)
  exact next t2 u2 hR2
set_option maxHeartbeats 4000000 in
set_option maxRecDepth 100000 in
theorem law_case_trial {E : GE} {cs : CS} {P : XP} {ad1 ad2 : Nat → Nat} {b L i F : Nat} {xs : Nat → Int32} {Rel : ST → SO → Prop} {t : ST} {u : SO} (S : Sim_trial Rel F) (hty : eT E = tyA cs) (hN : eX E = XS P) (hL : LX E b L xs) (hLb : L ≤ 3584) (hi : i + 7 ≤ L) (hR : Rel t u) (next : ∀ (t : ST) (u : SO), Rel t u → G E kL 76 3678 1504 [(0, .ref b), (1, .ref (ad1 0)), (2, .ref (ad2 0)), (3, .int (nI i))] [] (wT cs ad1 t ++ wO cs ad2 u)) : G E kL 76 3678 1187 [(0, .ref b), (1, .ref (ad1 0)), (2, .ref (ad2 0)), (3, .int (nI i))] [] (wT cs ad1 t ++ wO cs ad2 u) := by
  obtain ⟨r, t2, u2, h1, h2, hR2⟩ := S t u (xs (Int32.toNatClampNeg (nI i + 1))) (xs (Int32.toNatClampNeg (nI i + 2))) (xs (Int32.toNatClampNeg (nI i + 3))) (xs (Int32.toNatClampNeg (nI i + 4))) hR
  refine g_aload_n 1 dL_law_1187 rfl rfl ?_
  refine g_aload_n 0 dL_law_1188 rfl rfl ?_
  refine g_iload_n 3 dL_law_1189 rfl rfl ?_
  refine g_iconst (v := 1) dL_law_1190 (by decide) ?_
  refine g_iadd dL_law_1191 ?_
  refine g_sld hL dL_law_1192 (vin_off (k := 1) rfl (by omega) hLb) ?_
  refine g_aload_n 0 dL_law_1193 rfl rfl ?_
  refine g_iload_n 3 dL_law_1194 rfl rfl ?_
  refine g_iconst (v := 2) dL_law_1195 (by decide) ?_
  refine g_iadd dL_law_1196 ?_
  refine g_sld hL dL_law_1197 (vin_off (k := 2) rfl (by omega) hLb) ?_
  refine g_aload_n 0 dL_law_1198 rfl rfl ?_
  refine g_iload_n 3 dL_law_1199 rfl rfl ?_
  refine g_iconst (v := 3) dL_law_1200 (by decide) ?_
  refine g_iadd dL_law_1201 ?_
  refine g_sld hL dL_law_1202 (vin_off (k := 3) rfl (by omega) hLb) ?_
  refine g_aload_n 0 dL_law_1203 rfl rfl ?_
  refine g_iload_n 3 dL_law_1204 rfl rfl ?_
  refine g_iconst (v := 4) dL_law_1205 (by decide) ?_
  refine g_iadd dL_law_1206 ?_
  refine g_sld hL dL_law_1207 (vin_off (k := 4) rfl (by omega) hLb) ?_
  refine g_callVi (ci := 5) (As := [.int (xs (Int32.toNatClampNeg (nI i + 1))), .int (xs (Int32.toNatClampNeg (nI i + 2))), .int (xs (Int32.toNatClampNeg (nI i + 3))), .int (xs (Int32.toNatClampNeg (nI i + 4)))]) (rest := []) (w2 := wT cs ad1 t2 ++ wO cs ad2 u) 0 dL_law_1208 vL_130 (c_X5_trial ad1 hty h1) rfl (midL _ _) rfl rfl 0 wlaT_0 rfl (Nat.le_of_ble_eq_true rfl) ⟨by decide, by decide⟩ (midL2 _ _ _) ?_
  refine g_aload_n 2 dL_law_1211 rfl rfl ?_
  refine g_aload_n 0 dL_law_1212 rfl rfl ?_
  refine g_iload_n 3 dL_law_1213 rfl rfl ?_
  refine g_iconst (v := 1) dL_law_1214 (by decide) ?_
  refine g_iadd dL_law_1215 ?_
  refine g_sld hL dL_law_1216 (vin_off (k := 1) rfl (by omega) hLb) ?_
  refine g_aload_n 0 dL_law_1217 rfl rfl ?_
  refine g_iload_n 3 dL_law_1218 rfl rfl ?_
  refine g_iconst (v := 2) dL_law_1219 (by decide) ?_
  refine g_iadd dL_law_1220 ?_
  refine g_sld hL dL_law_1221 (vin_off (k := 2) rfl (by omega) hLb) ?_
  refine g_aload_n 0 dL_law_1222 rfl rfl ?_
  refine g_iload_n 3 dL_law_1223 rfl rfl ?_
  refine g_iconst (v := 3) dL_law_1224 (by decide) ?_
  refine g_iadd dL_law_1225 ?_
  refine g_sld hL dL_law_1226 (vin_off (k := 3) rfl (by omega) hLb) ?_
  refine g_aload_n 0 dL_law_1227 rfl rfl ?_
  refine g_iload_n 3 dL_law_1228 rfl rfl ?_
  refine g_iconst (v := 4) dL_law_1229 (by decide) ?_
  refine g_iadd dL_law_1230 ?_
  refine g_sld hL dL_law_1231 (vin_off (k := 4) rfl (by omega) hLb) ?_
  refine g_callVi (ci := 6) (As := [.int (xs (Int32.toNatClampNeg (nI i + 1))), .int (xs (Int32.toNatClampNeg (nI i + 2))), .int (xs (Int32.toNatClampNeg (nI i + 3))), .int (xs (Int32.toNatClampNeg (nI i + 4)))]) (rest := [.int r]) (w2 := wT cs ad1 t2 ++ wO cs ad2 u2) 61 dL_law_1232 vL_133 (c_X6_trial ad2 hty h2) rfl (midR _ _ wT_len) rfl rfl 0 wlaO_0 rfl (Nat.le_of_ble_eq_true rfl) ⟨by decide, by decide⟩ (midR2 _ _ _ wT_len) ?_
  refine g_icmp_eq (tgt := 1504) dL_law_1235 (by decide) (fun _ => ?_) (fun h => absurd rfl h)
  exact next t2 u2 hR2
set_option maxHeartbeats 4000000 in
set_option maxRecDepth 100000 in
theorem law_case_middle {E : GE} {cs : CS} {P : XP} {ad1 ad2 : Nat → Nat} {b L i F : Nat} {xs : Nat → Int32} {Rel : ST → SO → Prop} {t : ST} {u : SO} (S : Sim_middle Rel F) (hty : eT E = tyA cs) (hN : eX E = XS P) (hL : LX E b L xs) (hLb : L ≤ 3584) (hi : i + 7 ≤ L) (hR : Rel t u) (next : ∀ (t : ST) (u : SO), Rel t u → G E kL 76 3678 1504 [(0, .ref b), (1, .ref (ad1 0)), (2, .ref (ad2 0)), (3, .int (nI i))] [] (wT cs ad1 t ++ wO cs ad2 u)) : G E kL 76 3678 1240 [(0, .ref b), (1, .ref (ad1 0)), (2, .ref (ad2 0)), (3, .int (nI i))] [] (wT cs ad1 t ++ wO cs ad2 u) := by
  obtain ⟨r, t2, u2, h1, h2, hR2⟩ := S t u (xs (Int32.toNatClampNeg (nI i + 1))) hR
  refine g_aload_n 1 dL_law_1240 rfl rfl ?_
  refine g_aload_n 0 dL_law_1241 rfl rfl ?_
  refine g_iload_n 3 dL_law_1242 rfl rfl ?_
  refine g_iconst (v := 1) dL_law_1243 (by decide) ?_
  refine g_iadd dL_law_1244 ?_
  refine g_sld hL dL_law_1245 (vin_off (k := 1) rfl (by omega) hLb) ?_
  refine g_callVl (ci := 5) (As := [.int (xs (Int32.toNatClampNeg (nI i + 1)))]) (rest := []) (w2 := wT cs ad1 t2 ++ wO cs ad2 u) 0 dL_law_1246 vL_134 (c_X5_middle ad1 hty h1) rfl (midL _ _) rfl rfl 0 wlaT_0 rfl (Nat.le_of_ble_eq_true rfl) ⟨by decide, by decide⟩ (midL2 _ _ _) ?_
  refine g_aload_n 2 dL_law_1249 rfl rfl ?_
  refine g_aload_n 0 dL_law_1250 rfl rfl ?_
  refine g_iload_n 3 dL_law_1251 rfl rfl ?_
  refine g_iconst (v := 1) dL_law_1252 (by decide) ?_
  refine g_iadd dL_law_1253 ?_
  refine g_sld hL dL_law_1254 (vin_off (k := 1) rfl (by omega) hLb) ?_
  refine g_callVl (ci := 6) (As := [.int (xs (Int32.toNatClampNeg (nI i + 1)))]) (rest := [.long r]) (w2 := wT cs ad1 t2 ++ wO cs ad2 u2) 61 dL_law_1255 vL_137 (c_X6_middle ad2 hty h2) rfl (midR _ _ wT_len) rfl rfl 0 wlaO_0 rfl (Nat.le_of_ble_eq_true rfl) ⟨by decide, by decide⟩ (midR2 _ _ _ wT_len) ?_
  refine g_lcmp dL_law_1258 ?_
  refine g_if_eq (tgt := 1504) dL_law_1259 (by decide) (fun _ => ?_) (fun h => absurd (lgc r) h)
  exact next t2 u2 hR2
set_option maxHeartbeats 4000000 in
set_option maxRecDepth 100000 in
theorem law_case_drift {E : GE} {cs : CS} {P : XP} {ad1 ad2 : Nat → Nat} {b L i F : Nat} {xs : Nat → Int32} {Rel : ST → SO → Prop} {t : ST} {u : SO} (S : Sim_drift Rel F) (hty : eT E = tyA cs) (hN : eX E = XS P) (hL : LX E b L xs) (hLb : L ≤ 3584) (hi : i + 7 ≤ L) (hR : Rel t u) (next : ∀ (t : ST) (u : SO), Rel t u → G E kL 76 3678 1504 [(0, .ref b), (1, .ref (ad1 0)), (2, .ref (ad2 0)), (3, .int (nI i))] [] (wT cs ad1 t ++ wO cs ad2 u)) : G E kL 76 3678 1264 [(0, .ref b), (1, .ref (ad1 0)), (2, .ref (ad2 0)), (3, .int (nI i))] [] (wT cs ad1 t ++ wO cs ad2 u) := by
  obtain ⟨r, u2, h1, h2, hR2⟩ := S t u (xs (Int32.toNatClampNeg (nI i + 1))) (xs (Int32.toNatClampNeg (nI i + 2))) hR
  refine g_aload_n 1 dL_law_1264 rfl rfl ?_
  refine g_aload_n 0 dL_law_1265 rfl rfl ?_
  refine g_iload_n 3 dL_law_1266 rfl rfl ?_
  refine g_iconst (v := 1) dL_law_1267 (by decide) ?_
  refine g_iadd dL_law_1268 ?_
  refine g_sld hL dL_law_1269 (vin_off (k := 1) rfl (by omega) hLb) ?_
  refine g_aload_n 0 dL_law_1270 rfl rfl ?_
  refine g_iload_n 3 dL_law_1271 rfl rfl ?_
  refine g_iconst (v := 2) dL_law_1272 (by decide) ?_
  refine g_iadd dL_law_1273 ?_
  refine g_sld hL dL_law_1274 (vin_off (k := 2) rfl (by omega) hLb) ?_
  refine g_callVl (ci := 5) (As := [.int (xs (Int32.toNatClampNeg (nI i + 1))), .int (xs (Int32.toNatClampNeg (nI i + 2)))]) (rest := []) (w2 := wT cs ad1 t ++ wO cs ad2 u) 0 dL_law_1275 vL_138 (c_X5_drift ad1 hty h1) rfl (midL _ _) rfl rfl 0 wlaT_0 rfl (Nat.le_of_ble_eq_true rfl) ⟨by decide, by decide⟩ (midL2 _ _ _) ?_
  refine g_aload_n 2 dL_law_1278 rfl rfl ?_
  refine g_aload_n 0 dL_law_1279 rfl rfl ?_
  refine g_iload_n 3 dL_law_1280 rfl rfl ?_
  refine g_iconst (v := 1) dL_law_1281 (by decide) ?_
  refine g_iadd dL_law_1282 ?_
  refine g_sld hL dL_law_1283 (vin_off (k := 1) rfl (by omega) hLb) ?_
  refine g_aload_n 0 dL_law_1284 rfl rfl ?_
  refine g_iload_n 3 dL_law_1285 rfl rfl ?_
  refine g_iconst (v := 2) dL_law_1286 (by decide) ?_
  refine g_iadd dL_law_1287 ?_
  refine g_sld hL dL_law_1288 (vin_off (k := 2) rfl (by omega) hLb) ?_
  refine g_callVl (ci := 6) (As := [.int (xs (Int32.toNatClampNeg (nI i + 1))), .int (xs (Int32.toNatClampNeg (nI i + 2)))]) (rest := [.long r]) (w2 := wT cs ad1 t ++ wO cs ad2 u2) 61 dL_law_1289 vL_141 (c_X6_drift ad2 hty h2) rfl (midR _ _ wT_len) rfl rfl 0 wlaO_0 rfl (Nat.le_of_ble_eq_true rfl) ⟨by decide, by decide⟩ (midR2 _ _ _ wT_len) ?_
  refine g_lcmp dL_law_1292 ?_
  refine g_if_eq (tgt := 1504) dL_law_1293 (by decide) (fun _ => ?_) (fun h => absurd (lgc r) h)
  exact next t u2 hR2
set_option maxHeartbeats 4000000 in
set_option maxRecDepth 100000 in
theorem law_case_lot {E : GE} {cs : CS} {P : XP} {ad1 ad2 : Nat → Nat} {b L i F : Nat} {xs : Nat → Int32} {Rel : ST → SO → Prop} {t : ST} {u : SO} (S : Sim_lot Rel F) (hty : eT E = tyA cs) (hN : eX E = XS P) (hL : LX E b L xs) (hLb : L ≤ 3584) (hi : i + 7 ≤ L) (hR : Rel t u) (next : ∀ (t : ST) (u : SO), Rel t u → G E kL 76 3678 1504 [(0, .ref b), (1, .ref (ad1 0)), (2, .ref (ad2 0)), (3, .int (nI i))] [] (wT cs ad1 t ++ wO cs ad2 u)) : G E kL 76 3678 1298 [(0, .ref b), (1, .ref (ad1 0)), (2, .ref (ad2 0)), (3, .int (nI i))] [] (wT cs ad1 t ++ wO cs ad2 u) := by
  obtain ⟨r, t2, u2, h1, h2, hR2⟩ := S t u (xs (Int32.toNatClampNeg (nI i + 1))) hR
  refine g_aload_n 1 dL_law_1298 rfl rfl ?_
  refine g_aload_n 0 dL_law_1299 rfl rfl ?_
  refine g_iload_n 3 dL_law_1300 rfl rfl ?_
  refine g_iconst (v := 1) dL_law_1301 (by decide) ?_
  refine g_iadd dL_law_1302 ?_
  refine g_sld hL dL_law_1303 (vin_off (k := 1) rfl (by omega) hLb) ?_
  refine g_callVi (ci := 5) (As := [.int (xs (Int32.toNatClampNeg (nI i + 1)))]) (rest := []) (w2 := wT cs ad1 t2 ++ wO cs ad2 u) 0 dL_law_1304 vL_142 (c_X5_lot ad1 hty h1) rfl (midL _ _) rfl rfl 0 wlaT_0 rfl (Nat.le_of_ble_eq_true rfl) ⟨by decide, by decide⟩ (midL2 _ _ _) ?_
  refine g_aload_n 2 dL_law_1307 rfl rfl ?_
  refine g_aload_n 0 dL_law_1308 rfl rfl ?_
  refine g_iload_n 3 dL_law_1309 rfl rfl ?_
  refine g_iconst (v := 1) dL_law_1310 (by decide) ?_
  refine g_iadd dL_law_1311 ?_
  refine g_sld hL dL_law_1312 (vin_off (k := 1) rfl (by omega) hLb) ?_
  refine g_callVi (ci := 6) (As := [.int (xs (Int32.toNatClampNeg (nI i + 1)))]) (rest := [.int r]) (w2 := wT cs ad1 t2 ++ wO cs ad2 u2) 61 dL_law_1313 vL_145 (c_X6_lot ad2 hty h2) rfl (midR _ _ wT_len) rfl rfl 0 wlaO_0 rfl (Nat.le_of_ble_eq_true rfl) ⟨by decide, by decide⟩ (midR2 _ _ _ wT_len) ?_
  refine g_icmp_eq (tgt := 1504) dL_law_1316 (by decide) (fun _ => ?_) (fun h => absurd rfl h)
  exact next t2 u2 hR2
set_option maxHeartbeats 4000000 in
set_option maxRecDepth 100000 in
theorem law_case_sales {E : GE} {cs : CS} {P : XP} {ad1 ad2 : Nat → Nat} {b L i F : Nat} {xs : Nat → Int32} {Rel : ST → SO → Prop} {t : ST} {u : SO} (S : Sim_sales Rel F) (hty : eT E = tyA cs) (hN : eX E = XS P) (hL : LX E b L xs) (hLb : L ≤ 3584) (hi : i + 7 ≤ L) (hR : Rel t u) (next : ∀ (t : ST) (u : SO), Rel t u → G E kL 76 3678 1504 [(0, .ref b), (1, .ref (ad1 0)), (2, .ref (ad2 0)), (3, .int (nI i))] [] (wT cs ad1 t ++ wO cs ad2 u)) : G E kL 76 3678 1321 [(0, .ref b), (1, .ref (ad1 0)), (2, .ref (ad2 0)), (3, .int (nI i))] [] (wT cs ad1 t ++ wO cs ad2 u) := by
  obtain ⟨r, t2, u2, h1, h2, hR2⟩ := S t u (xs (Int32.toNatClampNeg (nI i + 1))) (xs (Int32.toNatClampNeg (nI i + 2))) (xs (Int32.toNatClampNeg (nI i + 3))) (xs (Int32.toNatClampNeg (nI i + 4))) hR
  refine g_aload_n 1 dL_law_1321 rfl rfl ?_
  refine g_aload_n 0 dL_law_1322 rfl rfl ?_
  refine g_iload_n 3 dL_law_1323 rfl rfl ?_
  refine g_iconst (v := 1) dL_law_1324 (by decide) ?_
  refine g_iadd dL_law_1325 ?_
  refine g_sld hL dL_law_1326 (vin_off (k := 1) rfl (by omega) hLb) ?_
  refine g_aload_n 0 dL_law_1327 rfl rfl ?_
  refine g_iload_n 3 dL_law_1328 rfl rfl ?_
  refine g_iconst (v := 2) dL_law_1329 (by decide) ?_
  refine g_iadd dL_law_1330 ?_
  refine g_sld hL dL_law_1331 (vin_off (k := 2) rfl (by omega) hLb) ?_
  refine g_aload_n 0 dL_law_1332 rfl rfl ?_
  refine g_iload_n 3 dL_law_1333 rfl rfl ?_
  refine g_iconst (v := 3) dL_law_1334 (by decide) ?_
  refine g_iadd dL_law_1335 ?_
  refine g_sld hL dL_law_1336 (vin_off (k := 3) rfl (by omega) hLb) ?_
  refine g_aload_n 0 dL_law_1337 rfl rfl ?_
  refine g_iload_n 3 dL_law_1338 rfl rfl ?_
  refine g_iconst (v := 4) dL_law_1339 (by decide) ?_
  refine g_iadd dL_law_1340 ?_
  refine g_sld hL dL_law_1341 (vin_off (k := 4) rfl (by omega) hLb) ?_
  refine g_callVi (ci := 5) (As := [.int (xs (Int32.toNatClampNeg (nI i + 1))), .int (xs (Int32.toNatClampNeg (nI i + 2))), .int (xs (Int32.toNatClampNeg (nI i + 3))), .int (xs (Int32.toNatClampNeg (nI i + 4)))]) (rest := []) (w2 := wT cs ad1 t2 ++ wO cs ad2 u) 0 dL_law_1342 vL_146 (c_X5_sales ad1 hty h1) rfl (midL _ _) rfl rfl 0 wlaT_0 rfl (Nat.le_of_ble_eq_true rfl) ⟨by decide, by decide⟩ (midL2 _ _ _) ?_
  refine g_aload_n 2 dL_law_1345 rfl rfl ?_
  refine g_aload_n 0 dL_law_1346 rfl rfl ?_
  refine g_iload_n 3 dL_law_1347 rfl rfl ?_
  refine g_iconst (v := 1) dL_law_1348 (by decide) ?_
  refine g_iadd dL_law_1349 ?_
  refine g_sld hL dL_law_1350 (vin_off (k := 1) rfl (by omega) hLb) ?_
  refine g_aload_n 0 dL_law_1351 rfl rfl ?_
  refine g_iload_n 3 dL_law_1352 rfl rfl ?_
  refine g_iconst (v := 2) dL_law_1353 (by decide) ?_
  refine g_iadd dL_law_1354 ?_
  refine g_sld hL dL_law_1355 (vin_off (k := 2) rfl (by omega) hLb) ?_
  refine g_aload_n 0 dL_law_1356 rfl rfl ?_
  refine g_iload_n 3 dL_law_1357 rfl rfl ?_
  refine g_iconst (v := 3) dL_law_1358 (by decide) ?_
  refine g_iadd dL_law_1359 ?_
  refine g_sld hL dL_law_1360 (vin_off (k := 3) rfl (by omega) hLb) ?_
  refine g_aload_n 0 dL_law_1361 rfl rfl ?_
  refine g_iload_n 3 dL_law_1362 rfl rfl ?_
  refine g_iconst (v := 4) dL_law_1363 (by decide) ?_
  refine g_iadd dL_law_1364 ?_
  refine g_sld hL dL_law_1365 (vin_off (k := 4) rfl (by omega) hLb) ?_
  refine g_callVi (ci := 6) (As := [.int (xs (Int32.toNatClampNeg (nI i + 1))), .int (xs (Int32.toNatClampNeg (nI i + 2))), .int (xs (Int32.toNatClampNeg (nI i + 3))), .int (xs (Int32.toNatClampNeg (nI i + 4)))]) (rest := [.int r]) (w2 := wT cs ad1 t2 ++ wO cs ad2 u2) 61 dL_law_1366 vL_149 (c_X6_sales ad2 hty h2) rfl (midR _ _ wT_len) rfl rfl 0 wlaO_0 rfl (Nat.le_of_ble_eq_true rfl) ⟨by decide, by decide⟩ (midR2 _ _ _ wT_len) ?_
  refine g_icmp_eq (tgt := 1504) dL_law_1369 (by decide) (fun _ => ?_) (fun h => absurd rfl h)
  exact next t2 u2 hR2
set_option maxHeartbeats 4000000 in
set_option maxRecDepth 100000 in
theorem law_case_steps {E : GE} {cs : CS} {P : XP} {ad1 ad2 : Nat → Nat} {b L i F : Nat} {xs : Nat → Int32} {Rel : ST → SO → Prop} {t : ST} {u : SO} (S : Sim_steps Rel F) (hty : eT E = tyA cs) (hN : eX E = XS P) (hL : LX E b L xs) (hLb : L ≤ 3584) (hi : i + 7 ≤ L) (hR : Rel t u) (next : ∀ (t : ST) (u : SO), Rel t u → G E kL 76 3678 1504 [(0, .ref b), (1, .ref (ad1 0)), (2, .ref (ad2 0)), (3, .int (nI i))] [] (wT cs ad1 t ++ wO cs ad2 u)) : G E kL 76 3678 1374 [(0, .ref b), (1, .ref (ad1 0)), (2, .ref (ad2 0)), (3, .int (nI i))] [] (wT cs ad1 t ++ wO cs ad2 u) := by
  obtain ⟨r, u2, h1, h2, hR2⟩ := S t u hR
  refine g_aload_n 1 dL_law_1374 rfl rfl ?_
  refine g_callVi (ci := 5) (As := []) (rest := []) (w2 := wT cs ad1 t ++ wO cs ad2 u) 0 dL_law_1375 vL_150 (c_X5_steps ad1 hty h1) rfl (midL _ _) rfl rfl 0 wlaT_0 rfl (Nat.le_of_ble_eq_true rfl) ⟨by decide, by decide⟩ (midL2 _ _ _) ?_
  refine g_aload_n 2 dL_law_1378 rfl rfl ?_
  refine g_callVi (ci := 6) (As := []) (rest := [.int r]) (w2 := wT cs ad1 t ++ wO cs ad2 u2) 61 dL_law_1379 vL_153 (c_X6_steps ad2 hty h2) rfl (midR _ _ wT_len) rfl rfl 0 wlaO_0 rfl (Nat.le_of_ble_eq_true rfl) ⟨by decide, by decide⟩ (midR2 _ _ _ wT_len) ?_
  refine g_icmp_eq (tgt := 1504) dL_law_1382 (by decide) (fun _ => ?_) (fun h => absurd rfl h)
  exact next t u2 hR2
set_option maxHeartbeats 4000000 in
set_option maxRecDepth 100000 in
theorem law_case_score {E : GE} {cs : CS} {P : XP} {ad1 ad2 : Nat → Nat} {b L i F : Nat} {xs : Nat → Int32} {Rel : ST → SO → Prop} {t : ST} {u : SO} (S : Sim_score Rel F) (hty : eT E = tyA cs) (hN : eX E = XS P) (hL : LX E b L xs) (hLb : L ≤ 3584) (hi : i + 7 ≤ L) (hR : Rel t u) (next : ∀ (t : ST) (u : SO), Rel t u → G E kL 76 3678 1504 [(0, .ref b), (1, .ref (ad1 0)), (2, .ref (ad2 0)), (3, .int (nI i))] [] (wT cs ad1 t ++ wO cs ad2 u)) : G E kL 76 3678 1387 [(0, .ref b), (1, .ref (ad1 0)), (2, .ref (ad2 0)), (3, .int (nI i))] [] (wT cs ad1 t ++ wO cs ad2 u) := by
  obtain ⟨r, t2, u2, h1, h2, hR2⟩ := S t u (xs (Int32.toNatClampNeg (nI i + 1))) (xs (Int32.toNatClampNeg (nI i + 2))) hR
  refine g_aload_n 1 dL_law_1387 rfl rfl ?_
  refine g_aload_n 0 dL_law_1388 rfl rfl ?_
  refine g_iload_n 3 dL_law_1389 rfl rfl ?_
  refine g_iconst (v := 1) dL_law_1390 (by decide) ?_
  refine g_iadd dL_law_1391 ?_
  refine g_sld hL dL_law_1392 (vin_off (k := 1) rfl (by omega) hLb) ?_
  refine g_aload_n 0 dL_law_1393 rfl rfl ?_
  refine g_iload_n 3 dL_law_1394 rfl rfl ?_
  refine g_iconst (v := 2) dL_law_1395 (by decide) ?_
  refine g_iadd dL_law_1396 ?_
  refine g_sld hL dL_law_1397 (vin_off (k := 2) rfl (by omega) hLb) ?_
  refine g_callVl (ci := 5) (As := [.int (xs (Int32.toNatClampNeg (nI i + 1))), .int (xs (Int32.toNatClampNeg (nI i + 2)))]) (rest := []) (w2 := wT cs ad1 t2 ++ wO cs ad2 u) 0 dL_law_1398 vL_154 (c_X5_score ad1 hty h1) rfl (midL _ _) rfl rfl 0 wlaT_0 rfl (Nat.le_of_ble_eq_true rfl) ⟨by decide, by decide⟩ (midL2 _ _ _) ?_
  refine g_aload_n 2 dL_law_1401 rfl rfl ?_
  refine g_aload_n 0 dL_law_1402 rfl rfl ?_
  refine g_iload_n 3 dL_law_1403 rfl rfl ?_
  refine g_iconst (v := 1) dL_law_1404 (by decide) ?_
  refine g_iadd dL_law_1405 ?_
  refine g_sld hL dL_law_1406 (vin_off (k := 1) rfl (by omega) hLb) ?_
  refine g_aload_n 0 dL_law_1407 rfl rfl ?_
  refine g_iload_n 3 dL_law_1408 rfl rfl ?_
  refine g_iconst (v := 2) dL_law_1409 (by decide) ?_
  refine g_iadd dL_law_1410 ?_
  refine g_sld hL dL_law_1411 (vin_off (k := 2) rfl (by omega) hLb) ?_
  refine g_callVl (ci := 6) (As := [.int (xs (Int32.toNatClampNeg (nI i + 1))), .int (xs (Int32.toNatClampNeg (nI i + 2)))]) (rest := [.long r]) (w2 := wT cs ad1 t2 ++ wO cs ad2 u2) 61 dL_law_1412 vL_157 (c_X6_score ad2 hty h2) rfl (midR _ _ wT_len) rfl rfl 0 wlaO_0 rfl (Nat.le_of_ble_eq_true rfl) ⟨by decide, by decide⟩ (midR2 _ _ _ wT_len) ?_
  refine g_lcmp dL_law_1415 ?_
  refine g_if_eq (tgt := 1504) dL_law_1416 (by decide) (fun _ => ?_) (fun h => absurd (lgc r) h)
  exact next t2 u2 hR2
set_option maxHeartbeats 4000000 in
set_option maxRecDepth 100000 in
theorem law_case_keep {E : GE} {cs : CS} {P : XP} {ad1 ad2 : Nat → Nat} {b L i F : Nat} {xs : Nat → Int32} {Rel : ST → SO → Prop} {t : ST} {u : SO} (S : Sim_keep Rel F) (hty : eT E = tyA cs) (hN : eX E = XS P) (hL : LX E b L xs) (hLb : L ≤ 3584) (hi : i + 7 ≤ L) (hR : Rel t u) (next : ∀ (t : ST) (u : SO), Rel t u → G E kL 76 3678 1504 [(0, .ref b), (1, .ref (ad1 0)), (2, .ref (ad2 0)), (3, .int (nI i))] [] (wT cs ad1 t ++ wO cs ad2 u)) : G E kL 76 3678 1421 [(0, .ref b), (1, .ref (ad1 0)), (2, .ref (ad2 0)), (3, .int (nI i))] [] (wT cs ad1 t ++ wO cs ad2 u) := by
  obtain ⟨r, t2, u2, h1, h2, hR2⟩ := S t u (xs (Int32.toNatClampNeg (nI i + 1))) hR
  refine g_aload_n 1 dL_law_1421 rfl rfl ?_
  refine g_aload_n 0 dL_law_1422 rfl rfl ?_
  refine g_iload_n 3 dL_law_1423 rfl rfl ?_
  refine g_iconst (v := 1) dL_law_1424 (by decide) ?_
  refine g_iadd dL_law_1425 ?_
  refine g_sld hL dL_law_1426 (vin_off (k := 1) rfl (by omega) hLb) ?_
  refine g_callVi (ci := 5) (As := [.int (xs (Int32.toNatClampNeg (nI i + 1)))]) (rest := []) (w2 := wT cs ad1 t2 ++ wO cs ad2 u) 0 dL_law_1427 vL_158 (c_X5_keep ad1 hty h1) rfl (midL _ _) rfl rfl 0 wlaT_0 rfl (Nat.le_of_ble_eq_true rfl) ⟨by decide, by decide⟩ (midL2 _ _ _) ?_
  refine g_aload_n 2 dL_law_1430 rfl rfl ?_
  refine g_aload_n 0 dL_law_1431 rfl rfl ?_
  refine g_iload_n 3 dL_law_1432 rfl rfl ?_
  refine g_iconst (v := 1) dL_law_1433 (by decide) ?_
  refine g_iadd dL_law_1434 ?_
  refine g_sld hL dL_law_1435 (vin_off (k := 1) rfl (by omega) hLb) ?_
  refine g_callVi (ci := 6) (As := [.int (xs (Int32.toNatClampNeg (nI i + 1)))]) (rest := [.int r]) (w2 := wT cs ad1 t2 ++ wO cs ad2 u2) 61 dL_law_1436 vL_161 (c_X6_keep ad2 hty h2) rfl (midR _ _ wT_len) rfl rfl 0 wlaO_0 rfl (Nat.le_of_ble_eq_true rfl) ⟨by decide, by decide⟩ (midR2 _ _ _ wT_len) ?_
  refine g_icmp_eq (tgt := 1504) dL_law_1439 (by decide) (fun _ => ?_) (fun h => absurd rfl h)
  exact next t2 u2 hR2
set_option maxHeartbeats 4000000 in
set_option maxRecDepth 100000 in
theorem law_case_back {E : GE} {cs : CS} {P : XP} {ad1 ad2 : Nat → Nat} {b L i F : Nat} {xs : Nat → Int32} {Rel : ST → SO → Prop} {t : ST} {u : SO} (S : Sim_back Rel F) (hty : eT E = tyA cs) (hN : eX E = XS P) (hL : LX E b L xs) (hLb : L ≤ 3584) (hi : i + 7 ≤ L) (hR : Rel t u) (next : ∀ (t : ST) (u : SO), Rel t u → G E kL 76 3678 1504 [(0, .ref b), (1, .ref (ad1 0)), (2, .ref (ad2 0)), (3, .int (nI i))] [] (wT cs ad1 t ++ wO cs ad2 u)) : G E kL 76 3678 1444 [(0, .ref b), (1, .ref (ad1 0)), (2, .ref (ad2 0)), (3, .int (nI i))] [] (wT cs ad1 t ++ wO cs ad2 u) := by
  obtain ⟨r, t2, u2, h1, h2, hR2⟩ := S t u (xs (Int32.toNatClampNeg (nI i + 1))) hR
  refine g_aload_n 1 dL_law_1444 rfl rfl ?_
  refine g_aload_n 0 dL_law_1445 rfl rfl ?_
  refine g_iload_n 3 dL_law_1446 rfl rfl ?_
  refine g_iconst (v := 1) dL_law_1447 (by decide) ?_
  refine g_iadd dL_law_1448 ?_
  refine g_sld hL dL_law_1449 (vin_off (k := 1) rfl (by omega) hLb) ?_
  refine g_callVi (ci := 5) (As := [.int (xs (Int32.toNatClampNeg (nI i + 1)))]) (rest := []) (w2 := wT cs ad1 t2 ++ wO cs ad2 u) 0 dL_law_1450 vL_162 (c_X5_back ad1 hty h1) rfl (midL _ _) rfl rfl 0 wlaT_0 rfl (Nat.le_of_ble_eq_true rfl) ⟨by decide, by decide⟩ (midL2 _ _ _) ?_
  refine g_aload_n 2 dL_law_1453 rfl rfl ?_
  refine g_aload_n 0 dL_law_1454 rfl rfl ?_
  refine g_iload_n 3 dL_law_1455 rfl rfl ?_
  refine g_iconst (v := 1) dL_law_1456 (by decide) ?_
  refine g_iadd dL_law_1457 ?_
  refine g_sld hL dL_law_1458 (vin_off (k := 1) rfl (by omega) hLb) ?_
  refine g_callVi (ci := 6) (As := [.int (xs (Int32.toNatClampNeg (nI i + 1)))]) (rest := [.int r]) (w2 := wT cs ad1 t2 ++ wO cs ad2 u2) 61 dL_law_1459 vL_165 (c_X6_back ad2 hty h2) rfl (midR _ _ wT_len) rfl rfl 0 wlaO_0 rfl (Nat.le_of_ble_eq_true rfl) ⟨by decide, by decide⟩ (midR2 _ _ _ wT_len) ?_
  refine g_icmp_eq (tgt := 1504) dL_law_1462 (by decide) (fun _ => ?_) (fun h => absurd rfl h)
  exact next t2 u2 hR2
set_option maxHeartbeats 4000000 in
set_option maxRecDepth 100000 in
theorem law_case_count {E : GE} {cs : CS} {P : XP} {ad1 ad2 : Nat → Nat} {b L i F : Nat} {xs : Nat → Int32} {Rel : ST → SO → Prop} {t : ST} {u : SO} (S : Sim_count Rel F) (hty : eT E = tyA cs) (hN : eX E = XS P) (hL : LX E b L xs) (hLb : L ≤ 3584) (hi : i + 7 ≤ L) (hR : Rel t u) (next : ∀ (t : ST) (u : SO), Rel t u → G E kL 76 3678 1504 [(0, .ref b), (1, .ref (ad1 0)), (2, .ref (ad2 0)), (3, .int (nI i))] [] (wT cs ad1 t ++ wO cs ad2 u)) : G E kL 76 3678 1467 [(0, .ref b), (1, .ref (ad1 0)), (2, .ref (ad2 0)), (3, .int (nI i))] [] (wT cs ad1 t ++ wO cs ad2 u) := by
  obtain ⟨r, u2, h1, h2, hR2⟩ := S t u (xs (Int32.toNatClampNeg (nI i + 1))) hR
  refine g_aload_n 1 dL_law_1467 rfl rfl ?_
  refine g_aload_n 0 dL_law_1468 rfl rfl ?_
  refine g_iload_n 3 dL_law_1469 rfl rfl ?_
  refine g_iconst (v := 1) dL_law_1470 (by decide) ?_
  refine g_iadd dL_law_1471 ?_
  refine g_sld hL dL_law_1472 (vin_off (k := 1) rfl (by omega) hLb) ?_
  refine g_callVi (ci := 5) (As := [.int (xs (Int32.toNatClampNeg (nI i + 1)))]) (rest := []) (w2 := wT cs ad1 t ++ wO cs ad2 u) 0 dL_law_1473 vL_166 (c_X5_count ad1 hty h1) rfl (midL _ _) rfl rfl 0 wlaT_0 rfl (Nat.le_of_ble_eq_true rfl) ⟨by decide, by decide⟩ (midL2 _ _ _) ?_
  refine g_aload_n 2 dL_law_1476 rfl rfl ?_
  refine g_aload_n 0 dL_law_1477 rfl rfl ?_
  refine g_iload_n 3 dL_law_1478 rfl rfl ?_
  refine g_iconst (v := 1) dL_law_1479 (by decide) ?_
  refine g_iadd dL_law_1480 ?_
  refine g_sld hL dL_law_1481 (vin_off (k := 1) rfl (by omega) hLb) ?_
  refine g_callVi (ci := 6) (As := [.int (xs (Int32.toNatClampNeg (nI i + 1)))]) (rest := [.int r]) (w2 := wT cs ad1 t ++ wO cs ad2 u2) 61 dL_law_1482 vL_169 (c_X6_count ad2 hty h2) rfl (midR _ _ wT_len) rfl rfl 0 wlaO_0 rfl (Nat.le_of_ble_eq_true rfl) ⟨by decide, by decide⟩ (midR2 _ _ _ wT_len) ?_
  refine g_icmp_eq (tgt := 1504) dL_law_1485 (by decide) (fun _ => ?_) (fun h => absurd rfl h)
  exact next t u2 hR2
set_option maxHeartbeats 4000000 in
set_option maxRecDepth 100000 in
theorem law_case_trace {E : GE} {cs : CS} {P : XP} {ad1 ad2 : Nat → Nat} {b L i F : Nat} {xs : Nat → Int32} {Rel : ST → SO → Prop} {t : ST} {u : SO} (S : Sim_trace Rel F) (hty : eT E = tyA cs) (hN : eX E = XS P) (hL : LX E b L xs) (hLb : L ≤ 3584) (hi : i + 7 ≤ L) (hR : Rel t u) (next : ∀ (t : ST) (u : SO), Rel t u → G E kL 76 3678 1504 [(0, .ref b), (1, .ref (ad1 0)), (2, .ref (ad2 0)), (3, .int (nI i))] [] (wT cs ad1 t ++ wO cs ad2 u)) : G E kL 76 3678 1490 [(0, .ref b), (1, .ref (ad1 0)), (2, .ref (ad2 0)), (3, .int (nI i))] [] (wT cs ad1 t ++ wO cs ad2 u) := by
  obtain ⟨r, u2, h1, h2, hR2⟩ := S t u hR
  refine g_aload_n 1 dL_law_1490 rfl rfl ?_
  refine g_callVl (ci := 5) (As := []) (rest := []) (w2 := wT cs ad1 t ++ wO cs ad2 u) 0 dL_law_1491 vL_170 (c_X5_trace ad1 hty h1) rfl (midL _ _) rfl rfl 0 wlaT_0 rfl (Nat.le_of_ble_eq_true rfl) ⟨by decide, by decide⟩ (midL2 _ _ _) ?_
  refine g_aload_n 2 dL_law_1494 rfl rfl ?_
  refine g_callVl (ci := 6) (As := []) (rest := [.long r]) (w2 := wT cs ad1 t ++ wO cs ad2 u2) 61 dL_law_1495 vL_174 (c_X6_trace ad2 hty h2) rfl (midR _ _ wT_len) rfl rfl 0 wlaO_0 rfl (Nat.le_of_ble_eq_true rfl) ⟨by decide, by decide⟩ (midR2 _ _ _ wT_len) ?_
  refine g_lcmp dL_law_1498 ?_
  refine g_if_eq (tgt := 1504) dL_law_1499 (by decide) (fun _ => ?_) (fun h => absurd (lgc r) h)
  exact next t u2 hR2
theorem ge_off {i L : Nat} (hL : L ≤ 3584) (hi : i ≤ 3584) (h : ¬ Int32.ofNat L - 7 < nI i) : i + 7 ≤ L := by
  have h1 := Int32.not_lt.mp h
  rw [Int32.le_iff_toInt_le] at h1
  have e1 : (Int32.ofNat L - 7).toInt = (L : Int) - 7 := by
    have := pk_sub_toInt (a := L) (b := 7) (by omega) (by omega)
    exact this
  rw [e1, nI_toInt (by omega)] at h1
  omega
set_option maxHeartbeats 8000000 in
set_option maxRecDepth 100000 in
theorem law_loop {E : GE} {cs : CS} {P : XP} {ad1 ad2 : Nat → Nat} {b L F : Nat} {xs : Nat → Int32} {Rel : ST → SO → Prop} (S : Sims Rel F) (hty : eT E = tyA cs) (hN : eX E = XS P) (hL : LX E b L xs) (hLb : L ≤ 3584) (hr : ∀ (lv : List (Nat × Value)) (w : va_W), G E kL 76 3678 1511 lv [.int 1] w) : ∀ (n i : Nat) (t : ST) (u : SO), i ≤ L → L + 1 ≤ i + n → Rel t u → G E kL 76 3678 18 [(0, .ref b), (1, .ref (ad1 0)), (2, .ref (ad2 0)), (3, .int (nI i))] [] (wT cs ad1 t ++ wO cs ad2 u) := by
  intro n
  induction n with
  | zero =>
    intro i t u h1 h2
    exact absurd h2 (by omega)
  | succ n ih =>
    intro i t u hi hn hR
    refine g_iload_n 3 dL_law_18 rfl rfl ?_
    refine g_aload_n 0 dL_law_19 rfl rfl ?_
    refine g_slen hL dL_law_20 ?_
    refine g_bipush (v := 7) dL_law_21 (by decide) ?_
    refine g_isub dL_law_23 ?_
    refine g_icmp_gt (tgt := 1510) dL_law_24 (by decide) (fun h => ?_) (fun h => ?_)
    · refine g_iconst (v := 1) dL_law_1510 (by decide) ?_
      exact hr _ _
    · have h7 := ge_off hLb (by omega) h
      have next : ∀ (t : ST) (u : SO), Rel t u → G E kL 76 3678 1504 [(0, .ref b), (1, .ref (ad1 0)), (2, .ref (ad2 0)), (3, .int (nI i))] [] (wT cs ad1 t ++ wO cs ad2 u) := by
        intro t u hR
        refine g_iinc (v := nI (i + 7)) (lv2 := [(3, .int (nI (i + 7))), (0, .ref b), (1, .ref (ad1 0)), (2, .ref (ad2 0))]) 3 dL_law_1504 rfl (nI_add i 7) (by decide) rfl ?_
        refine g_goto (tgt := 18) dL_law_1507 (by decide) ?_
        exact g_sub [1, 2, 3, 0] rfl (ih (i + 7) t u h7 (by omega) hR)
      refine g_aload_n 0 dL_law_27 rfl rfl ?_
      refine g_iload_n 3 dL_law_28 rfl rfl ?_
      refine g_sld hL dL_law_29 (vp_in_nI (by omega) (by omega)) ?_
      refine g_bipush (v := 63) dL_law_30 (by decide) ?_
      refine g_iand dL_law_32 ?_
      generalize xs (nI i).toNatClampNeg &&& 63 = x
      by_cases h_0 : x = 0
      · subst h_0
        refine g_tableIn (off := 163) (tgt := 196) dL_law_33 (by decide) (by decide) (by decide) (by decide) ?_
        exact law_case_type S.1 hty hN hL hLb h7 hR next
      by_cases h_1 : x = 1
      · subst h_1
        refine g_tableIn (off := 226) (tgt := 259) dL_law_33 (by decide) (by decide) (by decide) (by decide) ?_
        exact law_case_clear S.2.1 hty hN hL hLb h7 hR next
      by_cases h_2 : x = 2
      · subst h_2
        refine g_tableIn (off := 239) (tgt := 272) dL_law_33 (by decide) (by decide) (by decide) (by decide) ?_
        exact law_case_market S.2.2.1 hty hN hL hLb h7 hR next
      by_cases h_3 : x = 3
      · subst h_3
        refine g_tableIn (off := 252) (tgt := 285) dL_law_33 (by decide) (by decide) (by decide) (by decide) ?_
        exact law_case_stall S.2.2.2.1 hty hN hL hLb h7 hR next
      by_cases h_4 : x = 4
      · subst h_4
        refine g_tableIn (off := 285) (tgt := 318) dL_law_33 (by decide) (by decide) (by decide) (by decide) ?_
        exact law_case_way S.2.2.2.2.1 hty hN hL hLb h7 hR next
      by_cases h_5 : x = 5
      · subst h_5
        refine g_tableIn (off := 318) (tgt := 351) dL_law_33 (by decide) (by decide) (by decide) (by decide) ?_
        exact law_case_often S.2.2.2.2.2.1 hty hN hL hLb h7 hR next
      by_cases h_6 : x = 6
      · subst h_6
        refine g_tableIn (off := 371) (tgt := 404) dL_law_33 (by decide) (by decide) (by decide) (by decide) ?_
        exact law_case_bag S.2.2.2.2.2.2.1 hty hN hL hLb h7 hR next
      by_cases h_7 : x = 7
      · subst h_7
        refine g_tableIn (off := 446) (tgt := 479) dL_law_33 (by decide) (by decide) (by decide) (by decide) ?_
        exact law_case_about S.2.2.2.2.2.2.2.1 hty hN hL hLb h7 hR next
      by_cases h_8 : x = 8
      · subst h_8
        refine g_tableIn (off := 480) (tgt := 513) dL_law_33 (by decide) (by decide) (by decide) (by decide) ?_
        exact law_case_look S.2.2.2.2.2.2.2.2.1 hty hN hL hLb h7 hR next
      by_cases h_9 : x = 9
      · subst h_9
        refine g_tableIn (off := 555) (tgt := 588) dL_law_33 (by decide) (by decide) (by decide) (by decide) ?_
        exact law_case_seldom S.2.2.2.2.2.2.2.2.2.1 hty hN hL hLb h7 hR next
      by_cases h_10 : x = 10
      · subst h_10
        refine g_tableIn (off := 619) (tgt := 652) dL_law_33 (by decide) (by decide) (by decide) (by decide) ?_
        exact law_case_counted S.2.2.2.2.2.2.2.2.2.2.1 hty hN hL hLb h7 hR next
      by_cases h_11 : x = 11
      · subst h_11
        refine g_tableIn (off := 643) (tgt := 676) dL_law_33 (by decide) (by decide) (by decide) (by decide) ?_
        exact law_case_likely S.2.2.2.2.2.2.2.2.2.2.2.1 hty hN hL hLb h7 hR next
      by_cases h_12 : x = 12
      · subst h_12
        refine g_tableIn (off := 687) (tgt := 720) dL_law_33 (by decide) (by decide) (by decide) (by decide) ?_
        exact law_case_belief S.2.2.2.2.2.2.2.2.2.2.2.2.1 hty hN hL hLb h7 hR next
      by_cases h_13 : x = 13
      · subst h_13
        refine g_tableIn (off := 720) (tgt := 753) dL_law_33 (by decide) (by decide) (by decide) (by decide) ?_
        exact law_case_odds S.2.2.2.2.2.2.2.2.2.2.2.2.2.1 hty hN hL hLb h7 hR next
      by_cases h_14 : x = 14
      · subst h_14
        refine g_tableIn (off := 764) (tgt := 797) dL_law_33 (by decide) (by decide) (by decide) (by decide) ?_
        exact law_case_judged S.2.2.2.2.2.2.2.2.2.2.2.2.2.2.1 hty hN hL hLb h7 hR next
      by_cases h_15 : x = 15
      · subst h_15
        refine g_tableIn (off := 787) (tgt := 820) dL_law_33 (by decide) (by decide) (by decide) (by decide) ?_
        exact law_case_apart S.2.2.2.2.2.2.2.2.2.2.2.2.2.2.2.1 hty hN hL hLb h7 hR next
      by_cases h_16 : x = 16
      · subst h_16
        refine g_tableIn (off := 840) (tgt := 873) dL_law_33 (by decide) (by decide) (by decide) (by decide) ?_
        exact law_case_follow S.2.2.2.2.2.2.2.2.2.2.2.2.2.2.2.2.1 hty hN hL hLb h7 hR next
      by_cases h_17 : x = 17
      · subst h_17
        refine g_tableIn (off := 883) (tgt := 916) dL_law_33 (by decide) (by decide) (by decide) (by decide) ?_
        exact law_case_bar S.2.2.2.2.2.2.2.2.2.2.2.2.2.2.2.2.2.1 hty hN hL hLb h7 hR next
      by_cases h_18 : x = 18
      · subst h_18
        refine g_tableIn (off := 916) (tgt := 949) dL_law_33 (by decide) (by decide) (by decide) (by decide) ?_
        exact law_case_done S.2.2.2.2.2.2.2.2.2.2.2.2.2.2.2.2.2.2.1 hty hN hL hLb h7 hR next
      by_cases h_19 : x = 19
      · subst h_19
        refine g_tableIn (off := 949) (tgt := 982) dL_law_33 (by decide) (by decide) (by decide) (by decide) ?_
        exact law_case_cost S.2.2.2.2.2.2.2.2.2.2.2.2.2.2.2.2.2.2.2.1 hty hN hL hLb h7 hR next
      by_cases h_20 : x = 20
      · subst h_20
        refine g_tableIn (off := 983) (tgt := 1016) dL_law_33 (by decide) (by decide) (by decide) (by decide) ?_
        exact law_case_enough S.2.2.2.2.2.2.2.2.2.2.2.2.2.2.2.2.2.2.2.2.1 hty hN hL hLb h7 hR next
      by_cases h_21 : x = 21
      · subst h_21
        refine g_tableIn (off := 1006) (tgt := 1039) dL_law_33 (by decide) (by decide) (by decide) (by decide) ?_
        exact law_case_year S.2.2.2.2.2.2.2.2.2.2.2.2.2.2.2.2.2.2.2.2.2.1 hty hN hL hLb h7 hR next
      by_cases h_22 : x = 22
      · subst h_22
        refine g_tableIn (off := 1050) (tgt := 1083) dL_law_33 (by decide) (by decide) (by decide) (by decide) ?_
        exact law_case_truly S.2.2.2.2.2.2.2.2.2.2.2.2.2.2.2.2.2.2.2.2.2.2.1 hty hN hL hLb h7 hR next
      by_cases h_23 : x = 23
      · subst h_23
        refine g_tableIn (off := 1084) (tgt := 1117) dL_law_33 (by decide) (by decide) (by decide) (by decide) ?_
        exact law_case_cheap S.2.2.2.2.2.2.2.2.2.2.2.2.2.2.2.2.2.2.2.2.2.2.2.1 hty hN hL hLb h7 hR next
      by_cases h_24 : x = 24
      · subst h_24
        refine g_tableIn (off := 1097) (tgt := 1130) dL_law_33 (by decide) (by decide) (by decide) (by decide) ?_
        exact law_case_favoured S.2.2.2.2.2.2.2.2.2.2.2.2.2.2.2.2.2.2.2.2.2.2.2.2.1 hty hN hL hLb h7 hR next
      by_cases h_25 : x = 25
      · subst h_25
        refine g_tableIn (off := 1120) (tgt := 1153) dL_law_33 (by decide) (by decide) (by decide) (by decide) ?_
        exact law_case_even S.2.2.2.2.2.2.2.2.2.2.2.2.2.2.2.2.2.2.2.2.2.2.2.2.2.1 hty hN hL hLb h7 hR next
      by_cases h_26 : x = 26
      · subst h_26
        refine g_tableIn (off := 1154) (tgt := 1187) dL_law_33 (by decide) (by decide) (by decide) (by decide) ?_
        exact law_case_trial S.2.2.2.2.2.2.2.2.2.2.2.2.2.2.2.2.2.2.2.2.2.2.2.2.2.2.1 hty hN hL hLb h7 hR next
      by_cases h_27 : x = 27
      · subst h_27
        refine g_tableIn (off := 1207) (tgt := 1240) dL_law_33 (by decide) (by decide) (by decide) (by decide) ?_
        exact law_case_middle S.2.2.2.2.2.2.2.2.2.2.2.2.2.2.2.2.2.2.2.2.2.2.2.2.2.2.2.1 hty hN hL hLb h7 hR next
      by_cases h_28 : x = 28
      · subst h_28
        refine g_tableIn (off := 1231) (tgt := 1264) dL_law_33 (by decide) (by decide) (by decide) (by decide) ?_
        exact law_case_drift S.2.2.2.2.2.2.2.2.2.2.2.2.2.2.2.2.2.2.2.2.2.2.2.2.2.2.2.2.1 hty hN hL hLb h7 hR next
      by_cases h_29 : x = 29
      · subst h_29
        refine g_tableIn (off := 1265) (tgt := 1298) dL_law_33 (by decide) (by decide) (by decide) (by decide) ?_
        exact law_case_lot S.2.2.2.2.2.2.2.2.2.2.2.2.2.2.2.2.2.2.2.2.2.2.2.2.2.2.2.2.2.1 hty hN hL hLb h7 hR next
      by_cases h_30 : x = 30
      · subst h_30
        refine g_tableIn (off := 1288) (tgt := 1321) dL_law_33 (by decide) (by decide) (by decide) (by decide) ?_
        exact law_case_sales S.2.2.2.2.2.2.2.2.2.2.2.2.2.2.2.2.2.2.2.2.2.2.2.2.2.2.2.2.2.2.1 hty hN hL hLb h7 hR next
      by_cases h_31 : x = 31
      · subst h_31
        refine g_tableIn (off := 1341) (tgt := 1374) dL_law_33 (by decide) (by decide) (by decide) (by decide) ?_
        exact law_case_steps S.2.2.2.2.2.2.2.2.2.2.2.2.2.2.2.2.2.2.2.2.2.2.2.2.2.2.2.2.2.2.2.1 hty hN hL hLb h7 hR next
      by_cases h_32 : x = 32
      · subst h_32
        refine g_tableIn (off := 1354) (tgt := 1387) dL_law_33 (by decide) (by decide) (by decide) (by decide) ?_
        exact law_case_score S.2.2.2.2.2.2.2.2.2.2.2.2.2.2.2.2.2.2.2.2.2.2.2.2.2.2.2.2.2.2.2.2.1 hty hN hL hLb h7 hR next
      by_cases h_33 : x = 33
      · subst h_33
        refine g_tableIn (off := 1388) (tgt := 1421) dL_law_33 (by decide) (by decide) (by decide) (by decide) ?_
        exact law_case_keep S.2.2.2.2.2.2.2.2.2.2.2.2.2.2.2.2.2.2.2.2.2.2.2.2.2.2.2.2.2.2.2.2.2.1 hty hN hL hLb h7 hR next
      by_cases h_34 : x = 34
      · subst h_34
        refine g_tableIn (off := 1411) (tgt := 1444) dL_law_33 (by decide) (by decide) (by decide) (by decide) ?_
        exact law_case_back S.2.2.2.2.2.2.2.2.2.2.2.2.2.2.2.2.2.2.2.2.2.2.2.2.2.2.2.2.2.2.2.2.2.2.1 hty hN hL hLb h7 hR next
      by_cases h_35 : x = 35
      · subst h_35
        refine g_tableIn (off := 1434) (tgt := 1467) dL_law_33 (by decide) (by decide) (by decide) (by decide) ?_
        exact law_case_count S.2.2.2.2.2.2.2.2.2.2.2.2.2.2.2.2.2.2.2.2.2.2.2.2.2.2.2.2.2.2.2.2.2.2.2.1 hty hN hL hLb h7 hR next
      by_cases h_36 : x = 36
      · subst h_36
        refine g_tableIn (off := 1457) (tgt := 1490) dL_law_33 (by decide) (by decide) (by decide) (by decide) ?_
        exact law_case_trace S.2.2.2.2.2.2.2.2.2.2.2.2.2.2.2.2.2.2.2.2.2.2.2.2.2.2.2.2.2.2.2.2.2.2.2.2 hty hN hL hLb h7 hR next
      have n_0 := lv_neT (a := 0) h_0 (by decide)
      have n_1 := lv_neT (a := 1) h_1 (by decide)
      have n_2 := lv_neT (a := 2) h_2 (by decide)
      have n_3 := lv_neT (a := 3) h_3 (by decide)
      have n_4 := lv_neT (a := 4) h_4 (by decide)
      have n_5 := lv_neT (a := 5) h_5 (by decide)
      have n_6 := lv_neT (a := 6) h_6 (by decide)
      have n_7 := lv_neT (a := 7) h_7 (by decide)
      have n_8 := lv_neT (a := 8) h_8 (by decide)
      have n_9 := lv_neT (a := 9) h_9 (by decide)
      have n_10 := lv_neT (a := 10) h_10 (by decide)
      have n_11 := lv_neT (a := 11) h_11 (by decide)
      have n_12 := lv_neT (a := 12) h_12 (by decide)
      have n_13 := lv_neT (a := 13) h_13 (by decide)
      have n_14 := lv_neT (a := 14) h_14 (by decide)
      have n_15 := lv_neT (a := 15) h_15 (by decide)
      have n_16 := lv_neT (a := 16) h_16 (by decide)
      have n_17 := lv_neT (a := 17) h_17 (by decide)
      have n_18 := lv_neT (a := 18) h_18 (by decide)
      have n_19 := lv_neT (a := 19) h_19 (by decide)
      have n_20 := lv_neT (a := 20) h_20 (by decide)
      have n_21 := lv_neT (a := 21) h_21 (by decide)
      have n_22 := lv_neT (a := 22) h_22 (by decide)
      have n_23 := lv_neT (a := 23) h_23 (by decide)
      have n_24 := lv_neT (a := 24) h_24 (by decide)
      have n_25 := lv_neT (a := 25) h_25 (by decide)
      have n_26 := lv_neT (a := 26) h_26 (by decide)
      have n_27 := lv_neT (a := 27) h_27 (by decide)
      have n_28 := lv_neT (a := 28) h_28 (by decide)
      have n_29 := lv_neT (a := 29) h_29 (by decide)
      have n_30 := lv_neT (a := 30) h_30 (by decide)
      have n_31 := lv_neT (a := 31) h_31 (by decide)
      have n_32 := lv_neT (a := 32) h_32 (by decide)
      have n_33 := lv_neT (a := 33) h_33 (by decide)
      have n_34 := lv_neT (a := 34) h_34 (by decide)
      have n_35 := lv_neT (a := 35) h_35 (by decide)
      have n_36 := lv_neT (a := 36) h_36 (by decide)
      refine g_tableOut (tgt := 1504) dL_law_33 (by omega) (by decide) ?_
      exact next t u hR
