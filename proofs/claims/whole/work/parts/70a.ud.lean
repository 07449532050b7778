/-! ===== truly, cheap, favoured ===== -/
def tlS (b : SB) (i nb : Nat) : Int := zs (isq b (nI i) 15) (fun k => (B_bagTold b k).toInt) nb
def shS (b : SB) (i nb : Nat) : Int := zs (isq b (nI i) 15) (fun k => (B_bagShort b k).toInt) nb
theorem tl_b {m : SM} {ns nb i : Nat} {b : SB} {s : Nat → Int32} (hn : nb ≤ 30) (hb : ∀ k, k < nb → okBag m ns b s k) : 0 ≤ tlS b i nb ∧ tlS b i nb ≤ 30000 := by
  have := zs_b (p := isq b (nI i) 15) (f := fun k => (B_bagTold b k).toInt) (A := 0) (B := 999) (n := nb) (by omega) (by omega) (fun k hk => by have := told_b (hb k hk); show -0 ≤ (B_bagTold b k).toInt ∧ _; omega)
  unfold tlS
  omega
theorem sh_b {m : SM} {ns nw nb i : Nat} {b : SB} {s : Nat → Int32} (q : Int32) (hn : nb ≤ 30) (hO : okM m ns nw) (hb : ∀ k, k < nb → okBag m ns b s k) : -33000 ≤ zs (isq b (nI i) q) (fun k => (B_bagShort b k).toInt) nb ∧ zs (isq b (nI i) q) (fun k => (B_bagShort b k).toInt) nb ≤ 33000 := by
  have := zs_b (p := isq b (nI i) q) (f := fun k => (B_bagShort b k).toInt) (A := 1100) (B := 1100) (n := nb) (by omega) (by omega) (fun k hk => short_b hO (hb k hk))
  omega
def prN (m : SM) (i : Nat) : Nat := (M_price m i).toNatClampNeg
theorem pr_e {m : SM} {ns nw i : Nat} (hO : okM m ns nw) (hi : i < ns) : M_price m i = nI (prN m i) ∧ prN m i ≤ 99 := by
  obtain ⟨k, k1, k2, k3⟩ := (hO.2.2.1 i hi).2.2
  unfold prN
  rw [k3, cl (by omega)]
  exact ⟨rfl, k2⟩
theorem paid_c {F ns nw nb i : Nat} {t : ST} {s : Nat → Int32} (hF : nb < F) (hn : nb ≤ 30) (hi : i < ns) (hO : okM (T_market t) ns nw) (hb : B_bags (T_book t) = nI nb) (hs : ∀ k, k < nb → okBag (T_market t) ns (T_book t) s k) : f_X5_paidFor F t (nI i) = some (zL (tlS (T_book t) i nb * prN (T_market t) i)) := by
  have h6 := hO.1.1
  have e := pr_e hO hi
  have b := tl_b (i := i) hn hs
  have q := toldOf_q (F := F) (nI i) hF hn hb
  unfold f_X5_paidFor
  rw [ochi_n (by omega) (by omega), q, obd_s, cl (by omega), e.1, nI_l (by omega), lN_z]
  have : zI (zs (isq (T_book t) (nI i) 15) (fun k => (B_bagTold (T_book t) k).toInt) nb) = zI (tlS (T_book t) i nb) := rfl
  rw [this, zI_l (by omega) (by omega), zL_mul, Int.mul_comm]
theorem given_c {F ns nw nb i : Nat} {t : ST} {s : Nat → Int32} (hF : nb < F) (hn : nb ≤ 30) (hO : okM (T_market t) ns nw) (hb : B_bags (T_book t) = nI nb) (hs : ∀ k, k < nb → okBag (T_market t) ns (T_book t) s k) : f_X5_trulyGiven F t (nI i) = some (zL (tlS (T_book t) i nb - shS (T_book t) i nb)) := by
  have b := tl_b (i := i) hn hs
  have b2 := sh_b (i := i) 15 hn hO hs
  have q := toldOf_q (F := F) (nI i) hF hn hb
  have q2 := shortsOf_q (F := F) (nI i) 15 hF hn hb
  unfold f_X5_trulyGiven
  rw [q, q2, obd_s, obd_s, zI_sub]
  have b3 : -33000 ≤ shS (T_book t) i nb ∧ shS (T_book t) i nb ≤ 33000 := b2
  exact congrArg some (zI_l (z := tlS (T_book t) i nb - shS (T_book t) i nb) (by omega) (by omega))
theorem SO_ext {u v : SO} (h0 : O_thrown u = O_thrown v) (h1 : O_trace u = O_trace v) (h2 : O_s u = O_s v) (h3 : O_kept u = O_kept v) (h4 : O_isKept u = O_isKept v) (h5 : O_latest u = O_latest v) (h6 : O_text u = O_text v) (h7 : O_typed u = O_typed v) (h8 : O_next u = O_next v) (h9 : O_token u = O_token v) (h10 : O_place u = O_place v) (h11 : O_value u = O_value v) (h12 : O_fault u = O_fault v) (h13 : O_luck u = O_luck v) (h14 : O_stall u = O_stall v) (h15 : O_way u = O_way v) (h16 : O_stalls u = O_stalls v) (h17 : O_ways u = O_ways v) (h18 : O_draftStalls u = O_draftStalls v) (h19 : O_draftWays u = O_draftWays v) (h20 : O_beliefs u = O_beliefs v) (h21 : O_bars u = O_bars v) (h22 : O_triangle u = O_triangle v) (h23 : O_costs u = O_costs v) (h24 : O_dones u = O_dones v) (h25 : O_row u = O_row v) (h26 : O_up u = O_up v) (h27 : O_down u = O_down v) (h28 : O_soldSteps u = O_soldSteps v) : u = v := Prod.ext h0 (Prod.ext h1 (Prod.ext h2 (Prod.ext h3 (Prod.ext h4 (Prod.ext h5 (Prod.ext h6 (Prod.ext h7 (Prod.ext h8 (Prod.ext h9 (Prod.ext h10 (Prod.ext h11 (Prod.ext h12 (Prod.ext h13 (Prod.ext h14 (Prod.ext h15 (Prod.ext h16 (Prod.ext h17 (Prod.ext h18 (Prod.ext h19 (Prod.ext h20 (Prod.ext h21 (Prod.ext h22 (Prod.ext h23 (Prod.ext h24 (Prod.ext h25 (Prod.ext h26 (Prod.ext h27 (h28))))))))))))))))))))))))))))
theorem ST_ext {u v : ST} (h0 : T_textLength u = T_textLength v) (h1 : T_reader u = T_reader v) (h2 : T_market u = T_market v) (h3 : T_beliefs u = T_beliefs v) (h4 : T_book u = T_book v) (h5 : T_img0 u = T_img0 v) (h6 : T_img1 u = T_img1 v) (h7 : T_kept u = T_kept v) (h8 : T_honestRows u = T_honestRows v) (h9 : T_verdict u = T_verdict v) (h10 : T_sortedOffs u = T_sortedOffs v) (h11 : T_chanceSteps u = T_chanceSteps v) (h12 : T_chanceOften u = T_chanceOften v) (h13 : T_stepsSold u = T_stepsSold v) (h14 : T_traced u = T_traced v) : u = v := Prod.ext h0 (Prod.ext h1 (Prod.ext h2 (Prod.ext h3 (Prod.ext h4 (Prod.ext h5 (Prod.ext h6 (Prod.ext h7 (Prod.ext h8 (Prod.ext h9 (Prod.ext h10 (Prod.ext h11 (Prod.ext h12 (Prod.ext h13 (h14))))))))))))))
def ud (u : SO) (x y : Int64) : SO := uO_down (uO_up u x) y
theorem ud_s (u : SO) (x y : Int64) : O_s (ud u x y) = O_s u := rfl
theorem ud_up (u : SO) (x y : Int64) : O_up (ud u x y) = x := rfl
theorem ud_dn (u : SO) (x y : Int64) : O_down (ud u x y) = y := rfl
theorem ud_st (u : SO) (x y : Int64) : O_stall (ud u x y) = O_stall u := rfl
theorem ud_sts (u : SO) (x y : Int64) : O_stalls (ud u x y) = O_stalls u := rfl
theorem ud_u1 (u : SO) (x y z : Int64) : uO_up (ud u x y) z = ud u z y := by
  apply SO_ext <;> simp only [ud, xO_thrown_up, xO_trace_up, xO_s_up, xO_kept_up, xO_isKept_up, xO_latest_up, xO_text_up, xO_typed_up, xO_next_up, xO_token_up, xO_place_up, xO_value_up, xO_fault_up, xO_luck_up, xO_stall_up, xO_way_up, xO_stalls_up, xO_ways_up, xO_draftStalls_up, xO_draftWays_up, xO_beliefs_up, xO_bars_up, xO_triangle_up, xO_costs_up, xO_dones_up, xO_row_up, xO_up_up, xO_down_up, xO_soldSteps_up, zO_up, xO_thrown_down, xO_trace_down, xO_s_down, xO_kept_down, xO_isKept_down, xO_latest_down, xO_text_down, xO_typed_down, xO_next_down, xO_token_down, xO_place_down, xO_value_down, xO_fault_down, xO_luck_down, xO_stall_down, xO_way_down, xO_stalls_down, xO_ways_down, xO_draftStalls_down, xO_draftWays_down, xO_beliefs_down, xO_bars_down, xO_triangle_down, xO_costs_down, xO_dones_down, xO_row_down, xO_up_down, xO_down_down, xO_soldSteps_down, zO_down]
theorem ud_u2 (u : SO) (x y z : Int64) : uO_down (ud u x y) z = ud u x z := by
  apply SO_ext <;> simp only [ud, xO_thrown_up, xO_trace_up, xO_s_up, xO_kept_up, xO_isKept_up, xO_latest_up, xO_text_up, xO_typed_up, xO_next_up, xO_token_up, xO_place_up, xO_value_up, xO_fault_up, xO_luck_up, xO_stall_up, xO_way_up, xO_stalls_up, xO_ways_up, xO_draftStalls_up, xO_draftWays_up, xO_beliefs_up, xO_bars_up, xO_triangle_up, xO_costs_up, xO_dones_up, xO_row_up, xO_up_up, xO_down_up, xO_soldSteps_up, zO_up, xO_thrown_down, xO_trace_down, xO_s_down, xO_kept_down, xO_isKept_down, xO_latest_down, xO_text_down, xO_typed_down, xO_next_down, xO_token_down, xO_place_down, xO_value_down, xO_fault_down, xO_luck_down, xO_stall_down, xO_way_down, xO_stalls_down, xO_ways_down, xO_draftStalls_down, xO_draftWays_down, xO_beliefs_down, xO_bars_down, xO_triangle_down, xO_costs_down, xO_dones_down, xO_row_down, xO_up_down, xO_down_down, xO_soldSteps_down, zO_down]
theorem ud_ud (u : SO) (x y z w : Int64) : ud (ud u x y) z w = ud u z w := by
  apply SO_ext <;> simp only [ud, xO_thrown_up, xO_trace_up, xO_s_up, xO_kept_up, xO_isKept_up, xO_latest_up, xO_text_up, xO_typed_up, xO_next_up, xO_token_up, xO_place_up, xO_value_up, xO_fault_up, xO_luck_up, xO_stall_up, xO_way_up, xO_stalls_up, xO_ways_up, xO_draftStalls_up, xO_draftWays_up, xO_beliefs_up, xO_bars_up, xO_triangle_up, xO_costs_up, xO_dones_up, xO_row_up, xO_up_up, xO_down_up, xO_soldSteps_up, zO_up, xO_thrown_down, xO_trace_down, xO_s_down, xO_kept_down, xO_isKept_down, xO_latest_down, xO_text_down, xO_typed_down, xO_next_down, xO_token_down, xO_place_down, xO_value_down, xO_fault_down, xO_luck_down, xO_stall_down, xO_way_down, xO_stalls_down, xO_ways_down, xO_draftStalls_down, xO_draftWays_down, xO_beliefs_down, xO_bars_down, xO_triangle_down, xO_costs_down, xO_dones_down, xO_row_down, xO_up_down, xO_down_down, xO_soldSteps_down, zO_down]
theorem ud_eta (u : SO) : ud u (O_up u) (O_down u) = u := rfl
theorem ud_reM {m : SM} {ns nw : Nat} {u : SO} (h : reM m u ns nw) (x y : Int64) : reM m (ud u x y) ns nw := h
theorem ud_Rel {t : ST} {u : SO} (h : Rel t u) (x y : Int64) : Rel t (ud u x y) := h
