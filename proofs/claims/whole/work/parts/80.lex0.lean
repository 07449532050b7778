section
/-! ===== the reading states of the two ===== -/
def sR (tx : Nat → Int32) (m : SM) (n : Nat) (lt sg : Int32) (P A : Nat) (vl tk : Int32) : SR := (tx, m, nI n, lt, sg, nI P, nI A, vl, tk)
def mO (u : SO) (nx tok plc val flt : Int32) (lk st wy : Nat → Int32) (ds dw : Int32) : SO := (O_thrown u, O_trace u, O_s u, O_kept u, O_isKept u, O_latest u, O_text u, O_typed u, nx, tok, plc, val, flt, lk, st, wy, O_stalls u, O_ways u, ds, dw, O_beliefs u, O_bars u, O_triangle u, O_costs u, O_dones u, O_row u, O_up u, O_down u, O_soldSteps u)
theorem yR_text (tx : Nat → Int32) (m : SM) (n : Nat) (lt sg : Int32) (P A : Nat) (vl tk : Int32) : R_text (sR tx m n lt sg P A vl tk) = tx := id rfl
theorem yR_into (tx : Nat → Int32) (m : SM) (n : Nat) (lt sg : Int32) (P A : Nat) (vl tk : Int32) : R_into (sR tx m n lt sg P A vl tk) = m := id rfl
theorem yR_length (tx : Nat → Int32) (m : SM) (n : Nat) (lt sg : Int32) (P A : Nat) (vl tk : Int32) : R_length (sR tx m n lt sg P A vl tk) = nI n := id rfl
theorem yR_luckTold (tx : Nat → Int32) (m : SM) (n : Nat) (lt sg : Int32) (P A : Nat) (vl tk : Int32) : R_luckTold (sR tx m n lt sg P A vl tk) = lt := id rfl
theorem yR_sign (tx : Nat → Int32) (m : SM) (n : Nat) (lt sg : Int32) (P A : Nat) (vl tk : Int32) : R_sign (sR tx m n lt sg P A vl tk) = sg := id rfl
theorem yR_place (tx : Nat → Int32) (m : SM) (n : Nat) (lt sg : Int32) (P A : Nat) (vl tk : Int32) : R_place (sR tx m n lt sg P A vl tk) = nI P := id rfl
theorem yR_after (tx : Nat → Int32) (m : SM) (n : Nat) (lt sg : Int32) (P A : Nat) (vl tk : Int32) : R_after (sR tx m n lt sg P A vl tk) = nI A := id rfl
theorem yR_value (tx : Nat → Int32) (m : SM) (n : Nat) (lt sg : Int32) (P A : Nat) (vl tk : Int32) : R_value (sR tx m n lt sg P A vl tk) = vl := id rfl
theorem yR_taken (tx : Nat → Int32) (m : SM) (n : Nat) (lt sg : Int32) (P A : Nat) (vl tk : Int32) : R_taken (sR tx m n lt sg P A vl tk) = tk := id rfl
theorem vR_into (tx : Nat → Int32) (m : SM) (n : Nat) (lt sg : Int32) (P A : Nat) (vl tk : Int32) (z : SM) : uR_into (sR tx m n lt sg P A vl tk) z = sR tx z n lt sg P A vl tk := id rfl
theorem vR_luckTold (tx : Nat → Int32) (m : SM) (n : Nat) (lt sg : Int32) (P A : Nat) (vl tk : Int32) (z : Int32) : uR_luckTold (sR tx m n lt sg P A vl tk) z = sR tx m n z sg P A vl tk := id rfl
theorem vR_sign (tx : Nat → Int32) (m : SM) (n : Nat) (lt sg : Int32) (P A : Nat) (vl tk : Int32) (z : Int32) : uR_sign (sR tx m n lt sg P A vl tk) z = sR tx m n lt z P A vl tk := id rfl
theorem vR_value (tx : Nat → Int32) (m : SM) (n : Nat) (lt sg : Int32) (P A : Nat) (vl tk : Int32) (z : Int32) : uR_value (sR tx m n lt sg P A vl tk) z = sR tx m n lt sg P A z tk := id rfl
theorem vR_taken (tx : Nat → Int32) (m : SM) (n : Nat) (lt sg : Int32) (P A : Nat) (vl tk : Int32) (z : Int32) : uR_taken (sR tx m n lt sg P A vl tk) z = sR tx m n lt sg P A vl z := id rfl
theorem vR_place (tx : Nat → Int32) (m : SM) (n : Nat) (lt sg : Int32) (P A : Nat) (vl tk : Int32) (z : Nat) : uR_place (sR tx m n lt sg P A vl tk) (nI z) = sR tx m n lt sg z A vl tk := id rfl
theorem vR_after (tx : Nat → Int32) (m : SM) (n : Nat) (lt sg : Int32) (P A : Nat) (vl tk : Int32) (z : Nat) : uR_after (sR tx m n lt sg P A vl tk) (nI z) = sR tx m n lt sg P z vl tk := id rfl
theorem yO_thrown (u : SO) (nx tok plc val flt : Int32) (lk st wy : Nat → Int32) (ds dw : Int32) : O_thrown (mO u nx tok plc val flt lk st wy ds dw) = O_thrown u := id rfl
theorem yO_trace (u : SO) (nx tok plc val flt : Int32) (lk st wy : Nat → Int32) (ds dw : Int32) : O_trace (mO u nx tok plc val flt lk st wy ds dw) = O_trace u := id rfl
theorem yO_s (u : SO) (nx tok plc val flt : Int32) (lk st wy : Nat → Int32) (ds dw : Int32) : O_s (mO u nx tok plc val flt lk st wy ds dw) = O_s u := id rfl
theorem yO_kept (u : SO) (nx tok plc val flt : Int32) (lk st wy : Nat → Int32) (ds dw : Int32) : O_kept (mO u nx tok plc val flt lk st wy ds dw) = O_kept u := id rfl
theorem yO_isKept (u : SO) (nx tok plc val flt : Int32) (lk st wy : Nat → Int32) (ds dw : Int32) : O_isKept (mO u nx tok plc val flt lk st wy ds dw) = O_isKept u := id rfl
theorem yO_latest (u : SO) (nx tok plc val flt : Int32) (lk st wy : Nat → Int32) (ds dw : Int32) : O_latest (mO u nx tok plc val flt lk st wy ds dw) = O_latest u := id rfl
theorem yO_text (u : SO) (nx tok plc val flt : Int32) (lk st wy : Nat → Int32) (ds dw : Int32) : O_text (mO u nx tok plc val flt lk st wy ds dw) = O_text u := id rfl
theorem yO_typed (u : SO) (nx tok plc val flt : Int32) (lk st wy : Nat → Int32) (ds dw : Int32) : O_typed (mO u nx tok plc val flt lk st wy ds dw) = O_typed u := id rfl
theorem yO_next (u : SO) (nx tok plc val flt : Int32) (lk st wy : Nat → Int32) (ds dw : Int32) : O_next (mO u nx tok plc val flt lk st wy ds dw) = nx := id rfl
theorem yO_token (u : SO) (nx tok plc val flt : Int32) (lk st wy : Nat → Int32) (ds dw : Int32) : O_token (mO u nx tok plc val flt lk st wy ds dw) = tok := id rfl
theorem yO_place (u : SO) (nx tok plc val flt : Int32) (lk st wy : Nat → Int32) (ds dw : Int32) : O_place (mO u nx tok plc val flt lk st wy ds dw) = plc := id rfl
theorem yO_value (u : SO) (nx tok plc val flt : Int32) (lk st wy : Nat → Int32) (ds dw : Int32) : O_value (mO u nx tok plc val flt lk st wy ds dw) = val := id rfl
theorem yO_fault (u : SO) (nx tok plc val flt : Int32) (lk st wy : Nat → Int32) (ds dw : Int32) : O_fault (mO u nx tok plc val flt lk st wy ds dw) = flt := id rfl
theorem yO_luck (u : SO) (nx tok plc val flt : Int32) (lk st wy : Nat → Int32) (ds dw : Int32) : O_luck (mO u nx tok plc val flt lk st wy ds dw) = lk := id rfl
theorem yO_stall (u : SO) (nx tok plc val flt : Int32) (lk st wy : Nat → Int32) (ds dw : Int32) : O_stall (mO u nx tok plc val flt lk st wy ds dw) = st := id rfl
theorem yO_way (u : SO) (nx tok plc val flt : Int32) (lk st wy : Nat → Int32) (ds dw : Int32) : O_way (mO u nx tok plc val flt lk st wy ds dw) = wy := id rfl
theorem yO_stalls (u : SO) (nx tok plc val flt : Int32) (lk st wy : Nat → Int32) (ds dw : Int32) : O_stalls (mO u nx tok plc val flt lk st wy ds dw) = O_stalls u := id rfl
theorem yO_ways (u : SO) (nx tok plc val flt : Int32) (lk st wy : Nat → Int32) (ds dw : Int32) : O_ways (mO u nx tok plc val flt lk st wy ds dw) = O_ways u := id rfl
theorem yO_draftStalls (u : SO) (nx tok plc val flt : Int32) (lk st wy : Nat → Int32) (ds dw : Int32) : O_draftStalls (mO u nx tok plc val flt lk st wy ds dw) = ds := id rfl
theorem yO_draftWays (u : SO) (nx tok plc val flt : Int32) (lk st wy : Nat → Int32) (ds dw : Int32) : O_draftWays (mO u nx tok plc val flt lk st wy ds dw) = dw := id rfl
theorem yO_beliefs (u : SO) (nx tok plc val flt : Int32) (lk st wy : Nat → Int32) (ds dw : Int32) : O_beliefs (mO u nx tok plc val flt lk st wy ds dw) = O_beliefs u := id rfl
theorem yO_bars (u : SO) (nx tok plc val flt : Int32) (lk st wy : Nat → Int32) (ds dw : Int32) : O_bars (mO u nx tok plc val flt lk st wy ds dw) = O_bars u := id rfl
theorem yO_triangle (u : SO) (nx tok plc val flt : Int32) (lk st wy : Nat → Int32) (ds dw : Int32) : O_triangle (mO u nx tok plc val flt lk st wy ds dw) = O_triangle u := id rfl
theorem yO_costs (u : SO) (nx tok plc val flt : Int32) (lk st wy : Nat → Int32) (ds dw : Int32) : O_costs (mO u nx tok plc val flt lk st wy ds dw) = O_costs u := id rfl
theorem yO_dones (u : SO) (nx tok plc val flt : Int32) (lk st wy : Nat → Int32) (ds dw : Int32) : O_dones (mO u nx tok plc val flt lk st wy ds dw) = O_dones u := id rfl
theorem yO_row (u : SO) (nx tok plc val flt : Int32) (lk st wy : Nat → Int32) (ds dw : Int32) : O_row (mO u nx tok plc val flt lk st wy ds dw) = O_row u := id rfl
theorem yO_up (u : SO) (nx tok plc val flt : Int32) (lk st wy : Nat → Int32) (ds dw : Int32) : O_up (mO u nx tok plc val flt lk st wy ds dw) = O_up u := id rfl
theorem yO_down (u : SO) (nx tok plc val flt : Int32) (lk st wy : Nat → Int32) (ds dw : Int32) : O_down (mO u nx tok plc val flt lk st wy ds dw) = O_down u := id rfl
theorem yO_soldSteps (u : SO) (nx tok plc val flt : Int32) (lk st wy : Nat → Int32) (ds dw : Int32) : O_soldSteps (mO u nx tok plc val flt lk st wy ds dw) = O_soldSteps u := id rfl
theorem vO_next (u : SO) (nx tok plc val flt : Int32) (lk st wy : Nat → Int32) (ds dw : Int32) (z : Int32) : uO_next (mO u nx tok plc val flt lk st wy ds dw) z = mO u z tok plc val flt lk st wy ds dw := id rfl
theorem vO_token (u : SO) (nx tok plc val flt : Int32) (lk st wy : Nat → Int32) (ds dw : Int32) (z : Int32) : uO_token (mO u nx tok plc val flt lk st wy ds dw) z = mO u nx z plc val flt lk st wy ds dw := id rfl
theorem vO_place (u : SO) (nx tok plc val flt : Int32) (lk st wy : Nat → Int32) (ds dw : Int32) (z : Int32) : uO_place (mO u nx tok plc val flt lk st wy ds dw) z = mO u nx tok z val flt lk st wy ds dw := id rfl
theorem vO_value (u : SO) (nx tok plc val flt : Int32) (lk st wy : Nat → Int32) (ds dw : Int32) (z : Int32) : uO_value (mO u nx tok plc val flt lk st wy ds dw) z = mO u nx tok plc z flt lk st wy ds dw := id rfl
theorem vO_fault (u : SO) (nx tok plc val flt : Int32) (lk st wy : Nat → Int32) (ds dw : Int32) (z : Int32) : uO_fault (mO u nx tok plc val flt lk st wy ds dw) z = mO u nx tok plc val z lk st wy ds dw := id rfl
theorem vO_luck (u : SO) (nx tok plc val flt : Int32) (lk st wy : Nat → Int32) (ds dw : Int32) (z : Nat → Int32) : uO_luck (mO u nx tok plc val flt lk st wy ds dw) z = mO u nx tok plc val flt z st wy ds dw := id rfl
theorem vO_stall (u : SO) (nx tok plc val flt : Int32) (lk st wy : Nat → Int32) (ds dw : Int32) (z : Nat → Int32) : uO_stall (mO u nx tok plc val flt lk st wy ds dw) z = mO u nx tok plc val flt lk z wy ds dw := id rfl
theorem vO_way (u : SO) (nx tok plc val flt : Int32) (lk st wy : Nat → Int32) (ds dw : Int32) (z : Nat → Int32) : uO_way (mO u nx tok plc val flt lk st wy ds dw) z = mO u nx tok plc val flt lk st z ds dw := id rfl
theorem vO_draftStalls (u : SO) (nx tok plc val flt : Int32) (lk st wy : Nat → Int32) (ds dw : Int32) (z : Int32) : uO_draftStalls (mO u nx tok plc val flt lk st wy ds dw) z = mO u nx tok plc val flt lk st wy z dw := id rfl
theorem vO_draftWays (u : SO) (nx tok plc val flt : Int32) (lk st wy : Nat → Int32) (ds dw : Int32) (z : Int32) : uO_draftWays (mO u nx tok plc val flt lk st wy ds dw) z = mO u nx tok plc val flt lk st wy ds z := id rfl
end
