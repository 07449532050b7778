section
/-! ===== items ===== -/
def lx_iW (F : Nat) (x33 : Int32) (s34 : SR) : Option (Int32 × SR) := if (6 : Int32) ≤ (M_ways (R_into s34)) then some (x33, s34) else obd (f_X3_takeWord F s34 q_way) (fun v36 => (if v36.1 = 0 then some (x33, v36.2) else lx_wC F v36.2))
def lx_iS (F : Nat) (x31 : Int32) (s32 : SR) : Option (Int32 × SR) := if (6 : Int32) ≤ (M_stalls (R_into s32)) then lx_iW F x31 s32 else obd (f_X3_takeWord F s32 q_stall) (fun v48 => (if v48.1 = 0 then lx_iW F x31 v48.2 else obd (f_X3_readStall F v48.2) (fun v51 => some (v51.1, v51.2))))
def lx_iL (F : Nat) (s : SR) : Option (Int32 × SR) := if (R_luckTold s) = 0 then obd (f_X3_takeWord F s q_luck) (fun v55 => (if v55.1 = 0 then lx_iS F (0 : Int32) v55.2 else obd (f_X3_readLuck F v55.2) (fun v58 => some (v58.1, v58.2)))) else lx_iS F (0 : Int32) s
def lx_sC (F : Nat) (v30 : Int32 × SR) : Option (Int32 × SR) := if v30.1 = 0 then some ((0 : Int32), v30.2) else (if (R_sign v30.2) = (3 : Int32) then obd (f_X3_next F v30.2) (fun v62 => some ((1 : Int32), v62)) else some ((0 : Int32), v30.2))
theorem lx_rI (F : Nat) (s : SR) : f_X3_readItem F s = obd (lx_iL F s) (fun v30 => lx_sC F v30) := rfl
def lx_m9 (F : Nat) (x9 : Int32) (s10 : SO) : Option (Int32 × SO) := obd (f_X6_isWell F s10) (fun v11 => (if v11 = 0 then some (((-10 : Int32) - (O_fault s10)), s10) else f_X6_market_L210 F x9 F (0 : Int32) s10))
def lx_sM (F : Nat) (K : Int32 → SO → Option (Int32 × SO)) (v104 : Int32 × SO) : Option (Int32 × SO) := obd ((if (O_token v104.2) = (3 : Int32) then some (1 : Int32) else some (0 : Int32))) (fun v126 => obd (f_X6_takes F v104.2 v126) (fun v128 => K v104.1 v128.2))
def lx_jW (F : Nat) (x105 : Int32) (s109 : SO) : Option (Int32 × SO) := obd (f_X6_isWell F s109) (fun v110 => (if v110 = 0 then some (x105, s109) else obd (f_X6_readsWay F s109) (fun v113 => some (x105, v113))))
def lx_jS (F : Nat) (w x105 : Int32) (s106 : SO) : Option (Int32 × SO) := obd (f_X6_isWell F s106) (fun v107 => (if v107 = 0 then lx_jW F x105 s106 else (if w = (1 : Int32) then obd (f_X6_readsStall F s106) (fun v118 => some (x105, v118)) else lx_jW F x105 s106)))
def lx_it (F : Nat) (x5 : Int32) (s6 : SO) (K : Int32 → SO → Option (Int32 × SO)) : Option (Int32 × SO) := obd ((if (O_value s6) = 0 then (if x5 = 0 then some (1 : Int32) else some (0 : Int32)) else (if (O_value s6) = (1 : Int32) then (if (6 : Int32) ≤ (O_draftStalls s6) then some (0 : Int32) else some (1 : Int32)) else (if (O_value s6) = (2 : Int32) then (if (6 : Int32) ≤ (O_draftWays s6) then some (0 : Int32) else some (1 : Int32)) else some (0 : Int32))))) (fun v68 => obd ((if (O_token s6) = (1 : Int32) then (if v68 = 0 then some (0 : Int32) else some (1 : Int32)) else some (0 : Int32))) (fun v77 => obd (f_X6_takes F s6 v77) (fun v80 => obd (f_X6_isWell F v80.2) (fun v82 => obd (if v82 = 0 then lx_jS F v80.1 x5 v80.2 else (if v80.1 = 0 then obd (f_X6_readsLuck F v80.2) (fun v123 => some ((1 : Int32), v123)) else lx_jS F v80.1 x5 v80.2)) (fun v104 => lx_sM F K v104)))))
theorem lx_L13 (F n : Nat) (x4 x5 : Int32) (s6 : SO) : f_X6_market_L13 F (n + 1) x4 x5 s6 = obd (f_X6_isWell F s6) (fun v7 => (if v7 = 0 then lx_m9 F x4 s6 else (if (O_token s6) = 0 then lx_m9 F x4 s6 else lx_it F x5 s6 (fun a c => f_X6_market_L13 F n (x4 + 1) a c)))) := rfl
/-! the draft of the two -/
def lx_D (m : SM) (lk st wy : Nat → Int32) (ns nw : Nat) : Prop := okM m ns nw ∧ (lk 3 = M_less m ∧ lk 4 = M_just m ∧ lk 5 = M_more m) ∧ (∀ i, i < ns → st (18 + 3 * i) = M_step m i ∧ st (18 + 3 * i + 1) = M_dry m i ∧ st (18 + 3 * i + 2) = M_price m i) ∧ (∀ w, w < nw → wy (24 + 4 * w) = M_shape m w ∧ wy (24 + 4 * w + 1) = M_grains m w ∧ wy (24 + 4 * w + 2) = M_oneIn m w ∧ wy (24 + 4 * w + 3) = M_sorts m w)
theorem lx_Dl {m : SM} {lk st wy : Nat → Int32} {ns nw a c e : Nat} (h : lx_D m lk st wy ns nw) (hs : a + c + e = 10) : lx_D (uM_more (uM_just (uM_less m (nI a)) (nI c)) (nI e)) (upd (upd (upd lk 3 (nI a)) 4 (nI c)) 5 (nI e)) st wy ns nw := by
  obtain ⟨⟨h1, h2, h3, h4⟩, h5, h6, h7⟩ := h
  refine ⟨⟨h1, ⟨a, c, e, hs, rfl, rfl, rfl⟩, h3, h4⟩, ⟨?_, ?_, ?_⟩, h6, h7⟩
  · exact (upd_n (by decide)).trans ((upd_n (by decide)).trans upd_s)
  · exact (upd_n (by decide)).trans upd_s
  · exact upd_s
theorem lx_Ds {m : SM} {lk st wy : Nat → Int32} {ns nw x y z : Nat} (h : lx_D m lk st wy ns nw) (hn : ns < 6) (hx : 1 ≤ x ∧ x ≤ 20 ∧ y ≤ 9 ∧ z ≤ 99) : lx_D (uM_stalls (uM_price (uM_dry (uM_step m (upd (M_step m) ns (nI x))) (upd (M_dry m) ns (nI y))) (upd (M_price m) ns (nI z))) (nI (ns + 1))) lk (upd (upd (upd st (18 + 3 * ns) (nI x)) (18 + 3 * ns + 1) (nI y)) (18 + 3 * ns + 2) (nI z)) wy (ns + 1) nw := by
  obtain ⟨⟨h1, h2, h3, h4⟩, h5, h6, h7⟩ := h
  refine ⟨⟨⟨by omega, h1.2.1, rfl, h1.2.2.2⟩, h2, fun i hi => ?_, h4⟩, h5, fun i hi => ?_, h7⟩
  · show rg (upd (M_step m) ns (nI x) i) 1 20 ∧ rg (upd (M_dry m) ns (nI y) i) 0 9 ∧ rg (upd (M_price m) ns (nI z) i) 0 99
    by_cases e : i = ns
    · subst e
      rw [upd_s, upd_s, upd_s]
      exact ⟨⟨x, hx.1, hx.2.1, rfl⟩, ⟨y, by omega, hx.2.2.1, rfl⟩, ⟨z, by omega, hx.2.2.2, rfl⟩⟩
    · rw [upd_n e, upd_n e, upd_n e]
      exact h3 i (by omega)
  · show upd (upd (upd st (18 + 3 * ns) (nI x)) (18 + 3 * ns + 1) (nI y)) (18 + 3 * ns + 2) (nI z) (18 + 3 * i) = upd (M_step m) ns (nI x) i ∧ upd (upd (upd st (18 + 3 * ns) (nI x)) (18 + 3 * ns + 1) (nI y)) (18 + 3 * ns + 2) (nI z) (18 + 3 * i + 1) = upd (M_dry m) ns (nI y) i ∧ upd (upd (upd st (18 + 3 * ns) (nI x)) (18 + 3 * ns + 1) (nI y)) (18 + 3 * ns + 2) (nI z) (18 + 3 * i + 2) = upd (M_price m) ns (nI z) i
    by_cases e : i = ns
    · subst e
      refine ⟨?_, ?_, ?_⟩
      · rw [upd_n (by omega), upd_n (by omega), upd_s, upd_s]
      · rw [upd_n (by omega), upd_s, upd_s]
      · rw [upd_s, upd_s]
    · obtain ⟨g1, g2, g3⟩ := h6 i (by omega)
      refine ⟨?_, ?_, ?_⟩
      · rw [upd_n (by omega), upd_n (by omega), upd_n (by omega), upd_n e]; exact g1
      · rw [upd_n (by omega), upd_n (by omega), upd_n (by omega), upd_n e]; exact g2
      · rw [upd_n (by omega), upd_n (by omega), upd_n (by omega), upd_n e]; exact g3
theorem lx_Dw {m : SM} {lk st wy wy' : Nat → Int32} {ns nw x y z v : Nat} (h : lx_D m lk st wy ns nw) (hn : nw < 6) (hx : x ≤ 3 ∧ y ≤ 99 ∧ 1 ≤ z ∧ z ≤ 5 ∧ v ≤ 15) (hw : wy' (24 + 4 * nw) = nI x ∧ wy' (24 + 4 * nw + 1) = nI y ∧ wy' (24 + 4 * nw + 2) = nI z ∧ wy' (24 + 4 * nw + 3) = nI v) (hb : ∀ j, j < 24 + 4 * nw → wy' j = wy j) : lx_D (lx_mW m nw (nI x) (nI y) (nI z) (nI v)) lk st wy' ns (nw + 1) := by
  obtain ⟨⟨h1, h2, h3, h4⟩, h5, h6, h7⟩ := h
  refine ⟨⟨⟨h1.1, by omega, h1.2.2.1, rfl⟩, h2, h3, fun i hi => ?_⟩, h5, h6, fun i hi => ?_⟩
  · show rg (upd (M_shape m) nw (nI x) i) 0 3 ∧ rg (upd (M_grains m) nw (nI y) i) 0 99 ∧ rg (upd (M_oneIn m) nw (nI z) i) 1 5 ∧ rg (upd (M_sorts m) nw (nI v) i) 0 15
    by_cases e : i = nw
    · subst e
      rw [upd_s, upd_s, upd_s, upd_s]
      exact ⟨⟨x, by omega, hx.1, rfl⟩, ⟨y, by omega, hx.2.1, rfl⟩, ⟨z, hx.2.2.1, hx.2.2.2.1, rfl⟩, ⟨v, by omega, hx.2.2.2.2, rfl⟩⟩
    · rw [upd_n e, upd_n e, upd_n e, upd_n e]
      exact h4 i (by omega)
  · show wy' (24 + 4 * i) = upd (M_shape m) nw (nI x) i ∧ wy' (24 + 4 * i + 1) = upd (M_grains m) nw (nI y) i ∧ wy' (24 + 4 * i + 2) = upd (M_oneIn m) nw (nI z) i ∧ wy' (24 + 4 * i + 3) = upd (M_sorts m) nw (nI v) i
    by_cases e : i = nw
    · subst e
      rw [upd_s, upd_s, upd_s, upd_s]
      exact hw
    · rw [upd_n e, upd_n e, upd_n e, upd_n e, hb _ (by omega), hb _ (by omega), hb _ (by omega), hb _ (by omega)]
      exact h7 i (by omega)
/-! the stop behind an item -/
theorem lx_stG {F n P A : Nat} {tx : Nat → Int32} {b : Nat → Nat} {m : SM} {lt sg vl tk : Int32} {u : SO} {tok val ds dw : Int32} {lk st wy : Nat → Int32} (K : Int32 → SO → Option (Int32 × SO)) (a : Int32) (hF : 2000 ≤ F) (hb : ∀ j, tx j = nI (b j) ∧ b j ≤ 255) (hn : n ≤ 400) (hx : O_text u = tx) (hy : O_typed u = nI n) (hT : lx_TK b n P A sg vl tok val) : (∃ (P' A' : Nat) (sg' vl' tok' val' : Int32), P < P' ∧ lx_TK b n P' A' sg' vl' tok' val' ∧ lx_sC F (1, sR tx m n lt sg P A vl tk) = some (1, sR tx m n lt sg' P' A' vl' tk) ∧ lx_sM F K (a, mO u (nI A) tok (nI P) val (-1) lk st wy ds dw) = K a (mO u (nI A') tok' (nI P') val' (-1) lk st wy ds dw)) ∨ (lx_sC F (1, sR tx m n lt sg P A vl tk) = some (0, sR tx m n lt sg P A vl tk) ∧ lx_sM F K (a, mO u (nI A) tok (nI P) val (-1) lk st wy ds dw) = K a (mO u (nI A) tok (nI P) val (nI P) lk st wy ds dw)) := by
  unfold lx_sC lx_sM
  simp only [yR_text, yR_into, yR_length, yR_luckTold, yR_sign, yR_place, yR_after, yR_value, yR_taken, vR_into, vR_luckTold, vR_sign, vR_value, vR_taken, vR_place, vR_after, yO_thrown, yO_trace, yO_s, yO_kept, yO_isKept, yO_latest, yO_text, yO_typed, yO_next, yO_token, yO_place, yO_value, yO_fault, yO_luck, yO_stall, yO_way, yO_stalls, yO_ways, yO_draftStalls, yO_draftWays, yO_beliefs, yO_bars, yO_triangle, yO_costs, yO_dones, yO_row, yO_up, yO_down, yO_soldSteps, vO_next, vO_token, vO_place, vO_value, vO_fault, vO_luck, vO_stall, vO_way, vO_draftStalls, vO_draftWays, if_neg one0]
  rcases lx_tk3 hT with ⟨rfl, rfl, t1⟩ | ⟨t1, t2⟩
  · obtain ⟨P', A', sg', vl', tok', val', g1, T', g3, g4⟩ := lx_step (F := F) (m := m) (lt := lt) (sg := 3) (vl := vl) (tk := tk) (P := P) (A := A) (tok := 3) (plc := nI P) (val := val) (flt := -1) (ds := ds) (dw := dw) (lk := lk) (st := st) (wy := wy) hF hb hn hx hy hT.2.1
    refine Or.inl ⟨P', A', sg', vl', tok', val', by omega, T', ?_, ?_⟩
    · rw [if_pos rfl, g3, obd_s]
    · rw [if_pos rfl, obd_s, lx_taY, g4]
      rfl
  · refine Or.inr ⟨?_, ?_⟩
    · rw [if_neg t2]
    · rw [if_neg t1, obd_s, lx_taN]
      rfl
theorem lx_stB {F Q : Nat} {tx : Nat → Int32} {u : SO} {s : SR} {o : SO} {r : Int32} (K : Int32 → SO → Option (Int32 × SO)) (a : Int32) (h : lx_Bad tx u Q s o) (hr : r = 0 ∨ R_sign s ≠ 3) : lx_sC F (r, s) = some (0, s) ∧ lx_sM F K (a, o) = K a o := by
  obtain ⟨h1, h2, h3, nx, tok, plc, val, lk, st, wy, ds, dw, rfl, h4⟩ := h
  refine ⟨?_, ?_⟩
  · unfold lx_sC
    by_cases c : r = 0
    · rw [if_pos c]
    · rw [if_neg c, if_neg (hr.resolve_left c)]
  · unfold lx_sM
    simp only [ite_so, obd_s, lx_taF h1]
theorem lx_jF {F Q : Nat} (hQ : Q ≤ 400) (w x : Int32) {u : SO} {nx tok plc val ds dw : Int32} {lk st wy : Nat → Int32} : lx_jS F w x (mO u nx tok plc val (nI Q) lk st wy ds dw) = some (x, mO u nx tok plc val (nI Q) lk st wy ds dw) := by
  unfold lx_jS lx_jW
  rw [lx_ill hQ, obd_s, if_pos rfl, obd_s, if_pos rfl]
theorem lx_itN {F P A ns nw : Nat} (hP : P ≤ 400) {u : SO} {lt tok val : Int32} {lk st wy : Nat → Int32} (K : Int32 → SO → Option (Int32 × SO)) (h : ¬ (tok = 1 ∧ ((val = 0 ∧ lt = 0) ∨ (val = 1 ∧ ns < 6) ∨ (val = 2 ∧ nw < 6)))) (hns : ns ≤ 6) (hnw : nw ≤ 6) : lx_it F lt (mO u (nI A) tok (nI P) val (-1) lk st wy (nI ns) (nI nw)) K = K lt (mO u (nI A) tok (nI P) val (nI P) lk st wy (nI ns) (nI nw)) := by
  unfold lx_it
  simp only [yO_thrown, yO_trace, yO_s, yO_kept, yO_isKept, yO_latest, yO_text, yO_typed, yO_next, yO_token, yO_place, yO_value, yO_fault, yO_luck, yO_stall, yO_way, yO_stalls, yO_ways, yO_draftStalls, yO_draftWays, yO_beliefs, yO_bars, yO_triangle, yO_costs, yO_dones, yO_row, yO_up, yO_down, yO_soldSteps, vO_next, vO_token, vO_place, vO_value, vO_fault, vO_luck, vO_stall, vO_way, vO_draftStalls, vO_draftWays]
  have e1 : ((6 : Int32) ≤ nI ns) = (6 ≤ ns) := i_le (a := 6) (by omega) (by omega)
  have e2 : ((6 : Int32) ≤ nI nw) = (6 ≤ nw) := i_le (a := 6) (by omega) (by omega)
  simp only [e1, e2, ite_so, obd_s]
  have e3 : (if tok = (1 : Int32) then (if (if val = 0 then (if lt = 0 then (1 : Int32) else 0) else if val = 1 then (if 6 ≤ ns then (0 : Int32) else 1) else if val = 2 then (if 6 ≤ nw then (0 : Int32) else 1) else 0) = 0 then (0 : Int32) else 1) else 0) = 0 := by
    by_cases h1 : tok = 1
    · rw [if_pos h1]
      by_cases v0 : val = 0
      · by_cases l0 : lt = 0
        · exact absurd ⟨h1, Or.inl ⟨v0, l0⟩⟩ h
        · rw [if_pos v0, if_neg l0, if_pos rfl]
      · rw [if_neg v0]
        by_cases v1 : val = 1
        · by_cases l0 : ns < 6
          · exact absurd ⟨h1, Or.inr (Or.inl ⟨v1, l0⟩)⟩ h
          · rw [if_pos v1, if_pos (show 6 ≤ ns by omega), if_pos rfl]
        · rw [if_neg v1]
          by_cases v2 : val = 2
          · by_cases l0 : nw < 6
            · exact absurd ⟨h1, Or.inr (Or.inr ⟨v2, l0⟩)⟩ h
            · rw [if_pos v2, if_pos (show 6 ≤ nw by omega), if_pos rfl]
          · rw [if_neg v2, if_pos rfl]
    · rw [if_neg h1]
  rw [e3, lx_taN, obd_s, lx_ill hP, obd_s, if_pos rfl, lx_jF hP, obd_s]
  unfold lx_sM
  simp only [ite_so, obd_s, lx_taF hP]
theorem lx_itY {F P A P1 A1 ns nw : Nat} {u : SO} {lt tok val tok1 val1 : Int32} {lk st wy : Nat → Int32} (K : Int32 → SO → Option (Int32 × SO)) (h : tok = 1 ∧ ((val = 0 ∧ lt = 0) ∨ (val = 1 ∧ ns < 6) ∨ (val = 2 ∧ nw < 6))) (hns : ns ≤ 6) (hnw : nw ≤ 6) (g4 : f_X6_advances F (mO u (nI A) tok (nI P) val (-1) lk st wy (nI ns) (nI nw)) = some (mO u (nI A1) tok1 (nI P1) val1 (-1) lk st wy (nI ns) (nI nw))) : lx_it F lt (mO u (nI A) tok (nI P) val (-1) lk st wy (nI ns) (nI nw)) K = obd (if val = 0 then obd (f_X6_readsLuck F (mO u (nI A1) tok1 (nI P1) val1 (-1) lk st wy (nI ns) (nI nw))) (fun v123 => some ((1 : Int32), v123)) else lx_jS F val lt (mO u (nI A1) tok1 (nI P1) val1 (-1) lk st wy (nI ns) (nI nw))) (fun v104 => lx_sM F K v104) := by
  unfold lx_it
  simp only [yO_thrown, yO_trace, yO_s, yO_kept, yO_isKept, yO_latest, yO_text, yO_typed, yO_next, yO_token, yO_place, yO_value, yO_fault, yO_luck, yO_stall, yO_way, yO_stalls, yO_ways, yO_draftStalls, yO_draftWays, yO_beliefs, yO_bars, yO_triangle, yO_costs, yO_dones, yO_row, yO_up, yO_down, yO_soldSteps, vO_next, vO_token, vO_place, vO_value, vO_fault, vO_luck, vO_stall, vO_way, vO_draftStalls, vO_draftWays]
  have e1 : ((6 : Int32) ≤ nI ns) = (6 ≤ ns) := i_le (a := 6) (by omega) (by omega)
  have e2 : ((6 : Int32) ≤ nI nw) = (6 ≤ nw) := i_le (a := 6) (by omega) (by omega)
  simp only [e1, e2]
  have e3 : (if val = 0 then (if lt = 0 then some (1 : Int32) else some 0) else if val = 1 then (if 6 ≤ ns then some (0 : Int32) else some 1) else if val = 2 then (if 6 ≤ nw then some (0 : Int32) else some 1) else some 0) = some 1 := by
    rcases h.2 with ⟨v0, l0⟩ | ⟨v1, l0⟩ | ⟨v2, l0⟩
    · rw [if_pos v0, if_pos l0]
    · rw [if_neg (by rw [v1]; decide), if_pos v1, if_neg (by omega)]
    · rw [if_neg (by rw [v2]; decide), if_neg (by rw [v2]; decide), if_pos v2, if_neg (by omega)]
  rw [e3, obd_s, if_pos h.1, if_neg one0, obd_s, lx_taY, g4, obd_s, obd_s, lx_well, obd_s, if_neg one0]
theorem lx_item {F n P A ns nw : Nat} {tx : Nat → Int32} {b : Nat → Nat} {m : SM} {lt sg vl tk : Int32} {u : SO} {tok val : Int32} {lk st wy : Nat → Int32} (K : Int32 → SO → Option (Int32 × SO)) (hF : 2000 ≤ F) (hb : ∀ j, tx j = nI (b j) ∧ b j ≤ 255) (hn : n ≤ 400) (hx : O_text u = tx) (hy : O_typed u = nI n) (hT : lx_TK b n P A sg vl tok val) (hR : lx_Fr u lk st wy) (hD : lx_D m lk st wy ns nw) : (∃ (m' : SM) (P' A' ns' nw' : Nat) (lt' sg' vl' tk' tok' val' : Int32) (lk' st' wy' : Nat → Int32), P < P' ∧ lx_TK b n P' A' sg' vl' tok' val' ∧ lx_Fr u lk' st' wy' ∧ lx_D m' lk' st' wy' ns' nw' ∧ f_X3_readItem F (sR tx m n lt sg P A vl tk) = some (1, sR tx m' n lt' sg' P' A' vl' tk') ∧ lx_it F lt (mO u (nI A) tok (nI P) val (-1) lk st wy (nI ns) (nI nw)) K = K lt' (mO u (nI A') tok' (nI P') val' (-1) lk' st' wy' (nI ns') (nI nw'))) ∨ (∃ (s : SR) (o : SO) (Q : Nat) (a : Int32), f_X3_readItem F (sR tx m n lt sg P A vl tk) = some (0, s) ∧ lx_it F lt (mO u (nI A) tok (nI P) val (-1) lk st wy (nI ns) (nI nw)) K = K a o ∧ lx_Bad tx u Q s o) := by
  have h0 := hT.1
  have h0' := hT.2.1
  have hns := hD.1.1.1
  have hnw := hD.1.1.2.1
  have hms := hD.1.1.2.2.1
  have hmw := hD.1.1.2.2.2
  obtain ⟨P1, A1, sg1, vl1, tok1, val1, g1, T1, g3, g4⟩ := lx_step (F := F) (m := m) (lt := lt) (sg := sg) (vl := vl) (tk := tk) (P := P) (A := A) (tok := tok) (plc := nI P) (val := val) (flt := -1) (ds := nI ns) (dw := nI nw) (lk := lk) (st := st) (wy := wy) hF hb hn hx hy h0'
  have h1 := T1.1
  have h1' := T1.2.1
  have e6s : ((6 : Int32) ≤ nI ns) = (6 ≤ ns) := i_le (a := 6) (by omega) (by omega)
  have e6w : ((6 : Int32) ≤ nI nw) = (6 ≤ nw) := i_le (a := 6) (by omega) (by omega)
  rw [lx_rI]
  unfold lx_iL
  simp only [yR_luckTold]
  by_cases cL : lt = 0 ∧ tok = 1 ∧ val = nI 0
  · have hp : P < P1 := by have := (lx_tk1 hT cL.2.1).1; omega
    have tw : f_X3_takeWord F (sR tx m n lt sg P A vl tk) q_luck = _ := lx_twY hF hb hn hT (q := 0) (by omega) cL.2
    rw [if_pos cL.1, tw, g3]
    simp only [obd_s, if_neg one0]
    rw [lx_itY K ⟨cL.2.1, Or.inl ⟨cL.2.2, cL.1⟩⟩ hns hnw g4, if_pos (show val = 0 from cL.2.2)]
    rcases lx_luck (F := F) (m := m) (lt := lt) (tk := tk) (ds := nI ns) (dw := nI nw) hF hb hn hx hy T1 hR with ⟨a, c, e, P2, A2, sg2, vl2, tok2, val2, q1, q2, T2, q4, q5⟩ | ⟨r, s, o, Q, q1, q2, q3, q4⟩
    · rw [q4, q5]
      simp only [obd_s]
      have hR2 : lx_Fr u (upd (upd (upd lk 3 (nI a)) 4 (nI c)) 5 (nI e)) st wy := lx_Fl (lx_Fl (lx_Fl hR (by decide) _) (by decide) _) (by decide) _
      rcases lx_stG (F := F) (m := uM_more (uM_just (uM_less m (nI a)) (nI c)) (nI e)) (lt := 1) (tk := nI e) (ds := nI ns) (dw := nI nw) (lk := upd (upd (upd lk 3 (nI a)) 4 (nI c)) 5 (nI e)) (st := st) (wy := wy) K 1 hF hb hn hx hy T2 with ⟨P3, A3, sg3, vl3, tok3, val3, r1, T3, r3, r4⟩ | ⟨r3, r4⟩
      · rw [r3, r4]
        exact Or.inl ⟨_, P3, A3, ns, nw, 1, sg3, vl3, nI e, tok3, val3, _, st, wy, by omega, T3, hR2, lx_Dl hD q1, rfl, rfl⟩
      · rw [r3, r4]
        have t2 := T2.1
        have t2' := T2.2.1
        exact Or.inr ⟨_, _, P2, _, rfl, rfl, by omega, rfl, rfl, _, _, _, _, _, _, _, _, _, rfl, hR2⟩
    · rw [q1, q3]
      simp only [obd_s]
      obtain ⟨r3, r4⟩ := lx_stB (F := F) K 1 q4 q2
      rw [r3, r4]
      exact Or.inr ⟨_, _, Q, _, rfl, rfl, q4⟩
  have eL : (if lt = 0 then obd (f_X3_takeWord F (sR tx m n lt sg P A vl tk) q_luck) (fun v55 => (if v55.1 = 0 then lx_iS F (0 : Int32) v55.2 else obd (f_X3_readLuck F v55.2) (fun v58 => some (v58.1, v58.2)))) else lx_iS F (0 : Int32) (sR tx m n lt sg P A vl tk)) = lx_iS F (0 : Int32) (sR tx m n lt sg P A vl tk) := by
    by_cases c : lt = 0
    · have tw : f_X3_takeWord F (sR tx m n lt sg P A vl tk) q_luck = _ := lx_twN hF hb hn hT (q := 0) (by omega) (fun z => cL ⟨c, z⟩)
      rw [if_pos c, tw, obd_s, if_pos rfl]
    · rw [if_neg c]
  rw [eL]
  unfold lx_iS
  simp only [yR_into]
  simp only [hms, e6s]
  by_cases cS : ns < 6 ∧ tok = 1 ∧ val = nI 1
  · have hp : P < P1 := by have := (lx_tk1 hT cS.2.1).1; omega
    have tw : f_X3_takeWord F (sR tx m n lt sg P A vl tk) q_stall = _ := lx_twY hF hb hn hT (q := 1) (by omega) cS.2
    rw [if_neg (by omega), tw, g3]
    simp only [obd_s, if_neg one0]
    rw [lx_itY K ⟨cS.2.1, Or.inr (Or.inl ⟨cS.2.2, cS.1⟩)⟩ hns hnw g4, if_neg (show ¬ val = 0 by rw [cS.2.2]; decide)]
    unfold lx_jS
    rw [lx_well, obd_s, if_neg one0, if_pos (show val = 1 from cS.2.2)]
    rcases lx_stall (F := F) (m := m) (lt := lt) (tk := tk) (dw := nI nw) hF hb hn hx hy T1 hR hms cS.1 with ⟨x, y, z, P2, A2, sg2, vl2, tok2, val2, q1, q2, T2, q4, q5⟩ | ⟨r, s, o, Q, q1, q2, q3, q4⟩
    · rw [q4, q5]
      simp only [obd_s]
      have hR2 : lx_Fr u lk (upd (upd (upd st (18 + 3 * ns) (nI x)) (18 + 3 * ns + 1) (nI y)) (18 + 3 * ns + 2) (nI z)) wy := lx_Fs (lx_Fs (lx_Fs hR (by omega) _) (by omega) _) (by omega) _
      rcases lx_stG (F := F) (m := uM_stalls (uM_price (uM_dry (uM_step m (upd (M_step m) ns (nI x))) (upd (M_dry m) ns (nI y))) (upd (M_price m) ns (nI z))) (nI (ns + 1))) (lt := lt) (tk := nI z) (ds := nI (ns + 1)) (dw := nI nw) (lk := lk) (st := upd (upd (upd st (18 + 3 * ns) (nI x)) (18 + 3 * ns + 1) (nI y)) (18 + 3 * ns + 2) (nI z)) (wy := wy) K lt hF hb hn hx hy T2 with ⟨P3, A3, sg3, vl3, tok3, val3, r1, T3, r3, r4⟩ | ⟨r3, r4⟩
      · rw [r3, r4]
        exact Or.inl ⟨_, P3, A3, ns + 1, nw, lt, sg3, vl3, nI z, tok3, val3, lk, _, wy, by omega, T3, hR2, lx_Ds hD cS.1 q1, rfl, rfl⟩
      · rw [r3, r4]
        have t2 := T2.1
        have t2' := T2.2.1
        exact Or.inr ⟨_, _, P2, _, rfl, rfl, by omega, rfl, rfl, _, _, _, _, _, _, _, _, _, rfl, hR2⟩
    · rw [q1, q3]
      simp only [obd_s]
      obtain ⟨r3, r4⟩ := lx_stB (F := F) K lt q4 q2
      rw [r3, r4]
      exact Or.inr ⟨_, _, Q, _, rfl, rfl, q4⟩
  have eS : (if 6 ≤ ns then lx_iW F (0 : Int32) (sR tx m n lt sg P A vl tk) else obd (f_X3_takeWord F (sR tx m n lt sg P A vl tk) q_stall) (fun v48 => (if v48.1 = 0 then lx_iW F (0 : Int32) v48.2 else obd (f_X3_readStall F v48.2) (fun v51 => some (v51.1, v51.2))))) = lx_iW F (0 : Int32) (sR tx m n lt sg P A vl tk) := by
    by_cases c : 6 ≤ ns
    · rw [if_pos c]
    · have tw : f_X3_takeWord F (sR tx m n lt sg P A vl tk) q_stall = _ := lx_twN hF hb hn hT (q := 1) (by omega) (fun z => cS ⟨by omega, z⟩)
      rw [if_neg c, tw, obd_s, if_pos rfl]
  rw [eS]
  unfold lx_iW
  simp only [yR_into]
  simp only [hmw, e6w]
  by_cases cW : nw < 6 ∧ tok = 1 ∧ val = nI 2
  · have hp : P < P1 := by have := (lx_tk1 hT cW.2.1).1; omega
    have tw : f_X3_takeWord F (sR tx m n lt sg P A vl tk) q_way = _ := lx_twY hF hb hn hT (q := 2) (by omega) cW.2
    rw [if_neg (by omega), tw, g3]
    simp only [obd_s, if_neg one0]
    rw [lx_itY K ⟨cW.2.1, Or.inr (Or.inr ⟨cW.2.2, cW.1⟩)⟩ hns hnw g4, if_neg (show ¬ val = 0 by rw [cW.2.2]; decide)]
    unfold lx_jS lx_jW
    rw [lx_well, obd_s, if_neg one0, if_neg (show ¬ val = 1 by rw [cW.2.2]; decide), obd_s, if_neg one0]
    rcases lx_way (F := F) (m := m) (lt := lt) (tk := tk) (ds := nI ns) hF hb hn hx hy T1 hR hmw cW.1 rfl with ⟨sh, gr, oi, so, P2, A2, sg2, vl2, tok2, val2, tk2, wy2, q1, q2, T2, q4, q5, q6, q7⟩ | ⟨r, s, o, Q, q1, q2, q3, q4⟩
    · rw [q4, q5]
      simp only [obd_s]
      have hR2 : lx_Fr u lk st wy2 := ⟨hR.1, hR.2.1, fun j hj => (q7 j (by omega)).trans (hR.2.2 j hj)⟩
      rcases lx_stG (F := F) (m := lx_mW m nw (nI sh) (nI gr) (nI oi) (nI so)) (lt := lt) (tk := tk2) (ds := nI ns) (dw := nI (nw + 1)) (lk := lk) (st := st) (wy := wy2) K lt hF hb hn hx hy T2 with ⟨P3, A3, sg3, vl3, tok3, val3, r1, T3, r3, r4⟩ | ⟨r3, r4⟩
      · rw [r3, r4]
        exact Or.inl ⟨_, P3, A3, ns, nw + 1, lt, sg3, vl3, tk2, tok3, val3, lk, st, wy2, by omega, T3, hR2, lx_Dw hD cW.1 q1 q6 q7, rfl, rfl⟩
      · rw [r3, r4]
        have t2 := T2.1
        have t2' := T2.2.1
        exact Or.inr ⟨_, _, P2, _, rfl, rfl, by omega, rfl, rfl, _, _, _, _, _, _, _, _, _, rfl, hR2⟩
    · rw [q1, q3]
      simp only [obd_s]
      obtain ⟨r3, r4⟩ := lx_stB (F := F) K lt q4 q2
      rw [r3, r4]
      exact Or.inr ⟨_, _, Q, _, rfl, rfl, q4⟩
  have eW : (if 6 ≤ nw then some ((0 : Int32), sR tx m n lt sg P A vl tk) else obd (f_X3_takeWord F (sR tx m n lt sg P A vl tk) q_way) (fun v36 => (if v36.1 = 0 then some ((0 : Int32), v36.2) else lx_wC F v36.2))) = some ((0 : Int32), sR tx m n lt sg P A vl tk) := by
    by_cases c : 6 ≤ nw
    · rw [if_pos c]
    · have tw : f_X3_takeWord F (sR tx m n lt sg P A vl tk) q_way = _ := lx_twN hF hb hn hT (q := 2) (by omega) (fun z => cW ⟨by omega, z⟩)
      rw [if_neg c, tw, obd_s, if_pos rfl]
  rw [eW, obd_s, lx_itN (show P ≤ 400 by omega) K (fun z => by
    rcases z.2 with y | y | y
    · exact cL ⟨y.2, z.1, y.1⟩
    · exact cS ⟨y.2, z.1, y.1⟩
    · exact cW ⟨y.2, z.1, y.1⟩) hns hnw]
  exact Or.inr ⟨_, _, P, _, rfl, rfl, by omega, rfl, rfl, _, _, _, _, _, _, _, _, _, rfl, hR⟩
theorem lx_items {F n : Nat} {tx : Nat → Int32} {b : Nat → Nat} {u : SO} {a1 : Int32} (hF : 2000 ≤ F) (hb : ∀ j, tx j = nI (b j) ∧ b j ≤ 255) (hn : n ≤ 400) (hx : O_text u = tx) (hy : O_typed u = nI n) : ∀ (d k P A ns nw : Nat) (m : SM) (lt sg vl tk tok val : Int32) (lk st wy : Nat → Int32) (nf nf' : Nat), n - P ≤ d → d < nf → d + 1 < nf' → k ≤ P → lx_TK b n P A sg vl tok val → lx_Fr u lk st wy → lx_D m lk st wy ns nw → (∃ (k' P' A' ns' nw' : Nat) (m' : SM) (lt' sg' vl' tk' tok' val' : Int32) (lk' st' wy' : Nat → Int32), k' ≤ 400 ∧ lx_Fr u lk' st' wy' ∧ lx_D m' lk' st' wy' ns' nw' ∧ f_X3_read_L36 F a1 nf (nI k) (sR tx m n lt sg P A vl tk) = some (nI k', sR tx m' n lt' sg' P' A' vl' tk') ∧ f_X6_market_L13 F nf' (nI k) lt (mO u (nI A) tok (nI P) val (-1) lk st wy (nI ns) (nI nw)) = f_X6_market_L210 F (nI k') F 0 (mO u (nI A') tok' (nI P') val' (-1) lk' st' wy' (nI ns') (nI nw'))) ∨ (∃ (s : SR) (o : SO) (Q : Nat), f_X3_read_L36 F a1 nf (nI k) (sR tx m n lt sg P A vl tk) = some ((-10 : Int32) - nI Q, s) ∧ f_X6_market_L13 F nf' (nI k) lt (mO u (nI A) tok (nI P) val (-1) lk st wy (nI ns) (nI nw)) = some ((-10 : Int32) - nI Q, o) ∧ lx_Bad tx u Q s o) := by
  intro d
  induction d with
  | zero =>
    intro k P A ns nw m lt sg vl tk tok val lk st wy nf nf' hd hnf hnf' hk hT hR hD
    obtain ⟨nf, rfl⟩ : ∃ q, nf = q + 1 := ⟨nf - 1, by omega⟩
    obtain ⟨nf', rfl⟩ : ∃ q, nf' = q + 1 := ⟨nf' - 1, by omega⟩
    have h0 := hT.1
    have h0' := hT.2.1
    rcases lx_tk0 hT with ⟨rfl, rfl, t1⟩ | ⟨t1, t2, t3⟩
    rotate_left
    · omega
    rw [f_X3_read_L36, lx_L13, lx_well, obd_s, if_neg one0]
    simp only [yR_text, yR_into, yR_length, yR_luckTold, yR_sign, yR_place, yR_after, yR_value, yR_taken, vR_into, vR_luckTold, vR_sign, vR_value, vR_taken, vR_place, vR_after, yO_thrown, yO_trace, yO_s, yO_kept, yO_isKept, yO_latest, yO_text, yO_typed, yO_next, yO_token, yO_place, yO_value, yO_fault, yO_luck, yO_stall, yO_way, yO_stalls, yO_ways, yO_draftStalls, yO_draftWays, yO_beliefs, yO_bars, yO_triangle, yO_costs, yO_dones, yO_row, yO_up, yO_down, yO_soldSteps, vO_next, vO_token, vO_place, vO_value, vO_fault, vO_luck, vO_stall, vO_way, vO_draftStalls, vO_draftWays, ↓reduceIte, ite_self]
    unfold lx_m9
    rw [lx_well, obd_s, if_neg one0]
    exact Or.inl ⟨k, P, A, ns, nw, m, lt, 0, vl, tk, 0, val, lk, st, wy, by omega, hR, hD, rfl, rfl⟩
  | succ d ih =>
    intro k P A ns nw m lt sg vl tk tok val lk st wy nf nf' hd hnf hnf' hk hT hR hD
    obtain ⟨nf, rfl⟩ : ∃ q, nf = q + 1 := ⟨nf - 1, by omega⟩
    obtain ⟨nf', rfl⟩ : ∃ q, nf' = q + 1 := ⟨nf' - 1, by omega⟩
    have h0 := hT.1
    have h0' := hT.2.1
    rw [f_X3_read_L36, lx_L13, lx_well, obd_s, if_neg one0]
    simp only [yR_length, yR_sign, yO_token]
    rcases lx_tk0 hT with ⟨rfl, rfl, t1⟩ | ⟨t1, t2, t3⟩
    · simp only [↓reduceIte, ite_self]
      unfold lx_m9
      rw [lx_well, obd_s, if_neg one0]
      exact Or.inl ⟨k, P, A, ns, nw, m, lt, 0, vl, tk, 0, val, lk, st, wy, by omega, hR, hD, rfl, rfl⟩
    · rw [if_neg (nI_ge (show k < n by omega) (by omega)), if_neg t2, if_neg t1]
      rcases lx_item (F := F) (m := m) (lt := lt) (tk := tk) (fun a c => f_X6_market_L13 F nf' (nI k + 1) a c) hF hb hn hx hy hT hR hD with ⟨m', P', A', ns', nw', lt', sg', vl', tk', tok', val', lk', st', wy', q1, T', R', D', q5, q6⟩ | ⟨s, o, Q, a, q1, q2, q3⟩
      · rw [q5, q6]
        simp only [obd_s, if_neg one0, s1]
        have t' := T'.1
        exact ih (k + 1) P' A' ns' nw' m' lt' sg' vl' tk' tok' val' lk' st' wy' nf nf' (by omega) (by omega) (by omega) (by omega) T' R' D'
      · rw [q1, q2]
        have q3' := q3
        obtain ⟨e1, e2, e3, nx, tokx, plc, valx, lkx, stx, wyx, dsx, dwx, rfl, e4⟩ := q3'
        obtain ⟨nf', rfl⟩ : ∃ q, nf' = q + 1 := ⟨nf' - 1, by omega⟩
        simp only [obd_s, ↓reduceIte]
        rw [lx_L13, lx_ill e1, obd_s, if_pos rfl]
        unfold lx_m9
        rw [lx_ill e1, obd_s, if_pos rfl, e2]
        exact Or.inr ⟨s, _, Q, rfl, rfl, q3⟩
end
