section
/-! ===== the grammar, by the class and by the reference ===== -/
theorem lx_k3 : Int32.toNatClampNeg (3 : Int32) = 3 := rfl
theorem lx_k4 : Int32.toNatClampNeg (4 : Int32) = 4 := rfl
theorem lx_k5 : Int32.toNatClampNeg (5 : Int32) = 5 := rfl
theorem lx_c3 {β : Type} {x : Option β} : ochi (3 : Int32) 6 x = x := ochi_of (vp_in_iff.mpr (by decide))
theorem lx_c4 {β : Type} {x : Option β} : ochi (4 : Int32) 6 x = x := ochi_of (vp_in_iff.mpr (by decide))
theorem lx_c5 {β : Type} {x : Option β} : ochi (5 : Int32) 6 x = x := ochi_of (vp_in_iff.mpr (by decide))
theorem lx_s2 (k : Nat) : nI k + 2 = nI (k + 2) := nI_add k 2
theorem lx_s3 (k : Nat) : nI k + 3 = nI (k + 3) := nI_add k 3
theorem lx_nw {F n P A q : Nat} {tx : Nat → Int32} {m : SM} {lt sg vl tk : Int32} (h : sg ≠ 1) : f_X3_isWord F (sR tx m n lt sg P A vl tk) q = some 0 := by
  unfold f_X3_isWord
  simp only [yR_sign]
  rw [if_neg h]
theorem lx_tkW {F n P A q : Nat} {tx : Nat → Int32} {b : Nat → Nat} {m : SM} {lt sg vl tk tok val : Int32} (hF : 2000 ≤ F) (hb : ∀ j, tx j = nI (b j) ∧ b j ≤ 255) (hn : n ≤ 400) (hT : lx_TK b n P A sg vl tok val) (hq : q < 13) : f_X3_isWord F (sR tx m n lt sg P A vl tk) q = some (if tok = 1 ∧ val = nI (lx_rv q) then 1 else 0) := by
  obtain ⟨h1, h2, h3⟩ := hT
  rcases h3 with ⟨rfl, rfl, _⟩ | ⟨h4, ⟨v, _, rfl, rfl, _, _⟩ | ⟨rfl, rfl⟩ | ⟨w, w1, rfl, rfl, rfl, w2⟩ | ⟨rfl, rfl | ⟨rfl, w2⟩⟩⟩
  · rw [lx_nw (by decide), if_neg (fun z => absurd z.1 (by decide))]
  · rw [lx_nw (by decide), if_neg (fun z => absurd z.1 (by decide))]
  · rw [lx_nw (by decide), if_neg (fun z => absurd z.1 (by decide))]
  · have a1 := (lx_w4 w w1).1
    have a2 := (lx_w4 q hq).1
    rcases lx_isWord (F := F) (m := m) (lt := lt) (vl := vl) (tk := tk) hF hb hn h1 h2 hq with ⟨g1, g2⟩ | ⟨g1, g2⟩
    · have e : w = q := by
        have l1 := lx_len _ _ w2
        have l2 := lx_len _ _ g1
        have d : ∀ j, j < A - P → (fun j => b (P + j)) j = (lx_wl w).getD ((lx_wl w).length - 1 - j) 0 := fun j hj => (lx_all (lx_wl w)).mp (l1 ▸ w2) j (by omega)
        have bd : ∀ j, j < A - P → 1 ≤ (fun j => b (P + j)) j ∧ (fun j => b (P + j)) j ≤ 255 := by
          intro j hj
          rw [d j hj]
          exact lx_w6 w w1 j (by have := (lx_w1 w w1).2.2.2.1; omega) (by omega)
        have e1 := (lx_en (lx_wl w) (A - P) (lx_w1 w w1).2.2.1 bd).mpr w2
        have e2 := (lx_en (lx_wl q) (A - P) (lx_w1 q hq).2.2.1 bd).mpr g1
        exact lx_w3 w w1 q hq (e1.symm.trans e2)
      subst e
      rw [g2, if_pos ⟨rfl, rfl⟩]
    · rw [g2, if_neg (fun z => g1 (by
        have e := (lx_w4 w w1).2 q hq ((nI_eq (by omega) (by omega)).mp z.2)
        subst e
        exact w2))]
  · rw [lx_nw (by decide), if_neg (fun z => absurd z.1 (by decide))]
  · rcases lx_isWord (F := F) (m := m) (lt := lt) (vl := vl) (tk := tk) hF hb hn h1 h2 hq with ⟨g1, g2⟩ | ⟨g1, g2⟩
    · exact absurd g1 (w2 q hq)
    · rw [g2, if_neg (fun z => absurd z.1 (by decide))]
theorem lx_twY {F n P A q : Nat} {tx : Nat → Int32} {b : Nat → Nat} {m : SM} {lt sg vl tk tok val : Int32} (hF : 2000 ≤ F) (hb : ∀ j, tx j = nI (b j) ∧ b j ≤ 255) (hn : n ≤ 400) (hT : lx_TK b n P A sg vl tok val) (hq : q < 13) (h : tok = 1 ∧ val = nI (lx_rv q)) : f_X3_takeWord F (sR tx m n lt sg P A vl tk) q = obd (f_X3_next F (sR tx m n lt sg P A vl tk)) (fun v4 => some ((1 : Int32), v4)) := by
  unfold f_X3_takeWord
  rw [lx_tkW hF hb hn hT hq, if_pos h, obd_s, if_neg one0]
theorem lx_twN {F n P A q : Nat} {tx : Nat → Int32} {b : Nat → Nat} {m : SM} {lt sg vl tk tok val : Int32} (hF : 2000 ≤ F) (hb : ∀ j, tx j = nI (b j) ∧ b j ≤ 255) (hn : n ≤ 400) (hT : lx_TK b n P A sg vl tok val) (hq : q < 13) (h : ¬ (tok = 1 ∧ val = nI (lx_rv q))) : f_X3_takeWord F (sR tx m n lt sg P A vl tk) q = some ((0 : Int32), sR tx m n lt sg P A vl tk) := by
  unfold f_X3_takeWord
  rw [lx_tkW hF hb hn hT hq, if_neg h, obd_s, if_pos rfl]
theorem lx_tk2 {n P A : Nat} {b : Nat → Nat} {sg vl tok val : Int32} (hT : lx_TK b n P A sg vl tok val) : (tok = 2 ∧ sg = 2 ∧ P < A ∧ ∃ v, v ≤ 99 ∧ vl = nI v ∧ val = nI v) ∨ (tok ≠ 2 ∧ sg ≠ 2) := by
  obtain ⟨h1, h2, h3⟩ := hT
  rcases h3 with ⟨rfl, rfl, _⟩ | ⟨h4, ⟨v, v1, rfl, rfl, v2, v3⟩ | ⟨rfl, rfl⟩ | ⟨w, w1, rfl, rfl, _, w2⟩ | ⟨rfl, rfl | ⟨rfl, w2⟩⟩⟩
  · exact Or.inr ⟨by decide, by decide⟩
  · exact Or.inl ⟨rfl, rfl, h4, v, v1, v2, v3⟩
  · exact Or.inr ⟨by decide, by decide⟩
  · exact Or.inr ⟨by decide, by decide⟩
  · exact Or.inr ⟨by decide, by decide⟩
  · exact Or.inr ⟨by decide, by decide⟩
theorem lx_tk3 {n P A : Nat} {b : Nat → Nat} {sg vl tok val : Int32} (hT : lx_TK b n P A sg vl tok val) : (tok = 3 ∧ sg = 3 ∧ P < A) ∨ (tok ≠ 3 ∧ sg ≠ 3) := by
  obtain ⟨h1, h2, h3⟩ := hT
  rcases h3 with ⟨rfl, rfl, _⟩ | ⟨h4, ⟨v, v1, rfl, rfl, v2, v3⟩ | ⟨rfl, rfl⟩ | ⟨w, w1, rfl, rfl, _, w2⟩ | ⟨rfl, rfl | ⟨rfl, w2⟩⟩⟩
  · exact Or.inr ⟨by decide, by decide⟩
  · exact Or.inr ⟨by decide, by decide⟩
  · exact Or.inl ⟨rfl, rfl, h4⟩
  · exact Or.inr ⟨by decide, by decide⟩
  · exact Or.inr ⟨by decide, by decide⟩
  · exact Or.inr ⟨by decide, by decide⟩
theorem lx_tk0 {n P A : Nat} {b : Nat → Nat} {sg vl tok val : Int32} (hT : lx_TK b n P A sg vl tok val) : (tok = 0 ∧ sg = 0 ∧ P = n) ∨ (tok ≠ 0 ∧ sg ≠ 0 ∧ P < A) := by
  obtain ⟨h1, h2, h3⟩ := hT
  rcases h3 with ⟨rfl, rfl, h⟩ | ⟨h4, ⟨v, v1, rfl, rfl, v2, v3⟩ | ⟨rfl, rfl⟩ | ⟨w, w1, rfl, rfl, _, w2⟩ | ⟨rfl, rfl | ⟨rfl, w2⟩⟩⟩
  · exact Or.inl ⟨rfl, rfl, h⟩
  · exact Or.inr ⟨by decide, by decide, h4⟩
  · exact Or.inr ⟨by decide, by decide, h4⟩
  · exact Or.inr ⟨by decide, by decide, h4⟩
  · exact Or.inr ⟨by decide, by decide, h4⟩
  · exact Or.inr ⟨by decide, by decide, h4⟩
theorem lx_tk1 {n P A : Nat} {b : Nat → Nat} {sg vl tok val : Int32} (hT : lx_TK b n P A sg vl tok val) (h : tok = 1) : P < A ∧ ∃ k, k < 13 ∧ val = nI k := by
  obtain ⟨h1, h2, h3⟩ := hT
  subst h
  rcases h3 with ⟨_, e, _⟩ | ⟨h4, ⟨v, v1, _, e, v2, v3⟩ | ⟨_, e⟩ | ⟨w, w1, _, _, e, w2⟩ | ⟨e, _⟩⟩
  · exact absurd e (by decide)
  · exact absurd e (by decide)
  · exact absurd e (by decide)
  · exact ⟨h4, lx_rv w, (lx_w4 w w1).1, e⟩
  · exact absurd e (by decide)
theorem lx_step {F n P A : Nat} {tx : Nat → Int32} {b : Nat → Nat} {m : SM} {lt sg vl tk : Int32} {u : SO} {tok plc val flt ds dw : Int32} {lk st wy : Nat → Int32} (hF : 2000 ≤ F) (hb : ∀ j, tx j = nI (b j) ∧ b j ≤ 255) (hn : n ≤ 400) (hx : O_text u = tx) (hy : O_typed u = nI n) (hA : A ≤ n) : ∃ (P' A' : Nat) (sg' vl' tok' val' : Int32), A ≤ P' ∧ lx_TK b n P' A' sg' vl' tok' val' ∧ f_X3_next F (sR tx m n lt sg P A vl tk) = some (sR tx m n lt sg' P' A' vl' tk) ∧ f_X6_advances F (mO u (nI A) tok plc val flt lk st wy ds dw) = some (mO u (nI A') tok' (nI P') val' flt lk st wy ds dw) := by
  obtain ⟨P', A', sg', vl', tok', val', g1, g2, g3, g4⟩ := lx_next (F := F) (m := m) (lt := lt) (sg := sg) (vl := vl) (tk := tk) (tok := tok) (plc := plc) (val := val) (flt := flt) (ds := ds) (dw := dw) (lk := lk) (st := st) (wy := wy) hF hb hn hx hy hA
  exact ⟨P', A', sg', vl', tok', val', g1, g2, g3, g4⟩
theorem lx_well {F : Nat} {u : SO} {nx tok plc val ds dw : Int32} {lk st wy : Nat → Int32} : f_X6_isWell F (mO u nx tok plc val (-1) lk st wy ds dw) = some 1 := by
  unfold f_X6_isWell
  simp only [yO_fault]
  rw [if_neg (by decide)]
theorem lx_ill {F Q : Nat} (hQ : Q ≤ 400) {u : SO} {nx tok plc val ds dw : Int32} {lk st wy : Nat → Int32} : f_X6_isWell F (mO u nx tok plc val (nI Q) lk st wy ds dw) = some 0 := by
  unfold f_X6_isWell
  simp only [yO_fault]
  rw [if_pos (nI_pos' (by omega))]
theorem lx_taY {F : Nat} {u : SO} {nx tok plc val ds dw : Int32} {lk st wy : Nat → Int32} : f_X6_takes F (mO u nx tok plc val (-1) lk st wy ds dw) 1 = obd (f_X6_advances F (mO u nx tok plc val (-1) lk st wy ds dw)) (fun v5 => some (val, v5)) := by
  unfold f_X6_takes
  rw [lx_well, obd_s, if_neg one0, if_neg one0]
  rfl
theorem lx_taN {F : Nat} {u : SO} {nx tok plc val ds dw : Int32} {lk st wy : Nat → Int32} : f_X6_takes F (mO u nx tok plc val (-1) lk st wy ds dw) 0 = some (0, mO u nx tok plc val plc lk st wy ds dw) := by
  unfold f_X6_takes
  rw [lx_well, obd_s, if_neg one0, if_pos rfl]
  rfl
theorem lx_taF {F Q : Nat} (hQ : Q ≤ 400) {u : SO} {nx tok plc val ds dw x : Int32} {lk st wy : Nat → Int32} : f_X6_takes F (mO u nx tok plc val (nI Q) lk st wy ds dw) x = some (0, mO u nx tok plc val (nI Q) lk st wy ds dw) := by
  unfold f_X6_takes
  rw [lx_ill hQ, obd_s, if_pos rfl]
theorem lx_nuF {F Q : Nat} (hQ : Q ≤ 400) {u : SO} {nx tok plc val ds dw x y : Int32} {lk st wy : Nat → Int32} : f_X6_number F (mO u nx tok plc val (nI Q) lk st wy ds dw) x y = some (0, mO u nx tok plc val (nI Q) lk st wy ds dw) := by
  unfold f_X6_number
  simp only [in_eq, obd_s, ite_so, lx_taF hQ]
theorem lx_num {F n P A : Nat} {tx : Nat → Int32} {b : Nat → Nat} {m : SM} {lt sg vl tk : Int32} {u : SO} {tok val ds dw : Int32} {lk st wy : Nat → Int32} (lo hi : Nat) (x y : Int32) (ex : x = nI lo) (ey : y = nI hi) (hh : hi ≤ 99) (hl : lo ≤ 99) (hF : 2000 ≤ F) (hb : ∀ j, tx j = nI (b j) ∧ b j ≤ 255) (hn : n ≤ 400) (hx : O_text u = tx) (hy : O_typed u = nI n) (hT : lx_TK b n P A sg vl tok val) : (∃ (v P' A' : Nat) (sg' vl' tok' val' : Int32), lo ≤ v ∧ v ≤ hi ∧ P < P' ∧ lx_TK b n P' A' sg' vl' tok' val' ∧ f_X3_takeNumber F (sR tx m n lt sg P A vl tk) x y = some (1, sR tx m n lt sg' P' A' vl' (nI v)) ∧ f_X6_number F (mO u (nI A) tok (nI P) val (-1) lk st wy ds dw) x y = some (nI v, mO u (nI A') tok' (nI P') val' (-1) lk st wy ds dw)) ∨ (f_X3_takeNumber F (sR tx m n lt sg P A vl tk) x y = some (0, sR tx m n lt sg P A vl tk) ∧ f_X6_number F (mO u (nI A) tok (nI P) val (-1) lk st wy ds dw) x y = some (0, mO u (nI A) tok (nI P) val (nI P) lk st wy ds dw)) := by
  subst ex; subst ey
  have hA := hT.2.1
  unfold f_X3_takeNumber f_X6_number
  simp only [yR_text, yR_into, yR_length, yR_luckTold, yR_sign, yR_place, yR_after, yR_value, yR_taken, vR_into, vR_luckTold, vR_sign, vR_value, vR_taken, vR_place, vR_after, yO_thrown, yO_trace, yO_s, yO_kept, yO_isKept, yO_latest, yO_text, yO_typed, yO_next, yO_token, yO_place, yO_value, yO_fault, yO_luck, yO_stall, yO_way, yO_stalls, yO_ways, yO_draftStalls, yO_draftWays, yO_beliefs, yO_bars, yO_triangle, yO_costs, yO_dones, yO_row, yO_up, yO_down, yO_soldSteps, vO_next, vO_token, vO_place, vO_value, vO_fault, vO_luck, vO_stall, vO_way, vO_draftStalls, vO_draftWays]
  rcases lx_tk2 hT with ⟨rfl, rfl, t1, v, v1, rfl, rfl⟩ | ⟨t1, t2⟩
  · rw [if_pos rfl, if_pos rfl, lx_in (c := v) (nI lo) (nI hi) rfl rfl (by omega) (by omega) (by omega), obd_s]
    by_cases c : lo ≤ v ∧ v ≤ hi
    · obtain ⟨P', A', sg', vl', tok', val', g1, g2, g3, g4⟩ := lx_step (F := F) (m := m) (lt := lt) (sg := 2) (vl := nI v) (tk := nI v) (P := P) (A := A) (tok := 2) (plc := nI P) (val := nI v) (flt := -1) (ds := ds) (dw := dw) (lk := lk) (st := st) (wy := wy) hF hb hn hx hy hA
      refine Or.inl ⟨v, P', A', sg', vl', tok', val', c.1, c.2, by omega, g2, ?_, ?_⟩
      · rw [if_neg (nI_nlt c.1 (by omega)), if_pos (nI_le c.2 (by omega)), olt_s, olt_s, g3, obd_s]
      · rw [if_pos c, if_neg one0, obd_s, lx_taY, g4]
        rfl
    · refine Or.inr ⟨?_, ?_⟩
      · by_cases c1 : v < lo
        · rw [if_pos (nI_lt c1 (by omega))]
        · rw [if_neg (nI_nlt (by omega) (by omega)), if_neg (nI_ge (by omega) (by omega))]
      · rw [if_neg c, if_pos rfl, obd_s, lx_taN]
        rfl
  · rw [if_neg t2, if_neg t1, obd_s, lx_taN]
    exact Or.inr ⟨rfl, rfl⟩
/-! what holds where reading has failed -/
def lx_Fr (u : SO) (lk st wy : Nat → Int32) : Prop := (∀ j, j < 3 → lk j = O_luck u j) ∧ (∀ j, j < 18 → st j = O_stall u j) ∧ (∀ j, j < 24 → wy j = O_way u j)
def lx_Bad (tx : Nat → Int32) (u : SO) (Q : Nat) (s : SR) (o : SO) : Prop := Q ≤ 400 ∧ R_place s = nI Q ∧ R_text s = tx ∧ ∃ (nx tok plc val : Int32) (lk st wy : Nat → Int32) (ds dw : Int32), o = mO u nx tok plc val (nI Q) lk st wy ds dw ∧ lx_Fr u lk st wy
theorem lx_Fl {u : SO} {lk st wy : Nat → Int32} (h : lx_Fr u lk st wy) {i : Nat} (hi : 3 ≤ i) (x : Int32) : lx_Fr u (upd lk i x) st wy := ⟨fun j hj => (upd_n (by omega)).trans (h.1 j hj), h.2.1, h.2.2⟩
theorem lx_Fs {u : SO} {lk st wy : Nat → Int32} (h : lx_Fr u lk st wy) {i : Nat} (hi : 18 ≤ i) (x : Int32) : lx_Fr u lk (upd st i x) wy := ⟨h.1, fun j hj => (upd_n (by omega)).trans (h.2.1 j hj), h.2.2⟩
theorem lx_Fw {u : SO} {lk st wy : Nat → Int32} (h : lx_Fr u lk st wy) {i : Nat} (hi : 24 ≤ i) (x : Int32) : lx_Fr u lk st (upd wy i x) := ⟨h.1, h.2.1, fun j hj => (upd_n (by omega)).trans (h.2.2 j hj)⟩
/-! luck -/
theorem lx_third {F n P A a c : Nat} {tx : Nat → Int32} {b : Nat → Nat} {m : SM} {lt sg vl tk : Int32} {u : SO} {tok val ds dw : Int32} {lk st wy : Nat → Int32} (ha : a ≤ 10) (hc : c ≤ 10) (hF : 2000 ≤ F) (hb : ∀ j, tx j = nI (b j) ∧ b j ≤ 255) (hn : n ≤ 400) (hx : O_text u = tx) (hy : O_typed u = nI n) (hT : lx_TK b n P A sg vl tok val) : (∃ (e P' A' : Nat) (sg' vl' tok' val' : Int32), a + c + e = 10 ∧ P < P' ∧ lx_TK b n P' A' sg' vl' tok' val' ∧ f_X3_takeNumber F (sR tx m n lt sg P A vl tk) ((10 : Int32) - nI a - nI c) ((10 : Int32) - nI a - nI c) = some (1, sR tx m n lt sg' P' A' vl' (nI e)) ∧ (if tok = 2 then (if nI a + nI c + val = (10 : Int32) then some (1 : Int32) else some 0) else some 0) = some 1 ∧ f_X6_takes F (mO u (nI A) tok (nI P) val (-1) lk st wy ds dw) 1 = some (nI e, mO u (nI A') tok' (nI P') val' (-1) lk st wy ds dw)) ∨ (f_X3_takeNumber F (sR tx m n lt sg P A vl tk) ((10 : Int32) - nI a - nI c) ((10 : Int32) - nI a - nI c) = some (0, sR tx m n lt sg P A vl tk) ∧ (if tok = 2 then (if nI a + nI c + val = (10 : Int32) then some (1 : Int32) else some 0) else some 0) = some 0) := by
  have hA := hT.2.1
  unfold f_X3_takeNumber
  simp only [yR_text, yR_into, yR_length, yR_luckTold, yR_sign, yR_place, yR_after, yR_value, yR_taken, vR_into, vR_luckTold, vR_sign, vR_value, vR_taken, vR_place, vR_after]
  rcases lx_tk2 hT with ⟨rfl, rfl, t1, v, v1, rfl, rfl⟩ | ⟨t1, t2⟩
  · have er : ((10 : Int32) - nI a - nI c).toInt = (10 : Int) - a - c := by
      rw [show (10 : Int32) = nI 10 from rfl, pk_sub ha, pk_sub_toInt (by omega) (by omega)]
      omega
    have ev : (nI v).toInt = (v : Int) := nI_toInt (by omega)
    rw [if_pos rfl, if_pos rfl, nI_add, nI_add]
    by_cases c0 : a + c + v = 10
    · have e1 : ¬ nI v < (10 : Int32) - nI a - nI c := by rw [Int32.lt_iff_toInt_lt, er, ev]; omega
      have e2 : nI v ≤ (10 : Int32) - nI a - nI c := by rw [Int32.le_iff_toInt_le, er, ev]; omega
      obtain ⟨P', A', sg', vl', tok', val', g1, g2, g3, g4⟩ := lx_step (F := F) (m := m) (lt := lt) (sg := 2) (vl := nI v) (tk := nI v) (P := P) (A := A) (tok := 2) (plc := nI P) (val := nI v) (flt := -1) (ds := ds) (dw := dw) (lk := lk) (st := st) (wy := wy) hF hb hn hx hy hA
      refine Or.inl ⟨v, P', A', sg', vl', tok', val', c0, by omega, g2, ?_, ?_, ?_⟩
      · rw [if_neg e1, if_pos e2, olt_s, olt_s, g3, obd_s]
      · rw [if_pos (show nI (a + c + v) = (10 : Int32) from congrArg nI c0)]
      · rw [lx_taY, g4]
        rfl
    · refine Or.inr ⟨?_, ?_⟩
      · by_cases e1 : nI v < (10 : Int32) - nI a - nI c
        · rw [if_pos e1]
        · rw [if_neg e1, if_neg]
          intro e2
          rw [Int32.lt_iff_toInt_lt, er, ev] at e1
          rw [Int32.le_iff_toInt_le, er, ev] at e2
          omega
      · rw [if_neg (show ¬ nI (a + c + v) = (10 : Int32) from fun z => c0 ((nI_eq (a := a + c + v) (b := 10) (by omega) (by omega)).mp z))]
  · rw [if_neg t2, if_neg t1]
    exact Or.inr ⟨rfl, rfl⟩
theorem lx_luck {F n P A : Nat} {tx : Nat → Int32} {b : Nat → Nat} {m : SM} {lt sg vl tk : Int32} {u : SO} {tok val ds dw : Int32} {lk st wy : Nat → Int32} (hF : 2000 ≤ F) (hb : ∀ j, tx j = nI (b j) ∧ b j ≤ 255) (hn : n ≤ 400) (hx : O_text u = tx) (hy : O_typed u = nI n) (hT : lx_TK b n P A sg vl tok val) (hR : lx_Fr u lk st wy) : (∃ (a c e P' A' : Nat) (sg' vl' tok' val' : Int32), a + c + e = 10 ∧ P < P' ∧ lx_TK b n P' A' sg' vl' tok' val' ∧ f_X3_readLuck F (sR tx m n lt sg P A vl tk) = some (1, sR tx (uM_more (uM_just (uM_less m (nI a)) (nI c)) (nI e)) n 1 sg' P' A' vl' (nI e)) ∧ f_X6_readsLuck F (mO u (nI A) tok (nI P) val (-1) lk st wy ds dw) = some (mO u (nI A') tok' (nI P') val' (-1) (upd (upd (upd lk 3 (nI a)) 4 (nI c)) 5 (nI e)) st wy ds dw)) ∨ (∃ (r : Int32) (s : SR) (o : SO) (Q : Nat), f_X3_readLuck F (sR tx m n lt sg P A vl tk) = some (r, s) ∧ (r = 0 ∨ R_sign s ≠ 3) ∧ f_X6_readsLuck F (mO u (nI A) tok (nI P) val (-1) lk st wy ds dw) = some o ∧ lx_Bad tx u Q s o) := by
  unfold f_X3_readLuck f_X6_readsLuck
  rw [olt_s, vR_luckTold]
  have h0 := hT.1
  have h0' := hT.2.1
  rcases lx_num (F := F) (m := m) (lt := 1) (tk := tk) (ds := ds) (dw := dw) (lk := lk) (st := st) (wy := wy) 0 10 0 10 rfl rfl (by omega) (by omega) hF hb hn hx hy hT with ⟨a, P1, A1, sg1, vl1, tok1, val1, a1, a2, a3, T1, n1, n2⟩ | ⟨n1, n2⟩
  rotate_left
  · rw [n1, n2]
    simp only [obd_s, olt_s, yO_thrown, yO_trace, yO_s, yO_kept, yO_isKept, yO_latest, yO_text, yO_typed, yO_next, yO_token, yO_place, yO_value, yO_fault, yO_luck, yO_stall, yO_way, yO_stalls, yO_ways, yO_draftStalls, yO_draftWays, yO_beliefs, yO_bars, yO_triangle, yO_costs, yO_dones, yO_row, yO_up, yO_down, yO_soldSteps, vO_next, vO_token, vO_place, vO_value, vO_fault, vO_luck, vO_stall, vO_way, vO_draftStalls, vO_draftWays, lx_c3, lx_c4, lx_c5, lx_nuF (show P ≤ 400 by omega), ite_so, lx_taF (show P ≤ 400 by omega)]
    exact Or.inr ⟨0, _, _, P, rfl, Or.inl rfl, rfl, by omega, rfl, rfl, _, _, _, _, _, _, _, _, _, rfl, lx_Fl (lx_Fl (lx_Fl hR (by decide) _) (by decide) _) (by decide) _⟩
  rw [n1, n2]
  simp only [obd_s, olt_s, yR_text, yR_into, yR_length, yR_luckTold, yR_sign, yR_place, yR_after, yR_value, yR_taken, vR_into, vR_luckTold, vR_sign, vR_value, vR_taken, vR_place, vR_after, yO_thrown, yO_trace, yO_s, yO_kept, yO_isKept, yO_latest, yO_text, yO_typed, yO_next, yO_token, yO_place, yO_value, yO_fault, yO_luck, yO_stall, yO_way, yO_stalls, yO_ways, yO_draftStalls, yO_draftWays, yO_beliefs, yO_bars, yO_triangle, yO_costs, yO_dones, yO_row, yO_up, yO_down, yO_soldSteps, vO_next, vO_token, vO_place, vO_value, vO_fault, vO_luck, vO_stall, vO_way, vO_draftStalls, vO_draftWays, lx_c3, if_neg one0]
  have h1 := T1.1
  have h1' := T1.2.1
  rcases lx_num (F := F) (m := uM_less m (nI a)) (lt := 1) (tk := nI a) (ds := ds) (dw := dw) (lk := upd lk (Int32.toNatClampNeg 3) (nI a)) (st := st) (wy := wy) 0 10 0 10 rfl rfl (by omega) (by omega) hF hb hn hx hy T1 with ⟨c, P2, A2, sg2, vl2, tok2, val2, b1, b2, b3, T2, n3, n4⟩ | ⟨n3, n4⟩
  rotate_left
  · rw [n3, n4]
    simp only [obd_s, olt_s, yO_thrown, yO_trace, yO_s, yO_kept, yO_isKept, yO_latest, yO_text, yO_typed, yO_next, yO_token, yO_place, yO_value, yO_fault, yO_luck, yO_stall, yO_way, yO_stalls, yO_ways, yO_draftStalls, yO_draftWays, yO_beliefs, yO_bars, yO_triangle, yO_costs, yO_dones, yO_row, yO_up, yO_down, yO_soldSteps, vO_next, vO_token, vO_place, vO_value, vO_fault, vO_luck, vO_stall, vO_way, vO_draftStalls, vO_draftWays, lx_c3, lx_c4, lx_c5, lx_nuF (show P1 ≤ 400 by omega), ite_so, lx_taF (show P1 ≤ 400 by omega)]
    exact Or.inr ⟨0, _, _, P1, rfl, Or.inl rfl, rfl, by omega, rfl, rfl, _, _, _, _, _, _, _, _, _, rfl, lx_Fl (lx_Fl (lx_Fl hR (by decide) _) (by decide) _) (by decide) _⟩
  rw [n3, n4]
  simp only [obd_s, olt_s, yR_text, yR_into, yR_length, yR_luckTold, yR_sign, yR_place, yR_after, yR_value, yR_taken, vR_into, vR_luckTold, vR_sign, vR_value, vR_taken, vR_place, vR_after, yO_thrown, yO_trace, yO_s, yO_kept, yO_isKept, yO_latest, yO_text, yO_typed, yO_next, yO_token, yO_place, yO_value, yO_fault, yO_luck, yO_stall, yO_way, yO_stalls, yO_ways, yO_draftStalls, yO_draftWays, yO_beliefs, yO_bars, yO_triangle, yO_costs, yO_dones, yO_row, yO_up, yO_down, yO_soldSteps, vO_next, vO_token, vO_place, vO_value, vO_fault, vO_luck, vO_stall, vO_way, vO_draftStalls, vO_draftWays, xM_less_less, xM_just_less, xM_more_less, xM_stalls_less, xM_step_less, xM_dry_less, xM_price_less, xM_ways_less, xM_shape_less, xM_grains_less, xM_oneIn_less, xM_sorts_less, zM_less, xM_less_just, xM_just_just, xM_more_just, xM_stalls_just, xM_step_just, xM_dry_just, xM_price_just, xM_ways_just, xM_shape_just, xM_grains_just, xM_oneIn_just, xM_sorts_just, zM_just, xM_less_more, xM_just_more, xM_more_more, xM_stalls_more, xM_step_more, xM_dry_more, xM_price_more, xM_ways_more, xM_shape_more, xM_grains_more, xM_oneIn_more, xM_sorts_more, zM_more, lx_c3, lx_c4, lx_k3, lx_k4, if_neg one0]
  have h2 := T2.1
  have h2' := T2.2.1
  have u3 : upd (upd lk 3 (nI a)) 4 (nI c) 3 = nI a := (upd_n (by decide)).trans upd_s
  have u4 : upd (upd lk 3 (nI a)) 4 (nI c) 4 = nI c := upd_s
  rw [u3, u4]
  rcases lx_third (F := F) (a := a) (c := c) (m := uM_just (uM_less m (nI a)) (nI c)) (lt := 1) (tk := nI c) (ds := ds) (dw := dw) (lk := upd (upd lk 3 (nI a)) 4 (nI c)) (st := st) (wy := wy) a2 b2 hF hb hn hx hy T2 with ⟨e, P3, A3, sg3, vl3, tok3, val3, c1, c3, T3, n5, n6, n7⟩ | ⟨n5, n6⟩
  · rw [n5, n6]
    simp only [obd_s]
    rw [n7]
    simp only [obd_s, olt_s, yR_text, yR_into, yR_length, yR_luckTold, yR_sign, yR_place, yR_after, yR_value, yR_taken, vR_into, vR_luckTold, vR_sign, vR_value, vR_taken, vR_place, vR_after, yO_thrown, yO_trace, yO_s, yO_kept, yO_isKept, yO_latest, yO_text, yO_typed, yO_next, yO_token, yO_place, yO_value, yO_fault, yO_luck, yO_stall, yO_way, yO_stalls, yO_ways, yO_draftStalls, yO_draftWays, yO_beliefs, yO_bars, yO_triangle, yO_costs, yO_dones, yO_row, yO_up, yO_down, yO_soldSteps, vO_next, vO_token, vO_place, vO_value, vO_fault, vO_luck, vO_stall, vO_way, vO_draftStalls, vO_draftWays, lx_c5, lx_k5, if_neg one0]
    exact Or.inl ⟨a, c, e, P3, A3, sg3, vl3, tok3, val3, c1, by omega, T3, rfl, rfl⟩
  · rw [n5, n6]
    simp only [obd_s]
    rw [lx_taN]
    simp only [obd_s, olt_s, yO_thrown, yO_trace, yO_s, yO_kept, yO_isKept, yO_latest, yO_text, yO_typed, yO_next, yO_token, yO_place, yO_value, yO_fault, yO_luck, yO_stall, yO_way, yO_stalls, yO_ways, yO_draftStalls, yO_draftWays, yO_beliefs, yO_bars, yO_triangle, yO_costs, yO_dones, yO_row, yO_up, yO_down, yO_soldSteps, vO_next, vO_token, vO_place, vO_value, vO_fault, vO_luck, vO_stall, vO_way, vO_draftStalls, vO_draftWays, lx_c5]
    exact Or.inr ⟨0, _, _, P2, rfl, Or.inl rfl, rfl, by omega, rfl, rfl, _, _, _, _, _, _, _, _, _, rfl, lx_Fl (lx_Fl (lx_Fl hR (by decide) _) (by decide) _) (by decide) _⟩
/-! a stall -/
theorem lx_addS {F ns : Nat} {m : SM} (h : M_stalls m = nI ns) (hn : ns < 6) (x y z : Int32) : f_X2_addStall F m x y z = some (uM_stalls (uM_price (uM_dry (uM_step m (upd (M_step m) ns x)) (upd (M_dry m) ns y)) (upd (M_price m) ns z)) (nI (ns + 1))) := by
  unfold f_X2_addStall
  simp only [olt_s, xM_less_step, xM_just_step, xM_more_step, xM_stalls_step, xM_step_step, xM_dry_step, xM_price_step, xM_ways_step, xM_shape_step, xM_grains_step, xM_oneIn_step, xM_sorts_step, zM_step, xM_less_dry, xM_just_dry, xM_more_dry, xM_stalls_dry, xM_step_dry, xM_dry_dry, xM_price_dry, xM_ways_dry, xM_shape_dry, xM_grains_dry, xM_oneIn_dry, xM_sorts_dry, zM_dry, xM_less_price, xM_just_price, xM_more_price, xM_stalls_price, xM_step_price, xM_dry_price, xM_price_price, xM_ways_price, xM_shape_price, xM_grains_price, xM_oneIn_price, xM_sorts_price, zM_price, h, ochi_n (show ns < 6 by omega) (show 6 < 2 ^ 31 by omega), cl (show ns < 2 ^ 31 by omega), s1]
  rw [if_neg (show ¬ (6 : Int32) ≤ nI ns from nI_ge (b := 6) hn (by omega))]
theorem lx_addW {F nw : Nat} {m : SM} (h : M_ways m = nI nw) (hn : nw < 6) (x y z v : Int32) : f_X2_addWay F m x y z v = some (uM_ways (uM_sorts (uM_oneIn (uM_grains (uM_shape m (upd (M_shape m) nw x)) (upd (M_grains m) nw y)) (upd (M_oneIn m) nw z)) (upd (M_sorts m) nw v)) (nI (nw + 1))) := by
  unfold f_X2_addWay
  simp only [olt_s, xM_less_shape, xM_just_shape, xM_more_shape, xM_stalls_shape, xM_step_shape, xM_dry_shape, xM_price_shape, xM_ways_shape, xM_shape_shape, xM_grains_shape, xM_oneIn_shape, xM_sorts_shape, zM_shape, xM_less_grains, xM_just_grains, xM_more_grains, xM_stalls_grains, xM_step_grains, xM_dry_grains, xM_price_grains, xM_ways_grains, xM_shape_grains, xM_grains_grains, xM_oneIn_grains, xM_sorts_grains, zM_grains, xM_less_oneIn, xM_just_oneIn, xM_more_oneIn, xM_stalls_oneIn, xM_step_oneIn, xM_dry_oneIn, xM_price_oneIn, xM_ways_oneIn, xM_shape_oneIn, xM_grains_oneIn, xM_oneIn_oneIn, xM_sorts_oneIn, zM_oneIn, xM_less_sorts, xM_just_sorts, xM_more_sorts, xM_stalls_sorts, xM_step_sorts, xM_dry_sorts, xM_price_sorts, xM_ways_sorts, xM_shape_sorts, xM_grains_sorts, xM_oneIn_sorts, xM_sorts_sorts, zM_sorts, h, ochi_n (show nw < 6 by omega) (show 6 < 2 ^ 31 by omega), cl (show nw < 2 ^ 31 by omega), s1]
  rw [if_neg (show ¬ (6 : Int32) ≤ nI nw from nI_ge (b := 6) hn (by omega))]
theorem lx_stall {F n P A ns : Nat} {tx : Nat → Int32} {b : Nat → Nat} {m : SM} {lt sg vl tk : Int32} {u : SO} {tok val dw : Int32} {lk st wy : Nat → Int32} (hF : 2000 ≤ F) (hb : ∀ j, tx j = nI (b j) ∧ b j ≤ 255) (hn : n ≤ 400) (hx : O_text u = tx) (hy : O_typed u = nI n) (hT : lx_TK b n P A sg vl tok val) (hR : lx_Fr u lk st wy) (hm : M_stalls m = nI ns) (hs : ns < 6) : (∃ (x y z P' A' : Nat) (sg' vl' tok' val' : Int32), (1 ≤ x ∧ x ≤ 20 ∧ y ≤ 9 ∧ z ≤ 99) ∧ P < P' ∧ lx_TK b n P' A' sg' vl' tok' val' ∧ f_X3_readStall F (sR tx m n lt sg P A vl tk) = some (1, sR tx (uM_stalls (uM_price (uM_dry (uM_step m (upd (M_step m) ns (nI x))) (upd (M_dry m) ns (nI y))) (upd (M_price m) ns (nI z))) (nI (ns + 1))) n lt sg' P' A' vl' (nI z)) ∧ f_X6_readsStall F (mO u (nI A) tok (nI P) val (-1) lk st wy (nI ns) dw) = some (mO u (nI A') tok' (nI P') val' (-1) lk (upd (upd (upd st (18 + 3 * ns) (nI x)) (18 + 3 * ns + 1) (nI y)) (18 + 3 * ns + 2) (nI z)) wy (nI (ns + 1)) dw)) ∨ (∃ (r : Int32) (s : SR) (o : SO) (Q : Nat), f_X3_readStall F (sR tx m n lt sg P A vl tk) = some (r, s) ∧ (r = 0 ∨ R_sign s ≠ 3) ∧ f_X6_readsStall F (mO u (nI A) tok (nI P) val (-1) lk st wy (nI ns) dw) = some o ∧ lx_Bad tx u Q s o) := by
  unfold f_X3_readStall f_X6_readsStall
  have ez : (18 : Int32) + (3 : Int32) * nI ns = nI (18 + 3 * ns) := by rw [show (3 : Int32) = nI 3 from rfl, pk_mul, show (18 : Int32) = nI 18 from rfl, nI_add]
  simp only [olt_s, yO_draftStalls, ez, s1, lx_s2, ochi_n (show 18 + 3 * ns < 36 by omega) (show 36 < 2 ^ 31 by omega), ochi_n (show 18 + 3 * ns + 1 < 36 by omega) (show 36 < 2 ^ 31 by omega), ochi_n (show 18 + 3 * ns + 2 < 36 by omega) (show 36 < 2 ^ 31 by omega), cl (show 18 + 3 * ns < 2 ^ 31 by omega), cl (show 18 + 3 * ns + 1 < 2 ^ 31 by omega), cl (show 18 + 3 * ns + 2 < 2 ^ 31 by omega)]
  have h0 := hT.1
  have h0' := hT.2.1
  rcases lx_num (F := F) (m := m) (lt := lt) (tk := tk) (ds := nI ns) (dw := dw) (lk := lk) (st := st) (wy := wy) 1 20 1 20 rfl rfl (by omega) (by omega) hF hb hn hx hy hT with ⟨x, P1, A1, sg1, vl1, tok1, val1, a1, a2, a3, T1, n1, n2⟩ | ⟨n1, n2⟩
  rotate_left
  · rw [n1, n2]
    simp only [obd_s, yO_thrown, yO_trace, yO_s, yO_kept, yO_isKept, yO_latest, yO_text, yO_typed, yO_next, yO_token, yO_place, yO_value, yO_fault, yO_luck, yO_stall, yO_way, yO_stalls, yO_ways, yO_draftStalls, yO_draftWays, yO_beliefs, yO_bars, yO_triangle, yO_costs, yO_dones, yO_row, yO_up, yO_down, yO_soldSteps, vO_next, vO_token, vO_place, vO_value, vO_fault, vO_luck, vO_stall, vO_way, vO_draftStalls, vO_draftWays, lx_nuF (show P ≤ 400 by omega)]
    exact Or.inr ⟨0, _, _, P, rfl, Or.inl rfl, rfl, by omega, rfl, rfl, _, _, _, _, _, _, _, _, _, rfl, lx_Fs (lx_Fs (lx_Fs hR (by omega) _) (by omega) _) (by omega) _⟩
  rw [n1, n2]
  simp only [obd_s, yR_text, yR_into, yR_length, yR_luckTold, yR_sign, yR_place, yR_after, yR_value, yR_taken, vR_into, vR_luckTold, vR_sign, vR_value, vR_taken, vR_place, vR_after, yO_thrown, yO_trace, yO_s, yO_kept, yO_isKept, yO_latest, yO_text, yO_typed, yO_next, yO_token, yO_place, yO_value, yO_fault, yO_luck, yO_stall, yO_way, yO_stalls, yO_ways, yO_draftStalls, yO_draftWays, yO_beliefs, yO_bars, yO_triangle, yO_costs, yO_dones, yO_row, yO_up, yO_down, yO_soldSteps, vO_next, vO_token, vO_place, vO_value, vO_fault, vO_luck, vO_stall, vO_way, vO_draftStalls, vO_draftWays, if_neg one0]
  have h1 := T1.1
  have h1' := T1.2.1
  rcases lx_num (F := F) (m := m) (lt := lt) (tk := nI x) (ds := nI ns) (dw := dw) (lk := lk) (st := upd st (18 + 3 * ns) (nI x)) (wy := wy) 0 9 0 9 rfl rfl (by omega) (by omega) hF hb hn hx hy T1 with ⟨y, P2, A2, sg2, vl2, tok2, val2, b1, b2, b3, T2, n3, n4⟩ | ⟨n3, n4⟩
  rotate_left
  · rw [n3, n4]
    simp only [obd_s, yO_thrown, yO_trace, yO_s, yO_kept, yO_isKept, yO_latest, yO_text, yO_typed, yO_next, yO_token, yO_place, yO_value, yO_fault, yO_luck, yO_stall, yO_way, yO_stalls, yO_ways, yO_draftStalls, yO_draftWays, yO_beliefs, yO_bars, yO_triangle, yO_costs, yO_dones, yO_row, yO_up, yO_down, yO_soldSteps, vO_next, vO_token, vO_place, vO_value, vO_fault, vO_luck, vO_stall, vO_way, vO_draftStalls, vO_draftWays, lx_nuF (show P1 ≤ 400 by omega)]
    exact Or.inr ⟨0, _, _, P1, rfl, Or.inl rfl, rfl, by omega, rfl, rfl, _, _, _, _, _, _, _, _, _, rfl, lx_Fs (lx_Fs (lx_Fs hR (by omega) _) (by omega) _) (by omega) _⟩
  rw [n3, n4]
  simp only [obd_s, yR_text, yR_into, yR_length, yR_luckTold, yR_sign, yR_place, yR_after, yR_value, yR_taken, vR_into, vR_luckTold, vR_sign, vR_value, vR_taken, vR_place, vR_after, yO_thrown, yO_trace, yO_s, yO_kept, yO_isKept, yO_latest, yO_text, yO_typed, yO_next, yO_token, yO_place, yO_value, yO_fault, yO_luck, yO_stall, yO_way, yO_stalls, yO_ways, yO_draftStalls, yO_draftWays, yO_beliefs, yO_bars, yO_triangle, yO_costs, yO_dones, yO_row, yO_up, yO_down, yO_soldSteps, vO_next, vO_token, vO_place, vO_value, vO_fault, vO_luck, vO_stall, vO_way, vO_draftStalls, vO_draftWays, if_neg one0]
  have h2 := T2.1
  have h2' := T2.2.1
  rcases lx_num (F := F) (m := m) (lt := lt) (tk := nI y) (ds := nI ns) (dw := dw) (lk := lk) (st := upd (upd st (18 + 3 * ns) (nI x)) (18 + 3 * ns + 1) (nI y)) (wy := wy) 0 99 0 99 rfl rfl (by omega) (by omega) hF hb hn hx hy T2 with ⟨z, P3, A3, sg3, vl3, tok3, val3, c1, c2, c3, T3, n5, n6⟩ | ⟨n5, n6⟩
  rotate_left
  · rw [n5, n6]
    simp only [obd_s, yO_thrown, yO_trace, yO_s, yO_kept, yO_isKept, yO_latest, yO_text, yO_typed, yO_next, yO_token, yO_place, yO_value, yO_fault, yO_luck, yO_stall, yO_way, yO_stalls, yO_ways, yO_draftStalls, yO_draftWays, yO_beliefs, yO_bars, yO_triangle, yO_costs, yO_dones, yO_row, yO_up, yO_down, yO_soldSteps, vO_next, vO_token, vO_place, vO_value, vO_fault, vO_luck, vO_stall, vO_way, vO_draftStalls, vO_draftWays]
    exact Or.inr ⟨0, _, _, P2, rfl, Or.inl rfl, rfl, by omega, rfl, rfl, _, _, _, _, _, _, _, _, _, rfl, lx_Fs (lx_Fs (lx_Fs hR (by omega) _) (by omega) _) (by omega) _⟩
  rw [n5, n6]
  simp only [obd_s, yR_text, yR_into, yR_length, yR_luckTold, yR_sign, yR_place, yR_after, yR_value, yR_taken, vR_into, vR_luckTold, vR_sign, vR_value, vR_taken, vR_place, vR_after, yO_thrown, yO_trace, yO_s, yO_kept, yO_isKept, yO_latest, yO_text, yO_typed, yO_next, yO_token, yO_place, yO_value, yO_fault, yO_luck, yO_stall, yO_way, yO_stalls, yO_ways, yO_draftStalls, yO_draftWays, yO_beliefs, yO_bars, yO_triangle, yO_costs, yO_dones, yO_row, yO_up, yO_down, yO_soldSteps, vO_next, vO_token, vO_place, vO_value, vO_fault, vO_luck, vO_stall, vO_way, vO_draftStalls, vO_draftWays, if_neg one0, lx_addS hm hs, s1]
  exact Or.inl ⟨x, y, z, P3, A3, sg3, vl3, tok3, val3, ⟨a1, a2, b2, c2⟩, by omega, T3, rfl, rfl⟩
end
