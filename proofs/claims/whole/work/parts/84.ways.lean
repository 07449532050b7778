section
/-! ===== a way, its sorts ===== -/
def lx_pc (x : Nat) : Nat := x % 2 + x / 2 % 2 + x / 4 % 2 + x / 8 % 2
theorem lx_bit : ∀ x, x < 16 → ∀ o, o < 4 → (((nI x >>> (nI o &&& 31)) &&& (1 : Int32) = 1 ∧ ¬ ((nI x >>> (nI o &&& 31)) &&& (1 : Int32) = 0)) ∨ (¬ ((nI x >>> (nI o &&& 31)) &&& (1 : Int32) = 1) ∧ (nI x >>> (nI o &&& 31)) &&& (1 : Int32) = 0 ∧ nI x ||| ((1 : Int32) <<< (nI o &&& 31)) = nI (x + 2 ^ o) ∧ x + 2 ^ o < 16 ∧ lx_pc (x + 2 ^ o) = lx_pc x + 1 ∧ 0 < x + 2 ^ o)) := by decide +kernel
theorem lx_pc4 : ∀ x, x < 16 → lx_pc x ≤ 4 := by decide +kernel
theorem lx_v9 : ∀ o, o < 4 → nI (9 + o) - 9 = nI o ∧ ¬ nI (9 + o) < 9 ∧ 0 ≤ nI o := by decide +kernel
theorem lx_sort {F n P A : Nat} {tx : Nat → Int32} {b : Nat → Nat} {m : SM} {lt sg vl tk tok val : Int32} (hF : 2000 ≤ F) (hb : ∀ j, tx j = nI (b j) ∧ b j ≤ 255) (hn : n ≤ 400) (hT : lx_TK b n P A sg vl tok val) : (∃ o, o < 4 ∧ tok = 1 ∧ val = nI (9 + o) ∧ f_X3_sortHere F (sR tx m n lt sg P A vl tk) = some (nI o)) ∨ (¬ (tok = 1 ∧ ¬ val < 9) ∧ f_X3_sortHere F (sR tx m n lt sg P A vl tk) = some (-1)) := by
  have t9 : f_X3_isWord F (sR tx m n lt sg P A vl tk) q_old = some (if tok = 1 ∧ val = nI 9 then 1 else 0) := lx_tkW hF hb hn hT (q := 9) (by omega)
  have t10 : f_X3_isWord F (sR tx m n lt sg P A vl tk) q_young = some (if tok = 1 ∧ val = nI 10 then 1 else 0) := lx_tkW hF hb hn hT (q := 10) (by omega)
  have t11 : f_X3_isWord F (sR tx m n lt sg P A vl tk) q_friend = some (if tok = 1 ∧ val = nI 11 then 1 else 0) := lx_tkW hF hb hn hT (q := 11) (by omega)
  have t12 : f_X3_isWord F (sR tx m n lt sg P A vl tk) q_stranger = some (if tok = 1 ∧ val = nI 12 then 1 else 0) := lx_tkW hF hb hn hT (q := 12) (by omega)
  unfold f_X3_sortHere
  rw [t9, t10, t11, t12]
  simp only [obd_s, ite01]
  by_cases c9 : tok = 1 ∧ val = nI 9
  · exact Or.inl ⟨0, by omega, c9.1, c9.2, by rw [if_neg (fun z => z c9)]; rfl⟩
  rw [if_pos c9]
  by_cases c10 : tok = 1 ∧ val = nI 10
  · exact Or.inl ⟨1, by omega, c10.1, c10.2, by rw [if_neg (fun z => z c10)]; rfl⟩
  rw [if_pos c10]
  by_cases c11 : tok = 1 ∧ val = nI 11
  · exact Or.inl ⟨2, by omega, c11.1, c11.2, by rw [if_neg (fun z => z c11)]; rfl⟩
  rw [if_pos c11]
  by_cases c12 : tok = 1 ∧ val = nI 12
  · exact Or.inl ⟨3, by omega, c12.1, c12.2, by rw [if_neg (fun z => z c12)]; rfl⟩
  rw [if_pos c12]
  refine Or.inr ⟨fun z => ?_, rfl⟩
  obtain ⟨_, k, hk, e⟩ := lx_tk1 hT z.1
  subst e
  have h9 : ¬ k < 9 := fun h => z.2 (nI_lt (b := 9) h (by omega))
  have hc : k = 9 ∨ k = 10 ∨ k = 11 ∨ k = 12 := by omega
  rcases hc with rfl | rfl | rfl | rfl
  · exact c9 ⟨z.1, rfl⟩
  · exact c10 ⟨z.1, rfl⟩
  · exact c11 ⟨z.1, rfl⟩
  · exact c12 ⟨z.1, rfl⟩
theorem lx_sStep {F n P A x z : Nat} {tx : Nat → Int32} {b : Nat → Nat} {m : SM} {lt sg vl tk : Int32} {u : SO} {tok val ds dw : Int32} {lk st wy : Nat → Int32} (K : SO → Option SO) (hF : 2000 ≤ F) (hb : ∀ j, tx j = nI (b j) ∧ b j ≤ 255) (hn : n ≤ 400) (hx : O_text u = tx) (hy : O_typed u = nI n) (hz : z + 3 < 48) (hT : lx_TK b n P A sg vl tok val) (hxx : x < 16) (hw : wy (z + 3) = nI x) (nf nf' : Nat) : ((¬ (tok = 1 ∧ ¬ val < 9) ∧ f_X3_readSorts_L4 F (nf + 1) (nI x) (nI (lx_pc x)) (sR tx m n lt sg P A vl tk) = some (nI x, sR tx m n lt sg P A vl tk)) ∧ f_X6_readsWay_L171 F (nI z) K (nf' + 1) 1 (mO u (nI A) tok (nI P) val (-1) lk st wy ds dw) = f_X6_readsWay_L171 F (nI z) K nf' 0 (mO u (nI A) tok (nI P) val (nI P) lk st (upd wy (z + 3) (nI x ||| 0)) ds dw)) ∨ (f_X3_readSorts_L4 F (nf + 1) (nI x) (nI (lx_pc x)) (sR tx m n lt sg P A vl tk) = some (0, sR tx m n lt sg P A vl tk) ∧ f_X6_readsWay_L171 F (nI z) K (nf' + 1) 1 (mO u (nI A) tok (nI P) val (-1) lk st wy ds dw) = f_X6_readsWay_L171 F (nI z) K nf' 0 (mO u (nI A) tok (nI P) val (nI P) lk st (upd wy (z + 3) (nI x ||| 0)) ds dw)) ∨ (∃ (x' P' A' : Nat) (sg' vl' tok' val' : Int32), x' < 16 ∧ lx_pc x' = lx_pc x + 1 ∧ 0 < x' ∧ P < P' ∧ lx_TK b n P' A' sg' vl' tok' val' ∧ f_X3_readSorts_L4 F (nf + 1) (nI x) (nI (lx_pc x)) (sR tx m n lt sg P A vl tk) = f_X3_readSorts_L4 F nf (nI x') (nI (lx_pc x')) (sR tx m n lt sg' P' A' vl' tk) ∧ f_X6_readsWay_L171 F (nI z) K (nf' + 1) 1 (mO u (nI A) tok (nI P) val (-1) lk st wy ds dw) = if tok' = 3 then f_X6_readsWay_L171 F (nI z) K nf' 0 (mO u (nI A') tok' (nI P') val' (-1) lk st (upd wy (z + 3) (nI x')) ds dw) else f_X6_readsWay_L171 F (nI z) K nf' 1 (mO u (nI A') tok' (nI P') val' (-1) lk st (upd wy (z + 3) (nI x')) ds dw)) := by
  have hP := hT.1
  have hA := hT.2.1
  have hpc := lx_pc4 x hxx
  rw [f_X3_readSorts_L4, f_X6_readsWay_L171, if_neg one0, if_neg (show ¬ (4 : Int32) < nI (lx_pc x) from nI_nlt (a := 4) hpc (by omega))]
  simp only [yO_thrown, yO_trace, yO_s, yO_kept, yO_isKept, yO_latest, yO_text, yO_typed, yO_next, yO_token, yO_place, yO_value, yO_fault, yO_luck, yO_stall, yO_way, yO_stalls, yO_ways, yO_draftStalls, yO_draftWays, yO_beliefs, yO_bars, yO_triangle, yO_costs, yO_dones, yO_row, yO_up, yO_down, yO_soldSteps, vO_next, vO_token, vO_place, vO_value, vO_fault, vO_luck, vO_stall, vO_way, vO_draftStalls, vO_draftWays, lx_s3, ochi_n hz (show 48 < 2 ^ 31 by omega), cl (show z + 3 < 2 ^ 31 by omega), hw]
  rcases lx_sort (F := F) (m := m) (lt := lt) (tk := tk) hF hb hn hT with ⟨o, o1, rfl, rfl, o4⟩ | ⟨o1, o2⟩
  rotate_left
  · refine Or.inl ⟨⟨o1, ?_⟩, ?_⟩
    · rw [o2, obd_s, if_neg (by decide)]
    · have e1 : (if tok = 1 then (if val < 9 then some (0 : Int32) else (if ((nI x >>> ((val - 9) &&& 31)) &&& (1 : Int32)) = 0 then some 1 else some 0)) else some 0) = some 0 := by
        by_cases h1 : tok = 1
        · have h2 : val < 9 := Decidable.byContradiction (fun h => o1 ⟨h1, h⟩)
          rw [if_pos h1, if_pos h2]
        · rw [if_neg h1]
      rw [e1, obd_s, lx_taN]
      simp only [obd_s, olt_s, yO_thrown, yO_trace, yO_s, yO_kept, yO_isKept, yO_latest, yO_text, yO_typed, yO_next, yO_token, yO_place, yO_value, yO_fault, yO_luck, yO_stall, yO_way, yO_stalls, yO_ways, yO_draftStalls, yO_draftWays, yO_beliefs, yO_bars, yO_triangle, yO_costs, yO_dones, yO_row, yO_up, yO_down, yO_soldSteps, vO_next, vO_token, vO_place, vO_value, vO_fault, vO_luck, vO_stall, vO_way, vO_draftStalls, vO_draftWays, lx_ill (show P ≤ 400 by omega), ↓reduceIte, hw]
  obtain ⟨v1, v2, v3⟩ := lx_v9 o o1
  rw [o4, obd_s, if_pos v3, if_pos rfl, if_neg v2, v1]
  rcases lx_bit x hxx o o1 with ⟨b1, b2⟩ | ⟨b1, b2, b3, b4, b5, b6⟩
  · refine Or.inr (Or.inl ⟨?_, ?_⟩)
    · rw [if_pos b1]
    · rw [if_neg b2, obd_s, lx_taN]
      simp only [obd_s, olt_s, yO_thrown, yO_trace, yO_s, yO_kept, yO_isKept, yO_latest, yO_text, yO_typed, yO_next, yO_token, yO_place, yO_value, yO_fault, yO_luck, yO_stall, yO_way, yO_stalls, yO_ways, yO_draftStalls, yO_draftWays, yO_beliefs, yO_bars, yO_triangle, yO_costs, yO_dones, yO_row, yO_up, yO_down, yO_soldSteps, vO_next, vO_token, vO_place, vO_value, vO_fault, vO_luck, vO_stall, vO_way, vO_draftStalls, vO_draftWays, lx_ill (show P ≤ 400 by omega), ↓reduceIte, hw]
  · obtain ⟨P', A', sg', vl', tok', val', g1, T', g3, g4⟩ := lx_step (F := F) (m := m) (lt := lt) (sg := sg) (vl := vl) (tk := tk) (P := P) (A := A) (tok := 1) (plc := nI P) (val := nI (9 + o)) (flt := -1) (ds := ds) (dw := dw) (lk := lk) (st := st) (wy := wy) hF hb hn hx hy hA
    have hlt := (lx_tk1 hT rfl).1
    refine Or.inr (Or.inr ⟨x + 2 ^ o, P', A', sg', vl', tok', val', b4, b5, b6, by omega, T', ?_, ?_⟩)
    · rw [if_neg b1, g3, obd_s, b3, b5, s1]
    · rw [if_pos b2, obd_s, lx_taY, g4]
      simp only [obd_s, olt_s, yO_thrown, yO_trace, yO_s, yO_kept, yO_isKept, yO_latest, yO_text, yO_typed, yO_next, yO_token, yO_place, yO_value, yO_fault, yO_luck, yO_stall, yO_way, yO_stalls, yO_ways, yO_draftStalls, yO_draftWays, yO_beliefs, yO_bars, yO_triangle, yO_costs, yO_dones, yO_row, yO_up, yO_down, yO_soldSteps, vO_next, vO_token, vO_place, vO_value, vO_fault, vO_luck, vO_stall, vO_way, vO_draftStalls, vO_draftWays, lx_well, if_neg one0, v1, hw, b3]
theorem lx_sorts {F n z : Nat} {tx : Nat → Int32} {b : Nat → Nat} {m : SM} {lt tk : Int32} {u : SO} {ds dw : Int32} {lk st : Nat → Int32} (K : SO → Option SO) (hF : 2000 ≤ F) (hb : ∀ j, tx j = nI (b j) ∧ b j ≤ 255) (hn : n ≤ 400) (hx : O_text u = tx) (hy : O_typed u = nI n) (hz : z + 3 < 48) : ∀ (d x P A : Nat) (sg vl tok val : Int32) (wy : Nat → Int32) (nf nf' : Nat), lx_pc x + d = 4 → x < 16 → d + 2 ≤ nf → d + 2 ≤ nf' → lx_TK b n P A sg vl tok val → (x = 0 ∨ tok ≠ 3) → wy (z + 3) = nI x → (∃ (x' P' A' : Nat) (sg' vl' tok' val' : Int32) (wy' : Nat → Int32), (1 ≤ x' ∧ x' ≤ 15) ∧ P ≤ P' ∧ lx_TK b n P' A' sg' vl' tok' val' ∧ f_X3_readSorts_L4 F nf (nI x) (nI (lx_pc x)) (sR tx m n lt sg P A vl tk) = some (nI x', sR tx m n lt sg' P' A' vl' tk) ∧ f_X6_readsWay_L171 F (nI z) K nf' 1 (mO u (nI A) tok (nI P) val (-1) lk st wy ds dw) = K (mO u (nI A') tok' (nI P') val' (-1) lk st wy' ds dw) ∧ wy' (z + 3) = nI x' ∧ ∀ j, j ≠ z + 3 → wy' j = wy j) ∨ (∃ (r sg' : Int32) (Q A' : Nat) (vl' nx tok' plc val' : Int32) (wy' : Nat → Int32), Q ≤ 400 ∧ f_X3_readSorts_L4 F nf (nI x) (nI (lx_pc x)) (sR tx m n lt sg P A vl tk) = some (r, sR tx m n lt sg' Q A' vl' tk) ∧ (r = 0 ∨ sg' ≠ 3) ∧ f_X6_readsWay_L171 F (nI z) K nf' 1 (mO u (nI A) tok (nI P) val (-1) lk st wy ds dw) = K (mO u nx tok' plc val' (nI Q) lk st wy' ds dw) ∧ ∀ j, j ≠ z + 3 → wy' j = wy j) := by
  intro d
  induction d with
  | zero =>
    intro x P A sg vl tok val wy nf nf' hd hxx hnf hnf' hT h3 hw
    obtain ⟨nf, rfl⟩ : ∃ q, nf = q + 1 := ⟨nf - 1, by omega⟩
    obtain ⟨nf', rfl⟩ : ∃ q, nf' = q + 2 := ⟨nf' - 2, by omega⟩
    have hP := hT.1
    have hA := hT.2.1
    rcases lx_sStep (F := F) (m := m) (lt := lt) (tk := tk) (ds := ds) (dw := dw) (lk := lk) (st := st) K hF hb hn hx hy hz hT hxx hw nf (nf' + 1) with ⟨⟨s0, s1'⟩, s2⟩ | ⟨s1', s2⟩ | ⟨x', P', A', sg', vl', tok', val', q1, q2, q3, q4, T', s1', s2⟩
    · refine Or.inr ⟨nI x, sg, P, A, vl, _, _, _, _, _, by omega, s1', ?_, s2.trans (by rw [f_X6_readsWay_L171, if_pos rfl]), fun j hj => upd_n hj⟩
      rcases h3 with rfl | h3
      · exact Or.inl rfl
      · rcases lx_tk3 hT with e | e
        · exact absurd e.1 h3
        · exact Or.inr e.2
    · exact Or.inr ⟨0, sg, P, A, vl, _, _, _, _, _, by omega, s1', Or.inl rfl, s2.trans (by rw [f_X6_readsWay_L171, if_pos rfl]), fun j hj => upd_n hj⟩
    · have := lx_pc4 x' q1
      omega
  | succ d ih =>
    intro x P A sg vl tok val wy nf nf' hd hxx hnf hnf' hT h3 hw
    obtain ⟨nf, rfl⟩ : ∃ q, nf = q + 1 := ⟨nf - 1, by omega⟩
    obtain ⟨nf', rfl⟩ : ∃ q, nf' = q + 2 := ⟨nf' - 2, by omega⟩
    have hP := hT.1
    have hA := hT.2.1
    rcases lx_sStep (F := F) (m := m) (lt := lt) (tk := tk) (ds := ds) (dw := dw) (lk := lk) (st := st) K hF hb hn hx hy hz hT hxx hw nf (nf' + 1) with ⟨⟨s0, s1'⟩, s2⟩ | ⟨s1', s2⟩ | ⟨x', P', A', sg', vl', tok', val', q1, q2, q3, q4, T', s1', s2⟩
    · refine Or.inr ⟨nI x, sg, P, A, vl, _, _, _, _, _, by omega, s1', ?_, s2.trans (by rw [f_X6_readsWay_L171, if_pos rfl]), fun j hj => upd_n hj⟩
      rcases h3 with rfl | h3
      · exact Or.inl rfl
      · rcases lx_tk3 hT with e | e
        · exact absurd e.1 h3
        · exact Or.inr e.2
    · exact Or.inr ⟨0, sg, P, A, vl, _, _, _, _, _, by omega, s1', Or.inl rfl, s2.trans (by rw [f_X6_readsWay_L171, if_pos rfl]), fun j hj => upd_n hj⟩
    · by_cases h3' : tok' = 3
      · rw [if_pos h3'] at s2
        refine Or.inl ⟨x', P', A', sg', vl', tok', val', _, ⟨by omega, by omega⟩, by omega, T', s1'.trans ?_, s2.trans (by rw [f_X6_readsWay_L171, if_pos rfl]), upd_s, fun j hj => upd_n hj⟩
        obtain ⟨nf, rfl⟩ : ∃ q, nf = q + 1 := ⟨nf - 1, by omega⟩
        have hpc := lx_pc4 x' q1
        rw [f_X3_readSorts_L4, if_neg (show ¬ (4 : Int32) < nI (lx_pc x') from nI_nlt (a := 4) hpc (by omega))]
        rcases lx_sort (F := F) (m := m) (lt := lt) (tk := tk) hF hb hn T' with ⟨o, o1, o2, _, _⟩ | ⟨_, o2⟩
        · rw [h3'] at o2
          exact absurd o2 (by decide)
        · rw [o2, obd_s, if_neg (by decide)]
      · rw [if_neg h3'] at s2
        rw [s1', s2]
        rcases ih x' P' A' sg' vl' tok' val' (upd wy (z + 3) (nI x')) nf (nf' + 1) (by omega) q1 (by omega) (by omega) T' (Or.inr h3') upd_s with ⟨x2, P2, A2, sg2, vl2, tok2, val2, wy2, r1, r2, r3, r4, r5, r6, r7⟩ | ⟨r, sg2, Q, A2, vl2, nx, tok2, plc, val2, wy2, r1, r2, r3, r4, r5⟩
        · exact Or.inl ⟨x2, P2, A2, sg2, vl2, tok2, val2, wy2, r1, by omega, r3, r4, r5, r6, fun j hj => (r7 j hj).trans (upd_n hj)⟩
        · exact Or.inr ⟨r, sg2, Q, A2, vl2, nx, tok2, plc, val2, wy2, r1, r2, r3, r4, fun j hj => (r5 j hj).trans (upd_n hj)⟩
/-! a way, cut -/
def lx_wr (s : SO) (i x : Int32) : SO := uO_way s (upd (O_way s) (Int32.toNatClampNeg i) x)
theorem lx_wrE {i : Nat} (h : i < 2 ^ 31) (u : SO) (nx tok plc val flt : Int32) (lk st wy : Nat → Int32) (ds dw x : Int32) : lx_wr (mO u nx tok plc val flt lk st wy ds dw) (nI i) x = mO u nx tok plc val flt lk st (upd wy i x) ds dw := by
  unfold lx_wr
  rw [cl h]
  rfl
def lx_k46 (s43 : SO) : Option SO := some (uO_draftWays s43 (O_draftWays s43 + (1 : Int32)))
def lx_wN (F : Nat) (z1 : Int32) (s21 : SO) : Option SO := obd (f_X6_number F s21 (1 : Int32) (99 : Int32)) (fun v34 => ochi (z1 + (1 : Int32)) 48 (some (lx_wr v34.2 (z1 + (1 : Int32)) v34.1)))
def lx_wI (F : Nat) (z1 : Int32) (v32 : SO) : Option SO := obd (f_X6_isWord F v32 (7 : Int32)) (fun v49 => obd (f_X6_takes F v32 v49) (fun v51 => obd (f_X6_number F v51.2 (1 : Int32) (5 : Int32)) (fun v53 => ochi (z1 + (2 : Int32)) 48 (olt (lx_wr v53.2 (z1 + (2 : Int32)) v53.1) (fun s56 => obd (f_X6_isWord F s56 (8 : Int32)) (fun v57 => (if v57 = 0 then lx_k46 s56 else obd (f_X6_advances F s56) (fun v60 => ochi (z1 + (3 : Int32)) 48 (f_X6_readsWay_L171 F z1 lx_k46 F (1 : Int32) (lx_wr v60 (z1 + (3 : Int32)) (0 : Int32)))))))))))
def lx_wT (F : Nat) (z1 w : Int32) (s21 : SO) : Option SO := obd (f_X6_isWell F s21) (fun v22 => obd ((if v22 = 0 then some s21 else (if w = (4 : Int32) then lx_wN F z1 s21 else (if w = (5 : Int32) then lx_wN F z1 s21 else some s21)))) (fun v32 => obd (f_X6_isWell F v32) (fun v41 => (if v41 = 0 then lx_k46 v32 else (if w = (5 : Int32) then lx_wI F z1 v32 else lx_k46 v32)))))
def lx_wW (F : Nat) (z1 : Int32) (v11 : Int32 × SO) : Option SO := ochi z1 48 (ochi (z1 + (1 : Int32)) 48 (ochi (z1 + (2 : Int32)) 48 (ochi (z1 + (3 : Int32)) 48 (lx_wT F z1 v11.1 (lx_wr (lx_wr (lx_wr (lx_wr v11.2 z1 (v11.1 - (3 : Int32))) (z1 + (1 : Int32)) (0 : Int32)) (z1 + (2 : Int32)) (1 : Int32)) (z1 + (3 : Int32)) (15 : Int32))))))
theorem lx_rW (F : Nat) (s : SO) : f_X6_readsWay F s = obd ((if (O_token s) = (1 : Int32) then obd (f_X6_in F (O_value s) (3 : Int32) (6 : Int32)) (fun v8 => (if v8 = 0 then some (0 : Int32) else some (1 : Int32))) else some (0 : Int32))) (fun v6 => obd (f_X6_takes F s v6) (fun v11 => lx_wW F ((24 : Int32) + ((4 : Int32) * (O_draftWays s))) v11)) := rfl
theorem lx_iwM {F : Nat} {u : SO} {nx tok plc val ds dw : Int32} {lk st wy : Nat → Int32} (x : Int32) : f_X6_isWord F (mO u nx tok plc val (-1) lk st wy ds dw) x = some (if tok = 1 ∧ val = x then 1 else 0) := by
  unfold f_X6_isWord
  rw [lx_well, obd_s, if_neg one0]
  simp only [yO_thrown, yO_trace, yO_s, yO_kept, yO_isKept, yO_latest, yO_text, yO_typed, yO_next, yO_token, yO_place, yO_value, yO_fault, yO_luck, yO_stall, yO_way, yO_stalls, yO_ways, yO_draftStalls, yO_draftWays, yO_beliefs, yO_bars, yO_triangle, yO_costs, yO_dones, yO_row, yO_up, yO_down, yO_soldSteps, vO_next, vO_token, vO_place, vO_value, vO_fault, vO_luck, vO_stall, vO_way, vO_draftStalls, vO_draftWays]
  by_cases h1 : tok = 1 <;> by_cases h2 : val = x <;> simp [h1, h2]
theorem lx_iwF {F Q : Nat} (hQ : Q ≤ 400) {u : SO} {nx tok plc val ds dw : Int32} {lk st wy : Nat → Int32} (x : Int32) : f_X6_isWord F (mO u nx tok plc val (nI Q) lk st wy ds dw) x = some 0 := by
  unfold f_X6_isWord
  rw [lx_ill hQ, obd_s, if_pos rfl]
def lx_w4y (wy : Nat → Int32) (z : Nat) (w : Int32) : Nat → Int32 := upd (upd (upd (upd wy z (w - 3)) (z + 1) 0) (z + 2) 1) (z + 3) 15
theorem lx_wWE {F z : Nat} (hz : z + 3 < 48) (w : Int32) {u : SO} {nx tok plc val flt ds dw : Int32} {lk st wy : Nat → Int32} : lx_wW F (nI z) (w, mO u nx tok plc val flt lk st wy ds dw) = lx_wT F (nI z) w (mO u nx tok plc val flt lk st (lx_w4y wy z w) ds dw) := by
  unfold lx_wW
  simp only [s1, lx_s2, lx_s3]
  rw [ochi_n (show z < 48 by omega) (by omega), ochi_n (show z + 1 < 48 by omega) (by omega), ochi_n (show z + 2 < 48 by omega) (by omega), ochi_n (show z + 3 < 48 by omega) (by omega), lx_wrE (by omega), lx_wrE (by omega), lx_wrE (by omega), lx_wrE (by omega)]
  rfl
theorem lx_F4 {u : SO} {lk st wy : Nat → Int32} (h : lx_Fr u lk st wy) {z : Nat} (hz : 24 ≤ z) (w : Int32) : lx_Fr u lk st (lx_w4y wy z w) := lx_Fw (lx_Fw (lx_Fw (lx_Fw h hz _) (by omega) _) (by omega) _) (by omega) _
theorem lx_y0 {wy : Nat → Int32} {z : Nat} {w : Int32} : lx_w4y wy z w z = w - 3 := (upd_n (by omega)).trans ((upd_n (by omega)).trans ((upd_n (by omega)).trans upd_s))
theorem lx_y1 {wy : Nat → Int32} {z : Nat} {w : Int32} : lx_w4y wy z w (z + 1) = 0 := (upd_n (by omega)).trans ((upd_n (by omega)).trans upd_s)
theorem lx_y2 {wy : Nat → Int32} {z : Nat} {w : Int32} : lx_w4y wy z w (z + 2) = 1 := (upd_n (by omega)).trans upd_s
theorem lx_y3 {wy : Nat → Int32} {z : Nat} {w : Int32} : lx_w4y wy z w (z + 3) = 15 := upd_s
theorem lx_yb {wy : Nat → Int32} {z j : Nat} {w : Int32} (h : j < z) : lx_w4y wy z w j = wy j := (upd_n (by omega)).trans ((upd_n (by omega)).trans ((upd_n (by omega)).trans (upd_n (by omega))))
theorem lx_k46E {nw : Nat} {u : SO} {nx tok plc val flt ds : Int32} {lk st wy : Nat → Int32} : lx_k46 (mO u nx tok plc val flt lk st wy ds (nI nw)) = some (mO u nx tok plc val flt lk st wy ds (nI (nw + 1))) := by
  show some (mO u nx tok plc val flt lk st wy ds (nI nw + 1)) = _
  rw [s1]
theorem lx_wT36 {F z nw : Nat} (w : Int32) (h4 : w ≠ 4) (h5 : w ≠ 5) {u : SO} {nx tok plc val ds : Int32} {lk st wy : Nat → Int32} : lx_wT F (nI z) w (mO u nx tok plc val (-1) lk st wy ds (nI nw)) = some (mO u nx tok plc val (-1) lk st wy ds (nI (nw + 1))) := by
  unfold lx_wT
  rw [lx_well, obd_s, if_neg one0, if_neg h4, if_neg h5, obd_s, lx_well, obd_s, if_neg one0, if_neg h5, lx_k46E]
theorem lx_wTF {F z nw Q : Nat} (hQ : Q ≤ 400) (w : Int32) {u : SO} {nx tok plc val ds : Int32} {lk st wy : Nat → Int32} : lx_wT F (nI z) w (mO u nx tok plc val (nI Q) lk st wy ds (nI nw)) = some (mO u nx tok plc val (nI Q) lk st wy ds (nI (nw + 1))) := by
  unfold lx_wT
  rw [lx_ill hQ, obd_s, if_pos rfl, obd_s, lx_ill hQ, obd_s, if_pos rfl, lx_k46E]
/-! the class's choice behind the word way -/
def lx_wC (F : Nat) (s : SR) : Option (Int32 × SR) := obd (f_X3_takeWord F s q_thumb) (fun v39 => (if v39.1 = 0 then obd (f_X3_readOtherWay F v39.2) (fun v42 => some (v42.1, v42.2)) else obd (f_X3_readThumb F v39.2) (fun v44 => some (v44.1, v44.2))))
def lx_mW (m : SM) (nw : Nat) (x y z v : Int32) : SM := uM_ways (uM_sorts (uM_oneIn (uM_grains (uM_shape m (upd (M_shape m) nw x)) (upd (M_grains m) nw y)) (upd (M_oneIn m) nw z)) (upd (M_sorts m) nw v)) (nI (nw + 1))
/-- behind 'thumb' -/
theorem lx_thumb {F n P A nw z : Nat} {tx : Nat → Int32} {b : Nat → Nat} {m : SM} {lt sg vl tk : Int32} {u : SO} {tok val ds : Int32} {lk st wy : Nat → Int32} (hF : 2000 ≤ F) (hb : ∀ j, tx j = nI (b j) ∧ b j ≤ 255) (hn : n ≤ 400) (hx : O_text u = tx) (hy : O_typed u = nI n) (hT : lx_TK b n P A sg vl tok val) (hR : lx_Fr u lk st wy) (hm : M_ways m = nI nw) (hw : nw < 6) (hz : z = 24 + 4 * nw) (y3 : wy (z + 3) = 15) : (∃ (gr oi so P' A' : Nat) (sg' vl' tok' val' tk' : Int32) (wy' : Nat → Int32), (gr ≤ 99 ∧ 1 ≤ oi ∧ oi ≤ 5 ∧ so ≤ 15) ∧ P < P' ∧ lx_TK b n P' A' sg' vl' tok' val' ∧ f_X3_readThumb F (sR tx m n lt sg P A vl tk) = some (1, sR tx (lx_mW m nw 2 (nI gr) (nI oi) (nI so)) n lt sg' P' A' vl' tk') ∧ lx_wT F (nI z) 5 (mO u (nI A) tok (nI P) val (-1) lk st wy ds (nI nw)) = some (mO u (nI A') tok' (nI P') val' (-1) lk st wy' ds (nI (nw + 1))) ∧ (wy' z = wy z ∧ wy' (z + 1) = nI gr ∧ wy' (z + 2) = nI oi ∧ wy' (z + 3) = nI so) ∧ ∀ j, j < z → wy' j = wy j) ∨ (∃ (r : Int32) (s : SR) (o : SO) (Q : Nat), f_X3_readThumb F (sR tx m n lt sg P A vl tk) = some (r, s) ∧ (r = 0 ∨ R_sign s ≠ 3) ∧ lx_wT F (nI z) 5 (mO u (nI A) tok (nI P) val (-1) lk st wy ds (nI nw)) = some o ∧ lx_Bad tx u Q s o) := by
  have hz3 : z + 3 < 48 := by omega
  unfold f_X3_readThumb lx_wT
  rw [lx_well, obd_s, if_neg one0, if_neg (show ¬ (5 : Int32) = 4 by decide), if_pos rfl]
  unfold lx_wN
  have h0 := hT.1
  have h0' := hT.2.1
  rcases lx_num (F := F) (m := m) (lt := lt) (tk := tk) (ds := ds) (dw := nI nw) (lk := lk) (st := st) (wy := wy) 1 99 1 99 rfl rfl (by omega) (by omega) hF hb hn hx hy hT with ⟨gr, P1, A1, sg1, vl1, tok1, val1, a1, a2, a3, T1, n1, n2⟩ | ⟨n1, n2⟩
  rotate_left
  · rw [n1, n2]
    simp only [obd_s]
    rw [s1, ochi_n (show z + 1 < 48 by omega) (by omega), lx_wrE (by omega), obd_s, lx_ill (show P ≤ 400 by omega), obd_s, if_pos rfl, lx_k46E]
    exact Or.inr ⟨0, _, _, P, rfl, Or.inl rfl, rfl, by omega, rfl, rfl, _, _, _, _, _, _, _, _, _, rfl, lx_Fw hR (by omega) _⟩
  rw [n1, n2]
  simp only [obd_s, if_neg one0]
  rw [s1, ochi_n (show z + 1 < 48 by omega) (by omega), lx_wrE (by omega), obd_s, lx_well, obd_s, if_neg one0, if_pos trivial]
  unfold lx_wI
  have hR1 : lx_Fr u lk st (upd wy (z + 1) (nI gr)) := lx_Fw hR (by omega) _
  have h1 := T1.1
  have h1' := T1.2.1
  rw [lx_iwM, obd_s, lx_s2]
  by_cases c7 : tok1 = 1 ∧ val1 = 7
  rotate_left
  · have tw : f_X3_takeWord F (sR tx m n lt sg1 P1 A1 vl1 (nI gr)) q_in = _ := lx_twN hF hb hn T1 (q := 7) (by omega) c7
    rw [if_neg c7, lx_taN, tw]
    simp only [obd_s, olt_s, ochi_n (show z + 2 < 48 by omega) (show 48 < 2 ^ 31 by omega), lx_nuF (show P1 ≤ 400 by omega), lx_wrE (show z + 2 < 2 ^ 31 by omega), lx_iwF (show P1 ≤ 400 by omega), ↓reduceIte, lx_k46E]
    exact Or.inr ⟨0, _, _, P1, rfl, Or.inl rfl, rfl, by omega, rfl, rfl, _, _, _, _, _, _, _, _, _, rfl, lx_Fw hR1 (by omega) _⟩
  obtain ⟨P2, A2, sg2, vl2, tok2, val2, g1, T2, g3, g4⟩ := lx_step (F := F) (m := m) (lt := lt) (sg := sg1) (vl := vl1) (tk := nI gr) (P := P1) (A := A1) (tok := tok1) (plc := nI P1) (val := val1) (flt := -1) (ds := ds) (dw := nI nw) (lk := lk) (st := st) (wy := upd wy (z + 1) (nI gr)) hF hb hn hx hy h1'
  have tw : f_X3_takeWord F (sR tx m n lt sg1 P1 A1 vl1 (nI gr)) q_in = _ := lx_twY hF hb hn T1 (q := 7) (by omega) c7
  rw [if_pos c7, lx_taY, g4, tw, g3]
  simp only [obd_s, if_neg one0]
  have h2 := T2.1
  have h2' := T2.2.1
  rcases lx_num (F := F) (m := m) (lt := lt) (tk := nI gr) (ds := ds) (dw := nI nw) (lk := lk) (st := st) (wy := upd wy (z + 1) (nI gr)) 1 5 1 5 rfl rfl (by omega) (by omega) hF hb hn hx hy T2 with ⟨oi, P3, A3, sg3, vl3, tok3, val3, b1, b2, b3, T3, n3, n4⟩ | ⟨n3, n4⟩
  rotate_left
  · rw [n3, n4]
    simp only [obd_s, olt_s, ochi_n (show z + 2 < 48 by omega) (show 48 < 2 ^ 31 by omega), lx_wrE (show z + 2 < 2 ^ 31 by omega), lx_iwF (show P2 ≤ 400 by omega), ↓reduceIte, lx_k46E]
    exact Or.inr ⟨0, _, _, P2, rfl, Or.inl rfl, rfl, by omega, rfl, rfl, _, _, _, _, _, _, _, _, _, rfl, lx_Fw hR1 (by omega) _⟩
  rw [n3, n4]
  simp only [obd_s, olt_s, ochi_n (show z + 2 < 48 by omega) (show 48 < 2 ^ 31 by omega), lx_wrE (show z + 2 < 2 ^ 31 by omega), if_neg one0]
  have hR2 : lx_Fr u lk st (upd (upd wy (z + 1) (nI gr)) (z + 2) (nI oi)) := lx_Fw hR1 (by omega) _
  have h3 := T3.1
  have h3' := T3.2.1
  rw [lx_iwM, obd_s]
  by_cases c8 : tok3 = 1 ∧ val3 = 8
  rotate_left
  · have tw : f_X3_takeWord F (sR tx m n lt sg3 P3 A3 vl3 (nI oi)) q_to = _ := lx_twN hF hb hn T3 (q := 8) (by omega) c8
    rw [if_neg c8, if_pos rfl, tw, lx_k46E]
    simp only [obd_s, olt_s, yR_text, yR_into, yR_length, yR_luckTold, yR_sign, yR_place, yR_after, yR_value, yR_taken, vR_into, vR_luckTold, vR_sign, vR_value, vR_taken, vR_place, vR_after, ↓reduceIte, if_neg (show ¬ (15 : Int32) = 0 by decide), lx_addW hm hw]
    refine Or.inl ⟨gr, oi, 15, P3, A3, sg3, vl3, tok3, val3, nI oi, _, ⟨a2, b1, b2, by omega⟩, by omega, T3, rfl, rfl, ⟨?_, ?_, ?_, ?_⟩, fun j hj => ?_⟩
    · exact (upd_n (by omega)).trans (upd_n (by omega))
    · exact (upd_n (by omega)).trans upd_s
    · exact upd_s
    · exact ((upd_n (by omega)).trans (upd_n (by omega))).trans y3
    · exact (upd_n (by omega)).trans (upd_n (by omega))
  obtain ⟨P4, A4, sg4, vl4, tok4, val4, k1, T4, k3, k4⟩ := lx_step (F := F) (m := m) (lt := lt) (sg := sg3) (vl := vl3) (tk := nI oi) (P := P3) (A := A3) (tok := tok3) (plc := nI P3) (val := val3) (flt := -1) (ds := ds) (dw := nI nw) (lk := lk) (st := st) (wy := upd (upd wy (z + 1) (nI gr)) (z + 2) (nI oi)) hF hb hn hx hy h3'
  have tw2 : f_X3_takeWord F (sR tx m n lt sg3 P3 A3 vl3 (nI oi)) q_to = _ := lx_twY hF hb hn T3 (q := 8) (by omega) c8
  rw [if_pos c8, if_neg one0, k4, tw2, k3]
  simp only [obd_s, lx_s3, ochi_n (show z + 3 < 48 by omega) (show 48 < 2 ^ 31 by omega), lx_wrE (show z + 3 < 2 ^ 31 by omega), if_neg one0]
  unfold f_X3_readSorts
  have h4 := T4.1
  have h4' := T4.2.1
  rcases lx_sorts (F := F) (m := m) (lt := lt) (tk := nI oi) (ds := ds) (dw := nI nw) (lk := lk) (st := st) lx_k46 hF hb hn hx hy hz3 4 0 P4 A4 sg4 vl4 tok4 val4 (upd (upd (upd wy (z + 1) (nI gr)) (z + 2) (nI oi)) (z + 3) 0) F F rfl (by omega) (by omega) (by omega) T4 (Or.inl rfl) upd_s with ⟨x2, P5, A5, sg5, vl5, tok5, val5, wy5, r1, r2, r3, r4, r5, r6, r7⟩ | ⟨r, sg5, Q, A5, vl5, nx, tok5, plc, val5, wy5, r1, r2, r3, r4, r5⟩
  · have r4' : f_X3_readSorts_L4 F F (0 : Int32) (0 : Int32) (sR tx m n lt sg4 P4 A4 vl4 (nI oi)) = _ := r4
    rw [r4', r5, lx_k46E]
    simp only [obd_s, olt_s, yR_text, yR_into, yR_length, yR_luckTold, yR_sign, yR_place, yR_after, yR_value, yR_taken, vR_into, vR_luckTold, vR_sign, vR_value, vR_taken, vR_place, vR_after, if_neg (nI_ne0 (show 0 < x2 by omega) (show x2 < 2 ^ 31 by omega)), lx_addW hm hw]
    refine Or.inl ⟨gr, oi, x2, P5, A5, sg5, vl5, tok5, val5, nI oi, wy5, ⟨a2, b1, b2, r1.2⟩, by omega, r3, rfl, rfl, ⟨?_, ?_, ?_, r6⟩, fun j hj => ?_⟩
    · exact (r7 z (by omega)).trans ((upd_n (by omega)).trans ((upd_n (by omega)).trans (upd_n (by omega))))
    · exact (r7 (z + 1) (by omega)).trans ((upd_n (by omega)).trans ((upd_n (by omega)).trans upd_s))
    · exact (r7 (z + 2) (by omega)).trans ((upd_n (by omega)).trans upd_s)
    · exact (r7 j (by omega)).trans ((upd_n (by omega)).trans ((upd_n (by omega)).trans (upd_n (by omega))))
  · have r2' : f_X3_readSorts_L4 F F (0 : Int32) (0 : Int32) (sR tx m n lt sg4 P4 A4 vl4 (nI oi)) = _ := r2
    have hF5 : lx_Fr u lk st wy5 := ⟨hR.1, hR.2.1, fun j hj => (r5 j (by omega)).trans ((upd_n (by omega)).trans ((upd_n (by omega)).trans ((upd_n (by omega)).trans (hR.2.2 j hj))))⟩
    rw [r2', r4, lx_k46E]
    simp only [obd_s, olt_s, yR_text, yR_into, yR_length, yR_luckTold, yR_sign, yR_place, yR_after, yR_value, yR_taken, vR_into, vR_luckTold, vR_sign, vR_value, vR_taken, vR_place, vR_after, lx_addW hm hw]
    by_cases c : r = 0
    · rw [if_pos c]
      exact Or.inr ⟨0, _, _, Q, rfl, Or.inl rfl, rfl, r1, rfl, rfl, _, _, _, _, _, _, _, _, _, rfl, hF5⟩
    · rw [if_neg c]
      exact Or.inr ⟨1, _, _, Q, rfl, Or.inr (r3.resolve_left c), rfl, r1, rfl, rfl, _, _, _, _, _, _, _, _, _, rfl, hF5⟩
theorem lx_way {F n P A nw z : Nat} {tx : Nat → Int32} {b : Nat → Nat} {m : SM} {lt sg vl tk : Int32} {u : SO} {tok val ds : Int32} {lk st wy : Nat → Int32} (hF : 2000 ≤ F) (hb : ∀ j, tx j = nI (b j) ∧ b j ≤ 255) (hn : n ≤ 400) (hx : O_text u = tx) (hy : O_typed u = nI n) (hT : lx_TK b n P A sg vl tok val) (hR : lx_Fr u lk st wy) (hm : M_ways m = nI nw) (hw : nw < 6) (hz : z = 24 + 4 * nw) : (∃ (sh gr oi so P' A' : Nat) (sg' vl' tok' val' tk' : Int32) (wy' : Nat → Int32), (sh ≤ 3 ∧ gr ≤ 99 ∧ 1 ≤ oi ∧ oi ≤ 5 ∧ so ≤ 15) ∧ P < P' ∧ lx_TK b n P' A' sg' vl' tok' val' ∧ lx_wC F (sR tx m n lt sg P A vl tk) = some (1, sR tx (lx_mW m nw (nI sh) (nI gr) (nI oi) (nI so)) n lt sg' P' A' vl' tk') ∧ f_X6_readsWay F (mO u (nI A) tok (nI P) val (-1) lk st wy ds (nI nw)) = some (mO u (nI A') tok' (nI P') val' (-1) lk st wy' ds (nI (nw + 1))) ∧ (wy' z = nI sh ∧ wy' (z + 1) = nI gr ∧ wy' (z + 2) = nI oi ∧ wy' (z + 3) = nI so) ∧ ∀ j, j < z → wy' j = wy j) ∨ (∃ (r : Int32) (s : SR) (o : SO) (Q : Nat), lx_wC F (sR tx m n lt sg P A vl tk) = some (r, s) ∧ (r = 0 ∨ R_sign s ≠ 3) ∧ f_X6_readsWay F (mO u (nI A) tok (nI P) val (-1) lk st wy ds (nI nw)) = some o ∧ lx_Bad tx u Q s o) := by
  have hz3 : z + 3 < 48 := by omega
  have ez : (24 : Int32) + (4 : Int32) * nI nw = nI z := by rw [hz, show (4 : Int32) = nI 4 from rfl, pk_mul, show (24 : Int32) = nI 24 from rfl, nI_add]
  have h0 := hT.1
  have h0' := hT.2.1
  obtain ⟨P1, A1, sg1, vl1, tok1, val1, g1, T1, g3, g4⟩ := lx_step (F := F) (m := m) (lt := lt) (sg := sg) (vl := vl) (tk := tk) (P := P) (A := A) (tok := tok) (plc := nI P) (val := val) (flt := -1) (ds := ds) (dw := nI nw) (lk := lk) (st := st) (wy := wy) hF hb hn hx hy h0'
  have h1 := T1.1
  have h1' := T1.2.1
  have hrw : f_X6_readsWay F (mO u (nI A) tok (nI P) val (-1) lk st wy ds (nI nw)) = obd ((if tok = (1 : Int32) then obd (f_X6_in F val (3 : Int32) (6 : Int32)) (fun v8 => (if v8 = 0 then some (0 : Int32) else some (1 : Int32))) else some (0 : Int32))) (fun v6 => obd (f_X6_takes F (mO u (nI A) tok (nI P) val (-1) lk st wy ds (nI nw)) v6) (fun v11 => lx_wW F (nI z) v11)) := by
    rw [lx_rW]
    simp only [yO_thrown, yO_trace, yO_s, yO_kept, yO_isKept, yO_latest, yO_text, yO_typed, yO_next, yO_token, yO_place, yO_value, yO_fault, yO_luck, yO_stall, yO_way, yO_stalls, yO_ways, yO_draftStalls, yO_draftWays, yO_beliefs, yO_bars, yO_triangle, yO_costs, yO_dones, yO_row, yO_up, yO_down, yO_soldSteps, vO_next, vO_token, vO_place, vO_value, vO_fault, vO_luck, vO_stall, vO_way, vO_draftStalls, vO_draftWays]
    rw [ez]
  have good : ∀ k, 3 ≤ k → k ≤ 6 → tok = 1 → val = nI k → f_X6_readsWay F (mO u (nI A) tok (nI P) val (-1) lk st wy ds (nI nw)) = lx_wT F (nI z) (nI k) (mO u (nI A1) tok1 (nI P1) val1 (-1) lk st (lx_w4y wy z (nI k)) ds (nI nw)) := by
    intro k k1 k2 e1 e2
    rw [hrw, if_pos e1, e2, lx_in (c := k) (lo := 3) (hi := 6) 3 6 rfl rfl (by omega) (by omega) (by omega), if_pos ⟨k1, k2⟩, obd_s, if_neg one0, obd_s, lx_taY, ← e2, g4, obd_s, obd_s, lx_wWE hz3]
  have hP1 : tok = 1 → P < P1 := fun e => by have := (lx_tk1 hT e).1; omega
  have R4 : ∀ w, lx_Fr u lk st (lx_w4y wy z w) := fun w => lx_F4 hR (by omega) w
  by_cases c5 : tok = 1 ∧ val = nI 5
  · have hp := hP1 c5.1
    have eC : lx_wC F (sR tx m n lt sg P A vl tk) = obd (f_X3_readThumb F (sR tx m n lt sg1 P1 A1 vl1 tk)) (fun v44 => some (v44.1, v44.2)) := by
      have tw : f_X3_takeWord F (sR tx m n lt sg P A vl tk) q_thumb = _ := lx_twY hF hb hn hT (q := 3) (by omega) c5
      unfold lx_wC
      rw [tw, g3, obd_s, obd_s, if_neg one0]
    rcases lx_thumb (F := F) (m := m) (lt := lt) (tk := tk) (ds := ds) hF hb hn hx hy T1 (R4 (nI 5)) hm hw hz lx_y3 with ⟨gr, oi, so, P', A', sg', vl', tok', val', tk', wy', q1, q2, q3, q4, q5, q6, q7⟩ | ⟨r, s, o, Q, q1, q2, q3, q4⟩
    · exact Or.inl ⟨2, gr, oi, so, P', A', sg', vl', tok', val', tk', wy', ⟨by omega, q1⟩, by omega, q3, by rw [eC, q4, obd_s]; rfl, (good 5 (by omega) (by omega) c5.1 c5.2).trans q5, ⟨q6.1.trans lx_y0, q6.2⟩, fun j hj => (q7 j hj).trans (lx_yb hj)⟩
    · exact Or.inr ⟨r, s, o, Q, by rw [eC, q1, obd_s], q2, (good 5 (by omega) (by omega) c5.1 c5.2).trans q3, q4⟩
  have tw5 : f_X3_takeWord F (sR tx m n lt sg P A vl tk) q_thumb = _ := lx_twN hF hb hn hT (q := 3) (by omega) c5
  have eO : ∀ (r : Int32) (s : SR), f_X3_readOtherWay F (sR tx m n lt sg P A vl tk) = some (r, s) → lx_wC F (sR tx m n lt sg P A vl tk) = some (r, s) := by
    intro r s e
    unfold lx_wC
    rw [tw5, obd_s, if_pos rfl, e, obd_s]
  by_cases c3 : tok = 1 ∧ val = nI 3
  · have eC : f_X3_readOtherWay F (sR tx m n lt sg P A vl tk) = some (1, sR tx (lx_mW m nw 0 0 1 15) n lt sg1 P1 A1 vl1 tk) := by
      have tw : f_X3_takeWord F (sR tx m n lt sg P A vl tk) q_honest = _ := lx_twY hF hb hn hT (q := 4) (by omega) c3
      unfold f_X3_readOtherWay
      rw [tw, g3, obd_s, obd_s, if_neg one0, yR_into, lx_addW hm hw, obd_s, olt_s, vR_into]
      rfl
    exact Or.inl ⟨0, 0, 1, 15, P1, A1, sg1, vl1, tok1, val1, tk, _, ⟨by omega, by omega, by omega, by omega, by omega⟩, hP1 c3.1, T1, eO _ _ eC, (good 3 (by omega) (by omega) c3.1 c3.2).trans (lx_wT36 (nI 3) (by decide) (by decide)), ⟨lx_y0, lx_y1, lx_y2, lx_y3⟩, fun j hj => lx_yb hj⟩
  have tw3 : f_X3_takeWord F (sR tx m n lt sg P A vl tk) q_honest = _ := lx_twN hF hb hn hT (q := 4) (by omega) c3
  by_cases c6 : tok = 1 ∧ val = nI 6
  · have eC : f_X3_readOtherWay F (sR tx m n lt sg P A vl tk) = some (1, sR tx (lx_mW m nw 3 0 1 15) n lt sg1 P1 A1 vl1 tk) := by
      have tw : f_X3_takeWord F (sR tx m n lt sg P A vl tk) q_round = _ := lx_twY hF hb hn hT (q := 5) (by omega) c6
      unfold f_X3_readOtherWay
      rw [tw3, obd_s, if_pos rfl, tw, g3, obd_s, obd_s, if_neg one0, yR_into, lx_addW hm hw, obd_s, olt_s, vR_into]
      rfl
    exact Or.inl ⟨3, 0, 1, 15, P1, A1, sg1, vl1, tok1, val1, tk, _, ⟨by omega, by omega, by omega, by omega, by omega⟩, hP1 c6.1, T1, eO _ _ eC, (good 6 (by omega) (by omega) c6.1 c6.2).trans (lx_wT36 (nI 6) (by decide) (by decide)), ⟨lx_y0, lx_y1, lx_y2, lx_y3⟩, fun j hj => lx_yb hj⟩
  have tw6 : f_X3_takeWord F (sR tx m n lt sg P A vl tk) q_round = _ := lx_twN hF hb hn hT (q := 5) (by omega) c6
  by_cases c4 : tok = 1 ∧ val = nI 4
  · have hp := hP1 c4.1
    have tw : f_X3_takeWord F (sR tx m n lt sg P A vl tk) q_scale = _ := lx_twY hF hb hn hT (q := 6) (by omega) c4
    have eW : ∀ s, lx_wN F (nI z) (mO u (nI A1) tok1 (nI P1) val1 (-1) lk st (lx_w4y wy z (nI 4)) ds (nI nw)) = some s → lx_wT F (nI z) (nI 4) (mO u (nI A1) tok1 (nI P1) val1 (-1) lk st (lx_w4y wy z (nI 4)) ds (nI nw)) = obd (f_X6_isWell F s) (fun v41 => (if v41 = 0 then lx_k46 s else lx_k46 s)) := by
      intro s e
      unfold lx_wT
      rw [lx_well, obd_s, if_neg one0, if_pos (show nI 4 = (4 : Int32) from rfl), e, obd_s]
      simp only [if_neg (show ¬ nI 4 = (5 : Int32) by decide)]
    rcases lx_num (F := F) (m := m) (lt := lt) (tk := tk) (ds := ds) (dw := nI nw) (lk := lk) (st := st) (wy := lx_w4y wy z (nI 4)) 1 99 1 99 rfl rfl (by omega) (by omega) hF hb hn hx hy T1 with ⟨gr, P2, A2, sg2, vl2, tok2, val2, a1, a2, a3, T2, n1, n2⟩ | ⟨n1, n2⟩
    · have eC : f_X3_readOtherWay F (sR tx m n lt sg P A vl tk) = some (1, sR tx (lx_mW m nw 1 (nI gr) 1 15) n lt sg2 P2 A2 vl2 (nI gr)) := by
        unfold f_X3_readOtherWay
        rw [tw3, obd_s, if_pos rfl, tw6, obd_s, if_pos rfl, tw, g3, obd_s, obd_s, if_neg one0, n1, obd_s, if_neg one0, yR_into, yR_taken, lx_addW hm hw, obd_s, olt_s, vR_into]
        rfl
      have eN : lx_wN F (nI z) (mO u (nI A1) tok1 (nI P1) val1 (-1) lk st (lx_w4y wy z (nI 4)) ds (nI nw)) = some (mO u (nI A2) tok2 (nI P2) val2 (-1) lk st (upd (lx_w4y wy z (nI 4)) (z + 1) (nI gr)) ds (nI nw)) := by
        unfold lx_wN
        rw [n2, obd_s, s1, ochi_n (show z + 1 < 48 by omega) (by omega), lx_wrE (by omega)]
      have eM := (good 4 (by omega) (by omega) c4.1 c4.2).trans (eW _ eN)
      rw [lx_well, obd_s, if_neg one0, lx_k46E] at eM
      exact Or.inl ⟨1, gr, 1, 15, P2, A2, sg2, vl2, tok2, val2, nI gr, _, ⟨by omega, a2, by omega, by omega, by omega⟩, by omega, T2, eO _ _ eC, eM, ⟨(upd_n (by omega)).trans lx_y0, upd_s, (upd_n (by omega)).trans lx_y2, (upd_n (by omega)).trans lx_y3⟩, fun j hj => (upd_n (by omega)).trans (lx_yb hj)⟩
    · have eC : f_X3_readOtherWay F (sR tx m n lt sg P A vl tk) = some (0, sR tx m n lt sg1 P1 A1 vl1 tk) := by
        unfold f_X3_readOtherWay
        rw [tw3, obd_s, if_pos rfl, tw6, obd_s, if_pos rfl, tw, g3, obd_s, obd_s, if_neg one0, n1, obd_s, if_pos rfl]
      have eN : lx_wN F (nI z) (mO u (nI A1) tok1 (nI P1) val1 (-1) lk st (lx_w4y wy z (nI 4)) ds (nI nw)) = some (mO u (nI A1) tok1 (nI P1) val1 (nI P1) lk st (upd (lx_w4y wy z (nI 4)) (z + 1) 0) ds (nI nw)) := by
        unfold lx_wN
        rw [n2, obd_s, s1, ochi_n (show z + 1 < 48 by omega) (by omega), lx_wrE (by omega)]
      have eM := (good 4 (by omega) (by omega) c4.1 c4.2).trans (eW _ eN)
      rw [lx_ill (show P1 ≤ 400 by omega), obd_s, if_pos rfl, lx_k46E] at eM
      exact Or.inr ⟨0, _, _, P1, eO _ _ eC, Or.inl rfl, eM, by omega, rfl, rfl, _, _, _, _, _, _, _, _, _, rfl, lx_Fw (R4 _) (by omega) _⟩
  have tw4 : f_X3_takeWord F (sR tx m n lt sg P A vl tk) q_scale = _ := lx_twN hF hb hn hT (q := 6) (by omega) c4
  have eC : f_X3_readOtherWay F (sR tx m n lt sg P A vl tk) = some (0, sR tx m n lt sg P A vl tk) := by
    unfold f_X3_readOtherWay
    rw [tw3, obd_s, if_pos rfl, tw6, obd_s, if_pos rfl, tw4, obd_s, if_pos rfl]
  have e0 : (if tok = (1 : Int32) then obd (f_X6_in F val (3 : Int32) (6 : Int32)) (fun v8 => (if v8 = 0 then some (0 : Int32) else some (1 : Int32))) else some (0 : Int32)) = some 0 := by
    by_cases h1 : tok = 1
    · obtain ⟨_, k, hk, e⟩ := lx_tk1 hT h1
      rw [if_pos h1, e, lx_in (c := k) (lo := 3) (hi := 6) 3 6 rfl rfl (by omega) (by omega) (by omega), if_neg, obd_s, if_pos rfl]
      intro z
      have hc : k = 3 ∨ k = 4 ∨ k = 5 ∨ k = 6 := by omega
      rcases hc with rfl | rfl | rfl | rfl
      · exact c3 ⟨h1, e⟩
      · exact c4 ⟨h1, e⟩
      · exact c5 ⟨h1, e⟩
      · exact c6 ⟨h1, e⟩
    · rw [if_neg h1]
  rw [e0, obd_s, lx_taN, obd_s, lx_wWE hz3, lx_wTF (show P ≤ 400 by omega)] at hrw
  exact Or.inr ⟨0, _, _, P, eO _ _ eC, Or.inl rfl, hrw, by omega, rfl, rfl, _, _, _, _, _, _, _, _, _, rfl, R4 _⟩
end
