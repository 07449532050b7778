/-! ===== calls without loops ===== -/
theorem Rel_i {t : ST} {u : SO} (ns nw nx : Nat) (hM : okM (T_market t) ns nw ∧ reM (T_market t) u ns nw) (hX : nx ≤ 400 ∧ T_textLength t = nI nx ∧ O_typed u = nI nx ∧ R_text (T_reader t) = O_text u ∧ ∀ k, rg (O_text u k) 0 255) (hB : ∀ w, w < nw → T_beliefs t w = O_beliefs u w ∧ rg (T_beliefs t w) 0 9) (hK : reB (T_market t) ns (T_book t) (O_s u) (O_latest u 0) (O_latest u 1)) (hI : reI (T_market t) ns (T_kept t 0) (O_isKept u 0) (T_img0 t) (O_kept u) (O_latest u 2) (O_latest u 3) ∧ reI (T_market t) ns (T_kept t 1) (O_isKept u 1) (T_img1 t) (fun k => O_kept u (264 + k)) (O_latest u 4) (O_latest u 5)) (hV : okV (T_verdict t) u) (hS : T_stepsSold t = O_soldSteps u ∧ T_traced t = O_trace u) (hT : ∀ n k, n < 20 → k ≤ n → O_triangle u (20 * n + k) = bino n k) : Rel t u := by
  unfold Rel
  exact ⟨ns, nw, nx, hM, hX, hB, hK, hI, hV, hS, hT⟩
theorem Rel_bs {t : ST} {u : SO} {B : SB} {S : Nat → Int32} (ns nw nx : Nat) (hM : okM (T_market t) ns nw ∧ reM (T_market t) u ns nw) (hX : nx ≤ 400 ∧ T_textLength t = nI nx ∧ O_typed u = nI nx ∧ R_text (T_reader t) = O_text u ∧ ∀ k, rg (O_text u k) 0 255) (hB : ∀ w, w < nw → T_beliefs t w = O_beliefs u w ∧ rg (T_beliefs t w) 0 9) (hI : reI (T_market t) ns (T_kept t 0) (O_isKept u 0) (T_img0 t) (O_kept u) (O_latest u 2) (O_latest u 3) ∧ reI (T_market t) ns (T_kept t 1) (O_isKept u 1) (T_img1 t) (fun k => O_kept u (264 + k)) (O_latest u 4) (O_latest u 5)) (hV : okV (T_verdict t) u) (hS : T_stepsSold t = O_soldSteps u ∧ T_traced t = O_trace u) (hT : ∀ n k, n < 20 → k ≤ n → O_triangle u (20 * n + k) = bino n k) (hK : reB (T_market t) ns B S (O_latest u 0) (O_latest u 1)) : Rel (uT_book t B) (uO_s (uO_thrown u 0) S) := by
  unfold Rel
  exact ⟨ns, nw, nx, hM, hX, hB, hK, hI, hV, hS, hT⟩
theorem sim_clear (F : Nat) : ∀ (t : ST) (u : SO), Rel t u → ∃ (r : Int32) (t2 : ST) (u2 : SO), f_X5_clear F t = some (r, t2) ∧ f_X6_clear F u = some (r, u2) ∧ Rel t2 u2 := by
  rintro t u ⟨ns, nw, nx, hM, ⟨x1, x2, x3, x4, x5⟩, hB, hK, hI, hV, hS, hT⟩
  refine ⟨nI nx, uT_textLength t 0, uO_typed (uO_thrown u 0) 0, ?_, ?_, ?_⟩
  · show some (T_textLength t, _) = _
    rw [x2]
  · show some (O_typed u, _) = _
    rw [x3]
  · exact Rel_i ns nw 0 hM ⟨by omega, rfl, rfl, x4, x5⟩ hB hK hI hV hS hT
theorem sim_steps (F : Nat) : ∀ (t : ST) (u : SO), Rel t u → ∃ (r : Int32) (u2 : SO), f_X5_steps F t = some r ∧ f_X6_steps F u = some (r, u2) ∧ Rel t u2 := by
  intro t u h
  have hs : T_stepsSold t = O_soldSteps u := by obtain ⟨ns, nw, nx, hM, hX, hB, hK, hI, hV, hS, hT⟩ := h; exact hS.1
  exact ⟨T_stepsSold t, uO_thrown u 0, rfl, by rw [hs]; rfl, Rel_thr h⟩
theorem sim_trace (F : Nat) : ∀ (t : ST) (u : SO), Rel t u → ∃ (r : Int64) (u2 : SO), f_X5_trace F t = some r ∧ f_X6_trace F u = some (r, u2) ∧ Rel t u2 := by
  intro t u h
  have hs : T_traced t = O_trace u := by obtain ⟨ns, nw, nx, hM, hX, hB, hK, hI, hV, hS, hT⟩ := h; exact hS.2
  exact ⟨T_traced t, uO_thrown u 0, rfl, by rw [hs]; rfl, Rel_thr h⟩
theorem upd_s {f : Nat → Int32} {k : Nat} {x : Int32} : upd f k x k = x := pk_us
theorem upd_n {f : Nat → Int32} {k j : Nat} {x : Int32} (h : j ≠ k) : upd f k x j = f j := pk_un h
/-- the place 263 of the reference's row is nobody else's -/
theorem reB_lot {m : SM} {ns : Nat} {b : SB} {s : Nat → Int32} {l0 l1 : Int64} (v : Int32) (h : reB m ns b s l0 l1) : reB m ns (uB_lot b v) (upd s 263 v) l0 l1 := by
  obtain ⟨nb, nt, lk, hn, ⟨h1, h2, h3, h4, h5, h6, h7, h8, h9⟩, hb, ht⟩ := h
  have e : ∀ j, j ≠ 263 → upd s 263 v j = s j := fun j hj => upd_n hj
  refine ⟨nb, nt, lk, hn, ⟨h1, by rw [e 0 (by omega)]; exact h2, h3, by rw [e 181 (by omega)]; exact h4, h5, by rw [e 262 (by omega)]; exact h6, h7, h8, by rw [upd_s]; rfl⟩, fun k hk => ?_, fun k hk => ?_⟩
  · obtain ⟨i, h, o, td, fd, mn, q1, q2, q3, q4, q5, q6, q7, q8, q9⟩ := hb k hk
    exact ⟨i, h, o, td, fd, mn, q1, by rw [e _ (by omega)]; exact q2, by rw [e _ (by omega)]; exact q3, by rw [e _ (by omega)]; exact q4, by rw [e _ (by omega)]; exact q5, by rw [e _ (by omega)]; exact q6, by rw [e _ (by omega)]; exact q7, q8, q9⟩
  · obtain ⟨i, d, le, rd, q1, q2, q3, q4, q5, q6⟩ := ht k hk
    exact ⟨i, d, le, rd, q1, by rw [e _ (by omega)]; exact q2, by rw [e _ (by omega)]; exact q3, by rw [e _ (by omega)]; exact q4, by rw [e _ (by omega)]; exact q5, q6⟩
theorem sim_lot (F : Nat) : ∀ (t : ST) (u : SO) (a1 : Int32), Rel t u → ∃ (r : Int32) (t2 : ST) (u2 : SO), f_X5_lot F t a1 = some (r, t2) ∧ f_X6_lot F u a1 = some (r, u2) ∧ Rel t2 u2 := by
  rintro t u a1 ⟨ns, nw, nx, hM, hX, hB, hK, hI, hV, hS, hT⟩
  have h9 : B_lot (T_book t) = O_s u 263 := by obtain ⟨nb, nt, lk, hn, ⟨h1, h2, h3, h4, h5, h6, h7, h8, h9⟩, hb, ht⟩ := hK; exact h9
  refine ⟨B_lot (T_book t), uT_book t (uB_lot (T_book t) a1), uO_s (uO_thrown u 0) (upd (O_s u) 263 a1), rfl, ?_, ?_⟩
  · rw [h9]
    unfold f_X6_lot
    simp only [olt]
    rw [ochi_of (vp_in_iff.mpr (by decide)), ochi_of (vp_in_iff.mpr (by decide))]
    rfl
  · exact Rel_i ns nw nx hM hX hB (reB_lot a1 hK) hI hV hS hT
theorem sim_count (F : Nat) : ∀ (t : ST) (u : SO) (a1 : Int32), Rel t u → ∃ (r : Int32) (u2 : SO), f_X5_count F t a1 = some r ∧ f_X6_count F u a1 = some (r, u2) ∧ Rel t u2 := by
  intro t u a1 h
  have hR := h
  obtain ⟨ns, nw, nx, ⟨⟨⟨m1, m2, m3, m4⟩, hl, hms, hmw⟩, ⟨r1, r2⟩, ⟨r3, r4, r5⟩, r6, r7⟩, ⟨x1, x2, x3, x4, x5⟩, hB, ⟨nb, nt, lk, hn, ⟨h1, h2, h3, h4, h5, h6, h7, h8, h9⟩, hb, ht⟩, hI, hV, hS, hT⟩ := h
  have fin : ∀ r : Int32, f_X5_count F t a1 = some r → f_X6_count F u a1 = some (r, uO_thrown u 0) → ∃ (r : Int32) (u2 : SO), f_X5_count F t a1 = some r ∧ f_X6_count F u a1 = some (r, u2) ∧ Rel t u2 := fun r p q => ⟨r, _, p, q, Rel_thr hR⟩
  have e0 : O_s u (Int32.toNatClampNeg (0 : Int32)) = nI nb := h2
  have e1 : O_s u (Int32.toNatClampNeg (181 : Int32)) = nI nt := h4
  by_cases c0 : a1 = 0
  · subst c0; exact fin (nI ns) (by unfold f_X5_count; rw [m3]; rfl) (by unfold f_X6_count; show some (O_stalls u, _) = _; rw [r1])
  by_cases c1 : a1 = 1
  · subst c1; exact fin (nI nw) (by unfold f_X5_count; rw [m4]; rfl) (by unfold f_X6_count; show some (O_ways u, _) = _; rw [r2])
  by_cases c2 : a1 = 2
  · subst c2; exact fin (nI nb) (by unfold f_X5_count; rw [h1]; rfl) (by unfold f_X6_count; show some (O_s u 0, _) = _; rw [h2])
  by_cases c3 : a1 = 3
  · subst c3; exact fin (nI nt) (by unfold f_X5_count; rw [h3]; rfl) (by unfold f_X6_count; show some (O_s u 181, _) = _; rw [h4])
  by_cases c4 : a1 = 4
  · subst c4; exact fin (nI nx) (by unfold f_X5_count; rw [x2]; rfl) (by unfold f_X6_count; show some (O_typed u, _) = _; rw [x3])
  by_cases c5 : a1 = 5
  · subst c5; exact fin (O_luck u 0) (by unfold f_X5_count; rw [r3]; rfl) (by unfold f_X6_count; rfl)
  by_cases c6 : a1 = 6
  · subst c6; exact fin (O_luck u 1) (by unfold f_X5_count; rw [r4]; rfl) (by unfold f_X6_count; rfl)
  by_cases c7 : a1 = 7
  · subst c7; exact fin (O_luck u 2) (by unfold f_X5_count; rw [r5]; rfl) (by unfold f_X6_count; rfl)
  refine fin (-1) (by unfold f_X5_count; rw [if_neg c0, if_neg c1, if_neg c2, if_neg c3, if_neg c4, if_neg c5, if_neg c6, if_neg c7]) ?_
  have hin : f_X6_in F a1 5 7 = some 0 := by
    rw [in_eq, if_neg]
    rintro ⟨q1, q2⟩
    obtain ⟨k, k1, k2, rfl⟩ := (rg_iff (v := a1) (lo := 5) (hi := 7) (by omega) (by omega)).mp ⟨q1, q2⟩
    have : k = 5 ∨ k = 6 ∨ k = 7 := by omega
    rcases this with rfl | rfl | rfl
    · exact c5 rfl
    · exact c6 rfl
    · exact c7 rfl
  unfold f_X6_count
  simp only [olt, if_neg c0, if_neg c1, if_neg c2, if_neg c3, if_neg c4, hin, obd_s]
  rfl
theorem one0 : ¬ (1 : Int32) = 0 := by decide
theorem sim_belief (F : Nat) : ∀ (t : ST) (u : SO) (a1 a2 : Int32), Rel t u → ∃ (r : Int32) (t2 : ST) (u2 : SO), f_X5_belief F t a1 a2 = some (r, t2) ∧ f_X6_belief F u a1 a2 = some (r, u2) ∧ Rel t2 u2 := by
  intro t u a1 a2 h
  have hR := h
  obtain ⟨ns, nw, nx, ⟨hM1, hM2⟩, hX, hB, hK, hI, hV, hS, hT⟩ := h
  unfold f_X5_belief f_X6_belief
  simp only [olt]
  rcases isWay_both (F := F) (t := t) (u := uO_thrown u 0) a1 hM1 hM2 with ⟨w, w1, w2, w3, w4⟩ | ⟨w3, w4⟩
  · rw [w3, w4]
    simp only [obd_s]
    rw [if_neg one0, if_neg one0]
    rcases g_rg (F := F) a2 (lo := 0) (hi := 9) 0 9 rfl rfl (by omega) (by omega) with ⟨v1, v2, v3⟩ | ⟨v1, v2, v3⟩
    · rw [v2, v3]
      simp only [obd_s]
      have hw : nw ≤ 6 := hM1.1.2.1
      rw [if_neg one0, if_neg one0, w2, ochi_n (by omega) (by omega), ochi_n (by omega) (by omega), ochi_n (by omega) (by omega), ochi_n (by omega) (by omega), cl (by omega)]
      refine ⟨T_beliefs t w, _, uO_beliefs (uO_thrown u 0) (upd (O_beliefs u) w a2), rfl, ?_, ?_⟩
      · rw [(hB w w1).1]; rfl
      · refine Rel_i ns nw nx ⟨hM1, hM2⟩ hX (fun j hj => ?_) hK hI hV hS hT
        show upd (T_beliefs t) w a2 j = upd (O_beliefs u) w a2 j ∧ rg (upd (T_beliefs t) w a2 j) 0 9
        by_cases e : j = w
        · subst e; rw [upd_s, upd_s]; exact ⟨rfl, v1⟩
        · rw [upd_n e, upd_n e]; exact hB j hj
    · rw [v2, v3]
      exact ⟨-1, t, _, rfl, rfl, Rel_thr hR⟩
  · rw [w3, w4]
    exact ⟨-1, t, _, rfl, rfl, Rel_thr hR⟩
theorem sim_way (F : Nat) : ∀ (t : ST) (u : SO) (a1 a2 : Int32), Rel t u → ∃ (r : Int32) (u2 : SO), f_X5_way F t a1 a2 = some r ∧ f_X6_way F u a1 a2 = some (r, u2) ∧ Rel t u2 := by
  intro t u a1 a2 h
  have hR := h
  obtain ⟨ns, nw, nx, ⟨hM1, hM2⟩, hX, hB, hK, hI, hV, hS, hT⟩ := h
  unfold f_X5_way f_X6_way
  simp only [olt]
  rcases isWay_both (F := F) (t := t) (u := uO_thrown u 0) a1 hM1 hM2 with ⟨w, w1, w2, w3, w4⟩ | ⟨w3, w4⟩
  · rw [w3, w4]
    simp only [obd_s]
    have hw : nw ≤ 6 := hM1.1.2.1
    obtain ⟨y1, y2, y3, y4⟩ := hM2.2.2.2 w w1
    rw [if_neg one0, if_neg one0, w2, cl (by omega)]
    simp only [ochi_n (show w < 6 by omega) (show 6 < 2 ^ 31 by omega)]
    rcases g_rg (F := F) a2 (lo := 0) (hi := 3) 0 3 rfl rfl (by omega) (by omega) with ⟨v1, v2, v3⟩ | ⟨v1, v2, v3⟩
    · rw [v3]
      simp only [obd_s]
      rw [if_neg one0]
      obtain ⟨k, k1, k2, rfl⟩ := v1
      have e : (4 : Int32) * nI w + nI k = nI (4 * w + k) := by rw [show (4 : Int32) = nI 4 from rfl, pk_mul, nI_add]
      rw [e, ochi_n (by omega) (by omega), cl (by omega)]
      have : k = 0 ∨ k = 1 ∨ k = 2 ∨ k = 3 := by omega
      rcases this with rfl | rfl | rfl | rfl
      · exact ⟨M_shape (T_market t) w, _, rfl, by rw [← y1]; rfl, Rel_thr hR⟩
      · exact ⟨M_grains (T_market t) w, _, rfl, by rw [← y2]; rfl, Rel_thr hR⟩
      · exact ⟨M_oneIn (T_market t) w, _, rfl, by rw [← y3]; rfl, Rel_thr hR⟩
      · exact ⟨M_sorts (T_market t) w, _, rfl, by rw [← y4]; rfl, Rel_thr hR⟩
    · rw [v3]
      have n0 : ¬ a2 = 0 := fun e => v1 ⟨0, by omega, by omega, e⟩
      have n1 : ¬ a2 = 1 := fun e => v1 ⟨1, by omega, by omega, e⟩
      have n2 : ¬ a2 = 2 := fun e => v1 ⟨2, by omega, by omega, e⟩
      have n3 : ¬ a2 = 3 := fun e => v1 ⟨3, by omega, by omega, e⟩
      rw [if_neg n0, if_neg n1, if_neg n2, if_neg n3]
      exact ⟨-1, _, rfl, rfl, Rel_thr hR⟩
  · rw [w3, w4]
    exact ⟨-1, _, rfl, rfl, Rel_thr hR⟩
