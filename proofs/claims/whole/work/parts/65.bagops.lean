/-! ===== what a bag is: about, bag, trial ===== -/
theorem shortOf_m {F k ns nw : Nat} {m : SM} {b : SB} {u : SO} (hk : k < 30) (hns : ns ≤ 6) (hM : reM m u ns nw) (h : okBag m ns b (O_s u) k) : f_X6_shortOf F u (nI k) = some (B_bagShort b k) := by
  obtain ⟨i, h, o, td, fd, mn, q1, q2, q3, q4, q5, q6, q7, q8, q9⟩ := h
  unfold f_X6_shortOf
  rw [bag6 (w := 3) (w1 := 4) rfl rfl hk (by omega), bag6 (w := 4) (w1 := 5) rfl rfl hk (by omega), bag6 (w := 0) (w1 := 1) rfl rfl hk (by omega), bag6 (w := 5) (w1 := 6) rfl rfl hk (by omega)]
  simp only [obd_s]
  have e : (3 : Int32) * nI i + 1 = nI (3 * i + 1) := by rw [show (3 : Int32) = nI 3 from rfl, pk_mul, s1]
  rw [q5.2, q6, q2.2, q7, e, ochi_n (by omega) (by omega), cl (by omega), ochk_of (by decide), (hM.2.2.1 i q1.1).2.1, q8]
  rfl
theorem step_pos {m : SM} {i : Nat} (h : rg (M_step m i) 1 20) : 0 < (M_step m i).toInt ∧ (M_step m i).toInt ≤ 20 ∧ 0 < ((2 : Int32) * M_step m i).toInt ∧ ¬ (2 : Int32) * M_step m i = 0 ∧ 0 < M_step m i ∧ ¬ M_step m i = 0 := by
  obtain ⟨k, k1, k2, e⟩ := h
  rw [e, show (2 : Int32) = nI 2 from rfl, pk_mul, nI_toInt (by omega), nI_toInt (by omega)]
  exact ⟨by omega, by omega, by omega, nI_ne0 (by omega) (by omega), nI_lt (a := 0) (by omega) (by omega), nI_ne0 (by omega) (by omega)⟩
theorem stepsOf_m {F k ns nw : Nat} {m : SM} {b : SB} {u : SO} (hk : k < 30) (hO : okM m ns nw) (hM : reM m u ns nw) (h : okBag m ns b (O_s u) k) : f_X6_stepsOf F u (nI k) = some (B_bagSteps b k) := by
  have hns := hO.1.1
  have hs := shortOf_m (F := F) hk hns hM h
  obtain ⟨i, h, o, td, fd, mn, q1, q2, q3, q4, q5, q6, q7, q8, q9⟩ := h
  have hp := step_pos (hO.2.2.1 i q1.1).1
  unfold f_X6_stepsOf
  rw [bag6 (w := 0) (w1 := 1) rfl rfl hk (by omega)]
  simp only [obd_s, olt]
  have e : (3 : Int32) * nI i = nI (3 * i) := by rw [show (3 : Int32) = nI 3 from rfl, pk_mul]
  rw [q2.2, e, ochi_n (by omega) (by omega), cl (by omega), hs, (hM.2.2.1 i q1.1).1]
  simp only [obd_s]
  rw [floor_eq hp.2.2.2.1, q9]
  rfl
theorem nearest_c {F i ns nw : Nat} {m : SM} (sh : Int32) (hi : i < ns) (hO : okM m ns nw) : f_X2_nearestSteps F m (nI i) sh = some (bagSt m i sh) := by
  have hns := hO.1.1
  have hp := step_pos (hO.2.2.1 i hi).1
  unfold f_X2_nearestSteps
  rw [ochi_n (by omega) (by omega), cl (by omega), if_pos hp.2.2.2.2.1, floorDiv_eq hp.2.2.1]
  rfl
theorem sim_about (F : Nat) : ∀ (t : ST) (u : SO) (a1 a2 : Int32), Rel t u → ∃ (r : Int64) (u2 : SO), f_X5_about F t a1 a2 = some r ∧ f_X6_about F u a1 a2 = some (r, u2) ∧ Rel t u2 := by
  intro t u a1 a2 h
  have hR := h
  obtain ⟨ns, nw, nx, ⟨hM1, hM2⟩, hX, hB, ⟨nb, nt, lk, hn, ⟨h1, h2, h3, h4, h5, h6, h7, h8, h9⟩, hb, ht⟩, hI, hV, hS, hT⟩ := h
  unfold f_X5_about f_X6_about
  simp only [olt]
  rcases isBag_both (F := F) (t := t) (u := uO_thrown u 0) a1 hn.1 h1 h2 with ⟨k, w1, w2, w3, w4⟩ | ⟨w3, w4⟩
  · rw [w3, w4, w2]
    have hk : k < 30 := by omega
    have e1 := shortOf_m (F := F) (u := uO_thrown u 0) hk hM1.1.1 hM2 (hb k w1)
    have e2 := stepsOf_m (F := F) (u := uO_thrown u 0) hk hM1 hM2 (hb k w1)
    obtain ⟨i, h, o, td, fd, mn, q1, q2, q3, q4, q5, q6, q7, q8, q9⟩ := hb k w1
    simp only [obd_s]
    rw [if_neg one0, if_neg one0, e1, e2, cl (by omega)]
    simp only [ochi_n (show k < 30 by omega) (show 30 < 2 ^ 31 by omega), obd_s]
    rcases g_rg (F := F) a2 (lo := 0) (hi := 4) 0 4 rfl rfl (by omega) (by omega) with ⟨v1, v2, v3⟩ | ⟨v1, v2, v3⟩
    · rw [v3]
      simp only [obd_s]
      rw [if_neg one0]
      obtain ⟨c, k1, k2, rfl⟩ := v1
      have hc : c = 0 ∨ c = 1 ∨ c = 2 ∨ c = 3 ∨ c = 4 := by omega
      rcases hc with rfl | rfl | rfl | rfl | rfl
      · rw [bag6 (w := 0) (w1 := 1) rfl rfl hk (by omega), q2.1]
        exact ⟨_, _, rfl, by rw [show O_s (uO_thrown u 0) (1 + 6 * k) = nI i from q2.2]; rfl, Rel_thr hR⟩
      · rw [bag6 (w := 1) (w1 := 2) rfl rfl hk (by omega), q3.1]
        exact ⟨_, _, rfl, by rw [show O_s (uO_thrown u 0) (2 + 6 * k) = nI h from q3.2]; rfl, Rel_thr hR⟩
      · rw [bag6 (w := 2) (w1 := 3) rfl rfl hk (by omega), q4.1]
        exact ⟨_, _, rfl, by rw [show O_s (uO_thrown u 0) (3 + 6 * k) = nI o from q4.2]; rfl, Rel_thr hR⟩
      · exact ⟨_, _, rfl, rfl, Rel_thr hR⟩
      · exact ⟨_, _, rfl, rfl, Rel_thr hR⟩
    · rw [v3]
      have n0 : ¬ a2 = 0 := fun e => v1 ⟨0, by omega, by omega, e⟩
      have n1 : ¬ a2 = 1 := fun e => v1 ⟨1, by omega, by omega, e⟩
      have n2 : ¬ a2 = 2 := fun e => v1 ⟨2, by omega, by omega, e⟩
      have n3 : ¬ a2 = 3 := fun e => v1 ⟨3, by omega, by omega, e⟩
      have n4 : ¬ a2 = 4 := fun e => v1 ⟨4, by omega, by omega, e⟩
      rw [if_neg n0, if_neg n1, if_neg n2, if_neg n3, if_neg n4]
      exact ⟨_, _, rfl, rfl, Rel_thr hR⟩
  · rw [w3, w4]
    exact ⟨_, _, rfl, rfl, Rel_thr hR⟩
/-- a bag more -/
theorem reB_bag {m : SM} {ns nb i h o td fd mn : Nat} {b : SB} {s : Nat → Int32} {l0 l1 : Int64} {sh : Int32} (hr : reB m ns b s l0 l1) (hnb : s 0 = nI nb) (hl : nb < 30) (q : i < ns ∧ h ≤ 11 ∧ o ≤ 3 ∧ 1 ≤ td ∧ td ≤ 999 ∧ fd ≤ 999 ∧ mn ≤ 99) (hsh : sh = bagSh m i (nI td) (nI fd) (nI mn)) :
    reB m ns (uB_bags (uB_bagSteps (uB_bagShort (uB_bagTold (uB_bagSort (uB_bagHour (uB_bagStall b (upd (B_bagStall b) nb (nI i))) (upd (B_bagHour b) nb (nI h))) (upd (B_bagSort b) nb (nI o))) (upd (B_bagTold b) nb (nI td))) (upd (B_bagShort b) nb sh)) (upd (B_bagSteps b) nb (bagSt m i sh))) (nI (nb + 1)))
      (upd (upd (upd (upd (upd (upd (upd s (1 + 6 * nb) (nI i)) (2 + 6 * nb) (nI h)) (3 + 6 * nb) (nI o)) (4 + 6 * nb) (nI td)) (5 + 6 * nb) (nI fd)) (6 + 6 * nb) (nI mn)) 0 (nI (nb + 1))) l0 l1 := by
  obtain ⟨nb', nt, lk, hn, ⟨h1, h2, h3, h4, h5, h6, h7, h8, h9⟩, hb, ht⟩ := hr
  have e0 : nb' = nb := by
    rw [hnb] at h2
    exact ((nI_eq (by omega) (by omega)).mp h2).symm
  subst e0
  generalize hs' : (upd (upd (upd (upd (upd (upd (upd s (1 + 6 * nb') (nI i)) (2 + 6 * nb') (nI h)) (3 + 6 * nb') (nI o)) (4 + 6 * nb') (nI td)) (5 + 6 * nb') (nI fd)) (6 + 6 * nb') (nI mn)) 0 (nI (nb' + 1))) = s'
  have far : ∀ j, j ≠ 0 → (j < 1 + 6 * nb' ∨ 6 + 6 * nb' < j) → s' j = s j := by
    intro j j0 j1
    rw [← hs', upd_n j0, upd_n (by omega), upd_n (by omega), upd_n (by omega), upd_n (by omega), upd_n (by omega), upd_n (by omega)]
  have z0 : s' 0 = nI (nb' + 1) := by rw [← hs', upd_s]
  have z1 : s' (1 + 6 * nb') = nI i := by rw [← hs', upd_n (by omega), upd_n (by omega), upd_n (by omega), upd_n (by omega), upd_n (by omega), upd_n (by omega), upd_s]
  have z2 : s' (2 + 6 * nb') = nI h := by rw [← hs', upd_n (by omega), upd_n (by omega), upd_n (by omega), upd_n (by omega), upd_n (by omega), upd_s]
  have z3 : s' (3 + 6 * nb') = nI o := by rw [← hs', upd_n (by omega), upd_n (by omega), upd_n (by omega), upd_n (by omega), upd_s]
  have z4 : s' (4 + 6 * nb') = nI td := by rw [← hs', upd_n (by omega), upd_n (by omega), upd_n (by omega), upd_s]
  have z5 : s' (5 + 6 * nb') = nI fd := by rw [← hs', upd_n (by omega), upd_n (by omega), upd_s]
  have z6 : s' (6 + 6 * nb') = nI mn := by rw [← hs', upd_n (by omega), upd_s]
  refine ⟨nb' + 1, nt, lk, ⟨by omega, hn.2⟩, ⟨rfl, z0, h3, by rw [far 181 (by omega) (by omega)]; exact h4, h5, by rw [far 262 (by omega) (by omega)]; exact h6, h7, h8, by rw [far 263 (by omega) (by omega)]; exact h9⟩, fun k hk => ?_, fun k hk => ?_⟩
  · by_cases hkn : k = nb'
    · subst hkn
      exact ⟨i, h, o, td, fd, mn, q, ⟨upd_s, z1⟩, ⟨upd_s, z2⟩, ⟨upd_s, z3⟩, ⟨upd_s, z4⟩, z5, z6, by show upd _ _ _ _ = _; rw [upd_s, hsh], by show upd _ _ _ _ = bagSt m i (upd _ _ _ _); rw [upd_s, upd_s]⟩
    · obtain ⟨i', h', o', td', fd', mn', q1, q2, q3, q4, q5, q6, q7, q8, q9⟩ := hb k (by omega)
      refine ⟨i', h', o', td', fd', mn', q1, ⟨(upd_n hkn).trans q2.1, ?_⟩, ⟨(upd_n hkn).trans q3.1, ?_⟩, ⟨(upd_n hkn).trans q4.1, ?_⟩, ⟨(upd_n hkn).trans q5.1, ?_⟩, ?_, ?_, (upd_n hkn).trans q8, ?_⟩
      · rw [far _ (by omega) (by omega)]; exact q2.2
      · rw [far _ (by omega) (by omega)]; exact q3.2
      · rw [far _ (by omega) (by omega)]; exact q4.2
      · rw [far _ (by omega) (by omega)]; exact q5.2
      · rw [far _ (by omega) (by omega)]; exact q6
      · rw [far _ (by omega) (by omega)]; exact q7
      · show upd _ _ _ _ = bagSt m i' (upd _ _ _ _)
        rw [upd_n hkn, upd_n hkn]; exact q9
  · obtain ⟨i', d, le, rd, q1, q2, q3, q4, q5, q6⟩ := ht k hk
    refine ⟨i', d, le, rd, q1, ⟨q2.1, ?_⟩, ⟨q3.1, ?_⟩, ?_, ?_, q6⟩
    · rw [far _ (by omega) (by omega)]; exact q2.2
    · rw [far _ (by omega) (by omega)]; exact q3.2
    · rw [far _ (by omega) (by omega)]; exact q4
    · rw [far _ (by omega) (by omega)]; exact q5
theorem sim_bag (F : Nat) : ∀ (t : ST) (u : SO) (a1 a2 a3 a4 a5 a6 : Int32), Rel t u → ∃ (r : Int32) (t2 : ST) (u2 : SO), f_X5_bag F t a1 a2 a3 a4 a5 a6 = some (r, t2) ∧ f_X6_bag_ F u a1 a2 a3 a4 a5 a6 = some (r, u2) ∧ Rel t2 u2 := by
  intro t u a1 a2 a3 a4 a5 a6 hR
  have bad : ∀ r : Int32, ∃ (r' : Int32) (t2 : ST) (u2 : SO), (some (r, t) : Option (Int32 × ST)) = some (r', t2) ∧ (some (r, uO_thrown u 0) : Option (Int32 × SO)) = some (r', u2) ∧ Rel t2 u2 := fun r => ⟨r, t, _, rfl, rfl, Rel_thr hR⟩
  obtain ⟨ns, nw, nx, ⟨hM1, hM2⟩, hX, hB, hK, hI, hV, hS, hT⟩ := hR
  have hK2 := hK
  obtain ⟨nb, nt, lk, hn, ⟨h1, h2, h3, h4, h5, h6, h7, h8, h9⟩, hb, ht⟩ := hK
  unfold f_X5_bag f_X6_bag_
  simp only [olt]
  rcases isStall_both (F := F) (t := t) (u := uO_thrown u 0) a1 hM1 hM2 with ⟨i, g1, g2, g3, g4⟩ | ⟨g3, g4⟩
  swap
  · rw [g3, g4]; exact bad _
  rw [g3, g4]; simp only [obd_s]; rw [if_neg one0, if_neg one0]
  rcases g_rg (F := F) a2 (lo := 0) (hi := 11) 0 11 rfl rfl (by omega) (by omega) with ⟨v1, v2, v3⟩ | ⟨v1, v2, v3⟩
  swap
  · rw [v2, v3]; exact bad _
  rw [v2, v3]; simp only [obd_s]; rw [if_neg one0, if_neg one0]
  rcases isSort_both (F := F) a3 with ⟨o, o1, o2, o3, o4⟩ | ⟨o3, o4⟩
  swap
  · rw [o3, o4]; exact bad _
  rw [o3, o4]; simp only [obd_s]; rw [if_neg one0, if_neg one0]
  rcases g_rg (F := F) a4 (lo := 1) (hi := 999) 1 999 rfl rfl (by omega) (by omega) with ⟨x1, x2, x3⟩ | ⟨x1, x2, x3⟩
  swap
  · rw [x2, x3]; exact bad _
  rw [x2, x3]; simp only [obd_s]; rw [if_neg one0, if_neg one0]
  rcases g_rg (F := F) a5 (lo := 0) (hi := 999) 0 999 rfl rfl (by omega) (by omega) with ⟨y1, y2, y3⟩ | ⟨y1, y2, y3⟩
  swap
  · rw [y2, y3]; exact bad _
  rw [y2, y3]; simp only [obd_s]; rw [if_neg one0, if_neg one0]
  rcases g_rg (F := F) a6 (lo := 0) (hi := 99) 0 99 rfl rfl (by omega) (by omega) with ⟨z1, z2, z3⟩ | ⟨z1, z2, z3⟩
  swap
  · rw [z2, z3]; exact bad _
  rw [z2, z3]; simp only [obd_s]; rw [if_neg one0, if_neg one0]
  have e0 : O_s (uO_thrown u 0) (Int32.toNatClampNeg (0 : Int32)) = nI nb := h2
  obtain ⟨h, h10, h11, rfl⟩ := v1
  obtain ⟨td, t10, t11, rfl⟩ := x1
  obtain ⟨fd, f10, f11, rfl⟩ := y1
  obtain ⟨mn, m10, m11, rfl⟩ := z1
  subst g2
  subst o2
  have hns := hM1.1.1
  rw [h1, e0]
  simp only [ochi_of (vp_in_iff.mpr (by decide : 0 ≤ (0 : Int32).toInt ∧ (0 : Int32).toInt < ((264 : Nat) : Int)))]
  by_cases hfull : nb = 30
  · subst hfull
    rw [if_neg (show ¬ nI 30 < 30 by decide), if_pos (show nI 30 = 30 from rfl)]
    exact bad _
  · have c1 : nI nb < 30 := nI_lt (b := 30) (by omega) (by omega)
    have c2 : ¬ nI nb = 30 := fun z => hfull ((nI_eq (b := 30) (by omega) (by omega)).mp z)
    rw [if_pos c1, if_neg c2]
    have i1 : (1 : Int32) + 6 * nI nb = nI (1 + 6 * nb) := by rw [show (1 : Int32) = nI 1 from rfl, show (6 : Int32) = nI 6 from rfl, pk_mul, nI_add]
    have i2 : nI (1 + 6 * nb) + 1 = nI (2 + 6 * nb) := by rw [nI_1]; congr 1; omega
    have i3 : nI (1 + 6 * nb) + 2 = nI (3 + 6 * nb) := by rw [show (2 : Int32) = nI 2 from rfl, nI_add]; congr 1; omega
    have i4 : nI (1 + 6 * nb) + 3 = nI (4 + 6 * nb) := by rw [show (3 : Int32) = nI 3 from rfl, nI_add]; congr 1; omega
    have i5 : nI (1 + 6 * nb) + 4 = nI (5 + 6 * nb) := by rw [show (4 : Int32) = nI 4 from rfl, nI_add]; congr 1; omega
    have i6 : nI (1 + 6 * nb) + 5 = nI (6 + 6 * nb) := by rw [show (5 : Int32) = nI 5 from rfl, nI_add]; congr 1; omega
    rw [i1, i2, i3, i4, i5, i6]
    simp only [ochi_n (show 1 + 6 * nb < 264 by omega) (show 264 < 2 ^ 31 by omega), ochi_n (show 2 + 6 * nb < 264 by omega) (show 264 < 2 ^ 31 by omega), ochi_n (show 3 + 6 * nb < 264 by omega) (show 264 < 2 ^ 31 by omega), ochi_n (show 4 + 6 * nb < 264 by omega) (show 264 < 2 ^ 31 by omega), ochi_n (show 5 + 6 * nb < 264 by omega) (show 264 < 2 ^ 31 by omega), ochi_n (show 6 + 6 * nb < 264 by omega) (show 264 < 2 ^ 31 by omega), ochi_n (show nb < 30 by omega) (show 30 < 2 ^ 31 by omega), ochi_n (show i < 6 by omega) (show 6 < 2 ^ 31 by omega), cl (show 1 + 6 * nb < 2 ^ 31 by omega), cl (show 2 + 6 * nb < 2 ^ 31 by omega), cl (show 3 + 6 * nb < 2 ^ 31 by omega), cl (show 4 + 6 * nb < 2 ^ 31 by omega), cl (show 5 + 6 * nb < 2 ^ 31 by omega), cl (show 6 + 6 * nb < 2 ^ 31 by omega), cl (show nb < 2 ^ 31 by omega), cl (show i < 2 ^ 31 by omega)]
    rw [ochk_of (by decide)]
    sorry
