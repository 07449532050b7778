/-! ===== score ===== -/
theorem l_sub {x y : Int32} (h1 : -2147483648 ≤ x.toInt - y.toInt) (h2 : x.toInt - y.toInt ≤ 2147483647) : Int32.toInt64 x - Int32.toInt64 y = Int32.toInt64 (x - y) := by
  rw [x_l, x_l, x_l, zL_sub, tS h1 h2]
theorem l_add {x y : Int32} (h1 : -2147483648 ≤ x.toInt + y.toInt) (h2 : x.toInt + y.toInt ≤ 2147483647) : Int32.toInt64 x + Int32.toInt64 y = Int32.toInt64 (x + y) := by
  rw [x_l, x_l, x_l, zL_add, tA h1 h2]
theorem l_mul2 {x : Int32} (h1 : -1000000 ≤ x.toInt) (h2 : x.toInt ≤ 1000000) : (2 : Int64) * Int32.toInt64 x = Int32.toInt64 ((2 : Int32) * x) ∧ ((2 : Int32) * x).toInt = 2 * x.toInt := by
  have e : (2 : Int32).toInt = 2 := rfl
  have e2 : ((2 : Int32) * x).toInt = 2 * x.toInt := tM (by rw [e]; omega) (by rw [e]; omega)
  refine ⟨?_, e2⟩
  rw [x_l, x_l, e2, show (2 : Int64) = zL 2 from rfl, zL_mul]
theorem l_div2 (x : Int32) : Int32.toInt64 x / (2 : Int64) = Int32.toInt64 (x / (2 : Int32)) := by
  apply Int64.toInt_inj.mp
  have h1 := Int32.le_toInt x
  have h2 := Int32.toInt_lt x
  obtain ⟨p, n⟩ := div_b (a := x.toInt) (b := 2) (by omega)
  rw [Int64.toInt_div, Int32.toInt_toInt64, Int32.toInt_toInt64, tD (x := x) (y := 2) (by decide), show (2 : Int64).toInt = 2 from rfl, show (2 : Int32).toInt = 2 from rfl]
  refine Int.bmod_eq_of_le ?_ ?_
  · rcases Int.le_total 0 x.toInt with h | h
    · have := p h; omega
    · have := n h; omega
  · rcases Int.le_total 0 x.toInt with h | h
    · have := p h; omega
    · have := n h; omega
theorem flo_b {a b : Int32} (hb : 0 < b.toInt) (h1 : -100000 ≤ a.toInt) (h2 : a.toInt ≤ 100000) : -100001 ≤ (flo a b).toInt ∧ (flo a b).toInt ≤ 100000 := by
  have d := tD (x := a) hb
  obtain ⟨p, n⟩ := div_b (a := a.toInt) hb
  have q : -100000 ≤ (a / b).toInt ∧ (a / b).toInt ≤ 100000 := by
    rw [d]
    rcases Int.le_total 0 a.toInt with h | h
    · have := p h; omega
    · have := n h; omega
  unfold flo
  split
  · omega
  · rw [tS (by rw [show (1 : Int32).toInt = 1 from rfl]; omega) (by rw [show (1 : Int32).toInt = 1 from rfl]; omega), show (1 : Int32).toInt = 1 from rfl]
    omega
theorem steps_b {m : SM} {ns nw : Nat} {b : SB} {s : Nat → Int32} {k : Nat} (hO : okM m ns nw) (h : okBag m ns b s k) : -100001 ≤ (B_bagSteps b k).toInt ∧ (B_bagSteps b k).toInt ≤ 100000 := by
  have sb := short_b hO h
  obtain ⟨i, h, o, td, fd, mn, q1, q2, q3, q4, q5, q6, q7, q8, q9⟩ := h
  have hp := step_pos (hO.2.2.1 i q1.1).1
  have e2 := (l_mul2 (x := B_bagShort b k) (by omega) (by omega)).2
  rw [q9]
  unfold bagSt
  refine flo_b hp.2.2.1 ?_ ?_
  · rw [tA (by omega) (by omega)]; omega
  · rw [tA (by omega) (by omega)]; omega
theorem Rel_tr {t : ST} {u : SO} (d : Int64) (h : Rel t u) : Rel (uT_traced t (O_trace u + d)) (uO_trace u (O_trace u + d)) := by
  obtain ⟨ns, nw, nx, hM, hX, hB, hK, hI, hV, hS, hT⟩ := h
  exact ⟨ns, nw, nx, hM, hX, hB, hK, hI, hV, ⟨hS.1, rfl⟩, hT⟩
theorem la (a b c d : Int64) (h : b + c = d) : (a + b) + c = a + d := by rw [Int64.add_assoc, h]
theorem sim_score (F : Nat) (hF : 2000 ≤ F) : ∀ (t : ST) (u : SO) (a1 : Int32) (a2 : Int32), Rel t u → ∃ (r : Int64) (t2 : ST) (u2 : SO), f_X5_score F t a1 a2 = some (r, t2) ∧ f_X6_score F u a1 a2 = some (r, u2) ∧ Rel t2 u2 := by
  intro t u a1 a2 hR
  have bad : ∀ r : Int64, ∃ (r_ : Int64) (t2 : ST) (u2 : SO), (some (r, t) : Option (Int64 × ST)) = some (r_, t2) ∧ (some (r, uO_thrown u 0) : Option (Int64 × SO)) = some (r_, u2) ∧ Rel t2 u2 := fun r => ⟨r, t, _, rfl, rfl, Rel_thr hR⟩
  have hR0 := hR
  obtain ⟨ns, nw, nx, ⟨hM1, hM2⟩, hX, hB, hK, hI, hV, hS, hT⟩ := hR
  obtain ⟨nb, nt, lk, hn, ⟨h1, h2, h3, h4, h5, h6, h7, h8, h9⟩, hb, ht⟩ := hK
  have hns := hM1.1.1
  have hS2 : T_traced t = O_trace u := hS.2
  unfold f_X5_score f_X6_score
  simp only [olt_s (uO_thrown u 0)]
  rcases isBag_both (F := F) (t := t) (u := uO_thrown u 0) a2 hn.1 h1 h2 with ⟨k, gk1, rfl, gk3, gk4⟩ | ⟨gk3, gk4⟩
  rotate_left
  · rw [gk3, gk4, obd_s, if_pos rfl]
    rcases (show f_X6_in F a1 0 6 = some 1 ∨ f_X6_in F a1 0 6 = some 0 by rw [in_eq]; split <;> simp) with e | e
    · rw [e, obd_s, if_neg one0, obd_s, if_pos rfl]; exact bad _
    · rw [e, obd_s, if_pos rfl]; exact bad _
  rw [gk3, gk4, obd_s, if_neg one0]
  rcases g_rg (F := F) a1 (lo := 0) (hi := 6) 0 6 rfl rfl (by omega) (by omega) with ⟨⟨c, gc1, gc2, rfl⟩, gc3, gc4⟩ | ⟨hc, gc3, gc4⟩
  rotate_left
  · rw [gc4, obd_s, if_pos rfl]
    have no : ∀ j : Nat, j ≤ 6 → ¬ a1 = nI j := fun j hj e => hc ⟨j, by omega, hj, e⟩
    rw [if_neg (show ¬ a1 = 0 from no 0 (by omega)), if_neg (show ¬ a1 = 1 from no 1 (by omega)), if_neg (show ¬ a1 = 2 from no 2 (by omega)), if_neg (show ¬ a1 = 3 from no 3 (by omega)), if_neg (show ¬ a1 = 4 from no 4 (by omega)), if_neg (show ¬ a1 = 5 from no 5 (by omega)), if_neg (show ¬ a1 = 6 from no 6 (by omega))]
    exact bad _
  rw [gc4, obd_s, if_neg one0, obd_s, if_neg one0]
  have hk : k < 30 := by omega
  have sb := short_b hM1 (hb k gk1)
  have stb := steps_b hM1 (hb k gk1)
  have es : ∀ x, f_X6_stepsOf F (uO_trace (uO_thrown u 0) x) (nI k) = some (B_bagSteps (T_book t) k) := fun x => stepsOf_m (F := F) (u := uO_trace (uO_thrown u 0) x) hk hM1 hM2 (hb k gk1)
  have eb0 : ∀ x, f_X6_bag F (uO_trace (uO_thrown u 0) x) (nI k) 0 = some (O_s u (1 + 6 * k)) := fun x => bag_0 (u := uO_trace (uO_thrown u 0) x) hk
  have eb1 : ∀ x, f_X6_bag F (uO_trace (uO_thrown u 0) x) (nI k) 1 = some (O_s u (2 + 6 * k)) := fun x => bag_1 (u := uO_trace (uO_thrown u 0) x) hk
  have eb2 : ∀ x, f_X6_bag F (uO_trace (uO_thrown u 0) x) (nI k) 2 = some (O_s u (3 + 6 * k)) := fun x => bag_2 (u := uO_trace (uO_thrown u 0) x) hk
  rw [shortOf_m (F := F) (u := uO_thrown u 0) hk hns hM2 (hb k gk1), obd_s]
  unfold f_X5_asTold f_X5_asChoose f_X5_asHonest f_X5_asScale f_X5_asThumb f_X5_asRound f_X5_asWay
  obtain ⟨i, h, o, td, fd, mn, q1, q2, q3, q4, q5, q6, q7, q8, q9⟩ := hb k gk1
  have i3 : (3 : Int32) * nI i = nI (3 * i) := by rw [show (3 : Int32) = nI 3 from rfl, pk_mul]
  simp only [olt_s, obd_s, ochi_n hk (show 30 < 2 ^ 31 by omega), cl (show k < 2 ^ 31 by omega), xT_traced_traced, zT_traced, xT_book_traced, xT_market_traced, xO_trace_thrown, es, eb0, eb1, eb2, q2.1, q2.2, q3.1, q3.2, q4.1, q4.2, i3, ochi_n (show i < 6 by omega) (show 6 < 2 ^ 31 by omega), cl (show i < 2 ^ 31 by omega), ochi_n (show 3 * i < 36 by omega) (show 36 < 2 ^ 31 by omega), cl (show 3 * i < 2 ^ 31 by omega), ochk_of (show ¬ (2 : Int64) = 0 by decide), ochk_of (show ¬ (2 : Int32) = 0 by decide), hS2]
  have w0 : O_stall (uO_trace (uO_thrown u 0) (O_trace u + 101)) (3 * i) = M_step (T_market t) i := (hM2.2.2.1 i q1.1).1
  have hp := step_pos (hM1.2.2.1 i q1.1).1
  have hc : c = 0 ∨ c = 1 ∨ c = 2 ∨ c = 3 ∨ c = 4 ∨ c = 5 ∨ c = 6 := by omega
  have m2 := l_mul2 (x := B_bagShort (T_book t) k) (by omega) (by omega)
  have to : (nI o).toInt = o := nI_toInt (by omega)
  have th : (nI h).toInt = h := nI_toInt (by omega)
  rcases hc with rfl | rfl | rfl | rfl | rfl | rfl | rfl
  · rw [if_pos (show nI 0 = 0 from rfl)]
    exact ⟨_, _, _, rfl, rfl, Rel_tr _ (Rel_thr hR0)⟩
  · refine ⟨Int32.toInt64 (B_bagShort (T_book t) k / 2), uT_traced t (O_trace u + 11), uO_trace (uO_thrown u 0) (O_trace u + 11), ?_, rfl, Rel_tr _ (Rel_thr hR0)⟩
    rw [← l_div2, ← la (O_trace u) 10 1 11 rfl]
    rfl
  · refine ⟨Int32.toInt64 (B_bagShort (T_book t) k - M_step (T_market t) i), uT_traced t (O_trace u + 101), uO_trace (uO_thrown u 0) (O_trace u + 101), ?_, ?_, Rel_tr _ (Rel_thr hR0)⟩
    · rw [← l_sub (by omega) (by omega), ← la (O_trace u) 100 1 101 rfl]
      rfl
    · rw [← w0]
      rfl
  · refine ⟨Int32.toInt64 ((2 : Int32) * B_bagShort (T_book t) k), uT_traced t (O_trace u + 1001), uO_trace (uO_thrown u 0) (O_trace u + 1001), ?_, rfl, Rel_tr _ (Rel_thr hR0)⟩
    rw [← m2.1, ← la (O_trace u) 1000 1 1001 rfl]
    rfl
  · refine ⟨Int32.toInt64 ((2 : Int32) * B_bagShort (T_book t) k + nI o), uT_traced t (O_trace u + 11001), uO_trace (uO_thrown u 0) (O_trace u + 11001), ?_, rfl, Rel_tr _ (Rel_thr hR0)⟩
    rw [← l_add (by rw [m2.2, to]; omega) (by rw [m2.2, to]; omega), ← m2.1, ← la (O_trace u) 11000 1 11001 rfl, ← la (O_trace u) 10000 1000 11000 rfl]
    rfl
  · refine ⟨Int32.toInt64 (B_bagShort (T_book t) k + B_bagSteps (T_book t) k), uT_traced t (O_trace u + 100001), uO_trace (uO_thrown u 0) (O_trace u + 100001), ?_, rfl, Rel_tr _ (Rel_thr hR0)⟩
    rw [← l_add (by omega) (by omega), ← la (O_trace u) 100000 1 100001 rfl]
    rfl
  · refine ⟨Int32.toInt64 (B_bagShort (T_book t) k + B_bagSteps (T_book t) k - nI h), uT_traced t (O_trace u + 1100001), uO_trace (uO_thrown u 0) (O_trace u + 1100001), ?_, rfl, Rel_tr _ (Rel_thr hR0)⟩
    rw [← l_sub (by rw [tA (by omega) (by omega), th]; omega) (by rw [tA (by omega) (by omega), th]; omega), ← l_add (by omega) (by omega), ← la (O_trace u) 1100000 1 1100001 rfl, ← la (O_trace u) 1000000 100000 1100000 rfl]
    rfl
