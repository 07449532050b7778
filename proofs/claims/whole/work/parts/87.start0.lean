section
/-! ===== the start of the two ===== -/
theorem i_300 {F : Nat} : ∀ d k nf (s : SO), k + d = 6 → d < nf → ∃ be, f_X6_init_t_L300 F nf (nI k) s = some (uO_beliefs s be) := by
  intro d
  induction d with
  | zero =>
    intro k nf s hk hnf
    obtain ⟨nf, rfl⟩ : ∃ q, nf = q + 1 := ⟨nf - 1, by omega⟩
    rw [f_X6_init_t_L300, if_pos (show (6 : Int32) ≤ nI k from nI_le (a := 6) (by omega) (by omega))]
    exact ⟨O_beliefs s, rfl⟩
  | succ d ih =>
    intro k nf s hk hnf
    obtain ⟨nf, rfl⟩ : ∃ q, nf = q + 1 := ⟨nf - 1, by omega⟩
    rw [f_X6_init_t_L300, if_neg (show ¬ (6 : Int32) ≤ nI k from nI_ge (b := 6) (by omega) (by omega)), ochi_n (show k < 6 by omega) (by omega), olt_s, cl (show k < 2 ^ 31 by omega), s1]
    obtain ⟨be, h1⟩ := ih (k + 1) nf (uO_beliefs s (upd (O_beliefs s) k 1)) (by omega) (by omega)
    exact ⟨be, by rw [h1, zO_beliefs]⟩
theorem i_232 {F n : Nat} {s : SO} (K : Int32 → SO → Option SO) (hn : n < 20) : ∀ d k nf (tr : Nat → Int64), k + d = n + 1 → d < nf → 1 ≤ k → (∀ i j, i < n → j ≤ i → tr (20 * i + j) = bino i j) → (∀ j, j < k → tr (20 * n + j) = bino n j) → ∃ tr', f_X6_init_t_L232 F K nf (nI n) (nI k) (uO_triangle s tr) = K (nI (n + 1)) (uO_triangle s tr') ∧ (∀ i j, i < n + 1 → j ≤ i → tr' (20 * i + j) = bino i j) := by
  intro d
  induction d with
  | zero =>
    intro k nf tr hk hnf h1 ht hr
    obtain ⟨nf, rfl⟩ : ∃ q, nf = q + 1 := ⟨nf - 1, by omega⟩
    rw [f_X6_init_t_L232, if_pos (nI_lt (by omega) (by omega)), s1]
    refine ⟨tr, rfl, fun i j hi hj => ?_⟩
    by_cases e : i = n
    · subst e; exact hr j (by omega)
    · exact ht i j (by omega) hj
  | succ d ih =>
    intro k nf tr hk hnf h1 ht hr
    obtain ⟨nf, rfl⟩ : ∃ q, nf = q + 1 := ⟨nf - 1, by omega⟩
    obtain ⟨a, rfl⟩ : ∃ q, n = q + 1 := ⟨n - 1, by omega⟩
    obtain ⟨b, rfl⟩ : ∃ q, k = q + 1 := ⟨k - 1, by omega⟩
    have e1 : (20 : Int32) * nI a + nI (b + 1) = nI (20 * a + (b + 1)) := by rw [show (20 : Int32) = nI 20 from rfl, pk_mul, nI_add]
    have e2 : nI (20 * a + (b + 1)) - 1 = nI (20 * a + b) := nI_pred (20 * a + b)
    have e3 : (20 : Int32) * nI (a + 1) + nI (b + 1) = nI (20 * (a + 1) + (b + 1)) := by rw [show (20 : Int32) = nI 20 from rfl, pk_mul, nI_add]
    rw [f_X6_init_t_L232, if_neg (nI_nlt (by omega) (by omega)), nI_pred, e1, e2, e3, ochi_n (show 20 * a + b < 400 by omega) (by omega), cl (show 20 * a + b < 2 ^ 31 by omega), xO_triangle_triangle]
    have ev : (if nI (a + 1) ≤ nI (b + 1) then some (0 : Int64) else ochi (nI (20 * a + (b + 1))) 400 (some (tr (Int32.toNatClampNeg (nI (20 * a + (b + 1))))))) = some (bino a (b + 1)) := by
      by_cases c : a + 1 ≤ b + 1
      · have e : b = a := by omega
        subst e
        rw [if_pos (nI_le (by omega) (by omega)), bino_gt b (b + 1) (by omega)]
      · rw [if_neg (nI_ge (by omega) (by omega)), ochi_n (by omega) (by omega), cl (by omega), ht a (b + 1) (by omega) (by omega)]
    rw [ev, obd_s, olt_s, ochi_n (by omega) (by omega), olt_s, cl (by omega), s1, zO_triangle, ht a b (by omega) (by omega)]
    refine ih (b + 1 + 1) nf (vp_updL tr (20 * (a + 1) + (b + 1)) (bino a b + bino a (b + 1))) (by omega) (by omega) (by omega) (fun i j hi hj => ?_) (fun j hj => ?_)
    · rw [pk_uLn (by omega)]
      exact ht i j hi hj
    · by_cases e : j = b + 1
      · subst e
        rw [pk_uLs]
        rfl
      · rw [pk_uLn (by omega)]
        exact hr j (by omega)
theorem i_214 {F : Nat} {s : SO} (hF : 2000 ≤ F) : ∀ d n nf (tr : Nat → Int64), n + d = 20 → d < nf → (∀ i j, i < n → j ≤ i → tr (20 * i + j) = bino i j) → ∃ tr', f_X6_init_t_L214 F nf (nI n) (uO_triangle s tr) = f_X6_init_t_L300 F F 0 (uO_triangle s tr') ∧ (∀ i j, i < 20 → j ≤ i → tr' (20 * i + j) = bino i j) := by
  intro d
  induction d with
  | zero =>
    intro n nf tr hk hnf ht
    obtain ⟨nf, rfl⟩ : ∃ q, nf = q + 1 := ⟨nf - 1, by omega⟩
    have e : n = 20 := by omega
    subst e
    rw [f_X6_init_t_L214, if_pos (show (20 : Int32) ≤ nI 20 from nI_le (a := 20) (by omega) (by omega))]
    exact ⟨tr, rfl, ht⟩
  | succ d ih =>
    intro n nf tr hk hnf ht
    obtain ⟨nf, rfl⟩ : ∃ q, nf = q + 1 := ⟨nf - 1, by omega⟩
    have e1 : (20 : Int32) * nI n = nI (20 * n) := by rw [show (20 : Int32) = nI 20 from rfl, pk_mul]
    rw [f_X6_init_t_L214, if_neg (show ¬ (20 : Int32) ≤ nI n from nI_ge (b := 20) (by omega) (by omega)), e1, ochi_n (by omega) (by omega), olt_s, cl (by omega), xO_triangle_triangle, zO_triangle]
    obtain ⟨tr1, g1, g2⟩ := i_232 (F := F) (n := n) (s := s) (f_X6_init_t_L214 F nf) (by omega) n 1 F (vp_updL tr (20 * n) 1) (by omega) (by omega) (by omega) (fun i j hi hj => by rw [pk_uLn (by omega)]; exact ht i j hi hj) (fun j hj => by
      have e : j = 0 := by omega
      subst e
      rw [Nat.add_zero, pk_uLs, bino_0])
    obtain ⟨tr2, k1, k2⟩ := ih (n + 1) nf tr1 (by omega) (by omega) g2
    exact ⟨tr2, Eq.trans g1 k1, k2⟩
def st_S : SO := uO_s (uO_bars (uO_luck O00 (upd (upd (upd (O_luck O00) 0 2) 1 6) 2 2)) (upd (upd (upd (upd (upd (upd (upd (upd (O_bars O00) 0 2) 1 6) 2 5) 3 1) 4 100) 5 20) 6 1) 7 6)) (upd (O_s O00) 263 1)
theorem st_init (F : Nat) : f_X6_init_t F O00 = f_X6_init_t_L214 F F (nI 0) st_S := by
  unfold f_X6_init_t st_S
  simp only [c6_0, c6_1, c6_2, c8_0, c8_1, c8_2, c8_3, c8_4, c8_5, c8_6, c8_7, c264o, k0i, k1i, k2i, k3i, k4i, k5i, k6i, k7i, k263]
  rw [olt_s, olt_s, xO_luck_luck, zO_luck, olt_s, xO_luck_luck, zO_luck, olt_s, xO_bars_luck, olt_s, xO_bars_bars, zO_bars, olt_s, xO_bars_bars, zO_bars, olt_s, xO_bars_bars, zO_bars, olt_s, xO_bars_bars, zO_bars, olt_s, xO_bars_bars, zO_bars, olt_s, xO_bars_bars, zO_bars, olt_s, xO_bars_bars, zO_bars, olt_s, xO_s_bars, xO_s_luck]
  rfl
theorem st_bars : ∀ k, k < 8 → V_bars V01 k = O_bars st_S k := by decide +kernel
theorem st_b8 : V_bars V01 0 = nI 2 ∧ V_bars V01 1 = nI 6 ∧ V_bars V01 2 = nI 5 ∧ V_bars V01 3 = nI 1 ∧ V_bars V01 4 = nI 100 ∧ V_bars V01 5 = nI 20 ∧ V_bars V01 6 = nI 1 ∧ V_bars V01 7 = nI 6 := by decide +kernel
theorem st_z : O_stalls O00 = 0 ∧ O_ways O00 = 0 ∧ O_typed O00 = 0 ∧ O_soldSteps O00 = 0 ∧ O_trace O00 = 0 := ⟨rfl, rfl, rfl, rfl, rfl⟩
theorem st_f : O_luck O00 = (fun _ => 0) ∧ O_s O00 = (fun _ => 0) ∧ O_isKept O00 = (fun _ => 0) ∧ O_text O00 = (fun _ => 0) := ⟨rfl, rfl, rfl, rfl⟩
theorem st_l : O_latest O00 = (fun _ => 0) := rfl
theorem tri_eta (s : SO) : uO_triangle s (O_triangle s) = s := rfl
theorem st_T (v : SV) : (T_textLength (T0 v) = 0 ∧ T_market (T0 v) = M0 ∧ R_text (T_reader (T0 v)) = (fun _ => 0) ∧ T_book (T0 v) = uB_lot B0 1) ∧ (T_kept (T0 v) = (fun _ => 0) ∧ T_verdict (T0 v) = v ∧ T_stepsSold (T0 v) = 0 ∧ T_traced (T0 v) = 0) := ⟨⟨rfl, rfl, rfl, rfl⟩, ⟨rfl, rfl, rfl, rfl⟩⟩
theorem st_M : M_stalls M0 = nI 0 ∧ M_ways M0 = nI 0 ∧ M_less M0 = nI 2 ∧ M_just M0 = nI 6 ∧ M_more M0 = nI 2 := ⟨rfl, rfl, rfl, rfl, rfl⟩
theorem st_B : B_bags (uB_lot B0 1) = nI 0 ∧ B_trials (uB_lot B0 1) = nI 0 ∧ B_looks (uB_lot B0 1) = nI 0 ∧ B_lookRows (uB_lot B0 1) = 0 ∧ B_lookAll (uB_lot B0 1) = 0 ∧ B_lot (uB_lot B0 1) = 1 := ⟨rfl, rfl, rfl, rfl, rfl, rfl⟩
theorem st_Rel {v : SV} {o : SO} (a1 : O_stalls o = 0) (a2 : O_ways o = 0) (a3 : O_typed o = 0) (a4 : O_soldSteps o = 0) (a5 : O_trace o = 0) (b1 : O_luck o = upd (upd (upd (fun _ => 0) 0 2) 1 6) 2 2) (b2 : O_s o = upd (fun _ => 0) 263 1) (b3 : O_isKept o = fun _ => 0) (b4 : O_text o = fun _ => 0) (b5 : O_latest o = fun _ => 0) (hV : okV v o) (hT : ∀ n k, n < 20 → k ≤ n → O_triangle o (20 * n + k) = bino n k) : Rel (T0 v) o := by
  obtain ⟨⟨c1, c2, c3, c4⟩, ⟨c5, c6, c7, c8⟩⟩ := st_T v
  obtain ⟨m1, m2, m3, m4, m5⟩ := st_M
  obtain ⟨d1, d2, d3, d4, d5, d6⟩ := st_B
  refine Rel_i 0 0 0 ⟨?_, ?_⟩ ⟨by omega, c1, a3, by rw [c3, b4], fun k => ?_⟩ (fun w hw => absurd hw (Nat.not_lt_zero w)) ?_ ⟨⟨?_, ?_⟩, ⟨?_, ?_⟩⟩ ?_ ?_ hT
  · rw [c2]
    exact ⟨⟨by omega, by omega, m1, m2⟩, ⟨2, 6, 2, rfl, m3, m4, m5⟩, fun i hi => absurd hi (Nat.not_lt_zero i), fun i hi => absurd hi (Nat.not_lt_zero i)⟩
  · rw [c2]
    refine ⟨⟨a1, a2⟩, ⟨?_, ?_, ?_⟩, fun i hi => absurd hi (Nat.not_lt_zero i), fun i hi => absurd hi (Nat.not_lt_zero i)⟩
    · rw [b1, m3, upd_n (by decide), upd_n (by decide), upd_s]; rfl
    · rw [b1, m4, upd_n (by decide), upd_s]; rfl
    · rw [b1, m5, upd_s]; rfl
  · rw [b4]
    exact ⟨0, by omega, by omega, rfl⟩
  · rw [c2, c4, b2, b5]
    refine ⟨0, 0, 0, ⟨by omega, by omega, by omega⟩, ⟨d1, ?_, d2, ?_, d3, ?_, d4, d5, ?_⟩, fun k hk => absurd hk (Nat.not_lt_zero k), fun k hk => absurd hk (Nat.not_lt_zero k)⟩
    · rw [upd_n (by decide)]; rfl
    · rw [upd_n (by decide)]; rfl
    · rw [upd_n (by decide)]; rfl
    · rw [d6, upd_s]
  · rw [c5, b3]
  · left; rw [c5]
  · rw [c5, b3]
  · left; rw [c5]
  · rw [c6]; exact hV
  · rw [c7, c8, a4, a5]; exact ⟨rfl, rfl⟩
theorem st_all (F : Nat) (hF : 2000 ≤ F) : ∃ (v : SV) (o0 : SO), f_X4_workBack F V01 = some v ∧ f_X6_init_t F O00 = some o0 ∧ Rel (T0 v) o0 := by
  obtain ⟨e0, e1, e2, e3, e4, e5, e6, e7⟩ := st_b8
  obtain ⟨z1, z2, z3, z4, z5⟩ := st_z
  obtain ⟨f1, f2, f3, f4⟩ := st_f
  obtain ⟨v, w1, w2, w3⟩ := wb_c (F := F) (N := 6) (bars := V_bars V01) V01 hF e7 (by omega) rfl
  obtain ⟨tr, t1, t2⟩ := i_214 (F := F) (s := st_S) hF 20 0 F (O_triangle st_S) (by omega) (by omega) (fun i j hi => absurd hi (Nat.not_lt_zero i))
  obtain ⟨be, b1⟩ := i_300 (F := F) 6 0 F (uO_triangle st_S tr) (by omega) (by omega)
  rw [tri_eta] at t1
  refine ⟨v, uO_beliefs (uO_triangle st_S tr) be, w1, ((st_init F).trans t1).trans b1, ?_⟩
  have q1 : O_bars (uO_beliefs (uO_triangle st_S tr) be) = O_bars st_S := by rw [xO_bars_beliefs, xO_bars_triangle]
  refine st_Rel ?_ ?_ ?_ ?_ ?_ ?_ ?_ ?_ ?_ ?_ ?_ ?_
  · rw [xO_stalls_beliefs, xO_stalls_triangle, st_S, xO_stalls_s, xO_stalls_bars, xO_stalls_luck, z1]
  · rw [xO_ways_beliefs, xO_ways_triangle, st_S, xO_ways_s, xO_ways_bars, xO_ways_luck, z2]
  · rw [xO_typed_beliefs, xO_typed_triangle, st_S, xO_typed_s, xO_typed_bars, xO_typed_luck, z3]
  · rw [xO_soldSteps_beliefs, xO_soldSteps_triangle, st_S, xO_soldSteps_s, xO_soldSteps_bars, xO_soldSteps_luck, z4]
  · rw [xO_trace_beliefs, xO_trace_triangle, st_S, xO_trace_s, xO_trace_bars, xO_trace_luck, z5]
  · rw [xO_luck_beliefs, xO_luck_triangle, st_S, xO_luck_s, xO_luck_bars, xO_luck_luck, f1]
  · rw [xO_s_beliefs, xO_s_triangle, st_S, xO_s_s, f2]
  · rw [xO_isKept_beliefs, xO_isKept_triangle, st_S, xO_isKept_s, xO_isKept_bars, xO_isKept_luck, f3]
  · rw [xO_text_beliefs, xO_text_triangle, st_S, xO_text_s, xO_text_bars, xO_text_luck, f4]
  · rw [xO_latest_beliefs, xO_latest_triangle, st_S, xO_latest_s, xO_latest_bars, xO_latest_luck, st_l]
  · refine okV_i (v := v) (N := 6) (by rw [w2]; exact e7) (by omega) (fun k hk => ?_) ?_ (by rw [w2]; exact w3)
    · rw [w2, q1]
      exact st_bars k hk
    · rw [w2]
      exact ⟨⟨2, by omega, by omega, e0⟩, ⟨6, by omega, by omega, e1⟩, ⟨5, by omega, by omega, e2⟩, ⟨1, by omega, by omega, e3⟩, ⟨100, by omega, by omega, e4⟩, ⟨20, by omega, by omega, e5⟩, ⟨1, by omega, by omega, e6⟩, ⟨6, by omega, by omega, e7⟩⟩
  · intro n k hn hk
    rw [xO_triangle_beliefs, xO_triangle_triangle]
    exact t2 n k hn hk
end
