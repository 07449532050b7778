/-! ===== bar, done, cost, enough ===== -/
theorem c8_0 {β : Type} {x : Option β} : ochi (0 : Int32) 8 x = x := ochi_of (vp_in_iff.mpr (by decide))
theorem c8_1 {β : Type} {x : Option β} : ochi (1 : Int32) 8 x = x := ochi_of (vp_in_iff.mpr (by decide))
theorem c8_2 {β : Type} {x : Option β} : ochi (2 : Int32) 8 x = x := ochi_of (vp_in_iff.mpr (by decide))
theorem c8_3 {β : Type} {x : Option β} : ochi (3 : Int32) 8 x = x := ochi_of (vp_in_iff.mpr (by decide))
theorem c8_4 {β : Type} {x : Option β} : ochi (4 : Int32) 8 x = x := ochi_of (vp_in_iff.mpr (by decide))
theorem c8_5 {β : Type} {x : Option β} : ochi (5 : Int32) 8 x = x := ochi_of (vp_in_iff.mpr (by decide))
theorem c8_6 {β : Type} {x : Option β} : ochi (6 : Int32) 8 x = x := ochi_of (vp_in_iff.mpr (by decide))
theorem c8_7 {β : Type} {x : Option β} : ochi (7 : Int32) 8 x = x := ochi_of (vp_in_iff.mpr (by decide))
theorem k3i : Int32.toNatClampNeg (3 : Int32) = 3 := rfl
theorem k4i : Int32.toNatClampNeg (4 : Int32) = 4 := rfl
theorem k5i : Int32.toNatClampNeg (5 : Int32) = 5 := rfl
theorem k6i : Int32.toNatClampNeg (6 : Int32) = 6 := rfl
theorem k7i : Int32.toNatClampNeg (7 : Int32) = 7 := rfl
def vt (bars : Nat → Int32) (N n k : Nat) : Int32 × Int64 := vTab bars N (N - n) k
theorem vStep_nx {bars : Nat → Int32} {N n k : Nat} {f g : Nat → Int64} (h : n < N → f (k + 1) = g (k + 1) ∧ f k = g k) : vStep bars N n k f = vStep bars N n k g := by
  unfold vStep
  by_cases c : N ≤ n
  · simp only [if_pos c]
  · obtain ⟨h1, h2⟩ := h (by omega)
    simp only [if_neg c, h1, h2]
theorem vt_eq {bars : Nat → Int32} {N n k : Nat} {f : Nat → Int64} (hn : n ≤ N) (h : n < N → f (k + 1) = (vt bars N (n + 1) (k + 1)).2 ∧ f k = (vt bars N (n + 1) k).2) : vt bars N n k = vStep bars N n k f := by
  rcases Nat.eq_or_lt_of_le hn with e | e
  · subst e
    unfold vt
    rw [Nat.sub_self]
    exact vStep_nx (fun c => absurd c (Nat.lt_irrefl _))
  · unfold vt at *
    rw [show N - n = (N - (n + 1)) + 1 by omega]
    show vStep bars N (N - (N - (n + 1) + 1)) k (fun j => (vTab bars N (N - (n + 1)) j).2) = _
    rw [show N - (N - (n + 1) + 1) = n by omega]
    exact vStep_nx (fun c => ⟨(h c).1.symm, (h c).2.symm⟩)
theorem vTab_congr {b c : Nat → Int32} (h : ∀ k, k < 8 → b k = c k) (N : Nat) : ∀ d k, vTab b N d k = vTab c N d k := by
  have st : ∀ n k f, vStep b N n k f = vStep c N n k f := by
    intro n k f
    unfold vStep
    rw [h 0 (by omega), h 1 (by omega), h 2 (by omega), h 3 (by omega), h 4 (by omega), h 5 (by omega), h 6 (by omega)]
  intro d
  induction d with
  | zero => intro k; exact st _ _ _
  | succ d ih =>
    intro k
    show vStep b N _ k (fun j => (vTab b N d j).2) = vStep c N _ k (fun j => (vTab c N d j).2)
    rw [st]
    congr 1
    funext j
    rw [ih j]
theorem dec_c {F N n k : Nat} {s : SV} (hF : 2000 ≤ F) (h7 : V_bars s 7 = nI N) (hN : N ≤ 8) (hn : n ≤ N) (hk : k ≤ n) : f_X4_decide F s (nI n) (nI k) = some (uV_leastCost (uV_choice s (upd (V_choice s) (9 * n + k) (vStep (V_bars s) N n k (fun j => V_leastCost s (9 * (n + 1) + j))).1)) (vp_updL (V_leastCost s) (9 * n + k) (vStep (V_bars s) N n k (fun j => V_leastCost s (9 * (n + 1) + j))).2)) := by
  have i1 : nI n * (9 : Int32) + nI k = nI (9 * n + k) := by rw [show (9 : Int32) = nI 9 from rfl, pk_mul, nI_add, Nat.mul_comm]
  unfold f_X4_decide f_X4_weight
  simp only [c8_0, c8_1, c8_2, c8_3, c8_4, c8_5, c8_6, c8_7, k0i, k1i, k2i, k3i, k4i, k5i, k6i, k7i, h7, pk_sub hn, pk_sub hk, power_c (F := F) _ (show N - n < F by omega) (show N - n < 2 ^ 31 by omega), power_c (F := F) _ (show n - k < F by omega) (show n - k < 2 ^ 31 by omega), power_c (F := F) _ (show k < F by omega) (show k < 2 ^ 31 by omega), obd_s, olt_s, i1, ochi_n (show 9 * n + k < 81 by omega) (show 81 < 2 ^ 31 by omega), cl (show 9 * n + k < 2 ^ 31 by omega), xV_bars_bars, xV_leastCost_bars, xV_choice_bars, zV_bars, xV_bars_leastCost, xV_leastCost_leastCost, xV_choice_leastCost, zV_leastCost, xV_bars_choice, xV_leastCost_choice, xV_choice_choice, zV_choice]
  unfold vStep
  simp only []
  generalize Int32.toInt64 (V_bars s 4) * (Int32.toInt64 (V_bars s 2) * pw (Int32.toInt64 (V_bars s 0)) k * pw (Int32.toInt64 (10 - V_bars s 0)) (n - k)) * pw 10 (N - n) = z1
  generalize Int32.toInt64 (V_bars s 5) * (Int32.toInt64 (V_bars s 3) * pw (Int32.toInt64 (V_bars s 1)) k * pw (Int32.toInt64 (10 - V_bars s 1)) (n - k)) * pw 10 (N - n) = z2
  by_cases c1 : 0 ≤ lg_cmp z2 z1
  · rw [if_pos c1, if_pos c1, obd_s]
    by_cases c2 : N ≤ n
    · rw [if_pos (nI_le c2 (by omega)), if_pos c2, obd_s]
    · have i2 : (nI n + 1) * (9 : Int32) + (nI k + 1) = nI (9 * (n + 1) + (k + 1)) := by rw [s1, s1, show (9 : Int32) = nI 9 from rfl, pk_mul, nI_add, Nat.mul_comm]
      have i3 : (nI n + 1) * (9 : Int32) + nI k = nI (9 * (n + 1) + k) := by rw [s1, show (9 : Int32) = nI 9 from rfl, pk_mul, nI_add, Nat.mul_comm]
      rw [if_neg (nI_ge (show n < N by omega) (by omega)), if_neg c2]
      unfold f_X4_leastAt
      rw [i2, i3, ochi_n (by omega) (by omega), ochi_n (by omega) (by omega), cl (by omega), cl (by omega), obd_s, obd_s]
      generalize Int32.toInt64 (V_bars s 6) * (Int32.toInt64 (V_bars s 2) * pw (Int32.toInt64 (V_bars s 0)) k * pw (Int32.toInt64 (10 - V_bars s 0)) (n - k) + Int32.toInt64 (V_bars s 3) * pw (Int32.toInt64 (V_bars s 1)) k * pw (Int32.toInt64 (10 - V_bars s 1)) (n - k)) * pw 10 (N - n) + V_leastCost s (9 * (n + 1) + (k + 1)) + V_leastCost s (9 * (n + 1) + k) = z3
      by_cases c3 : 0 ≤ lg_cmp z3 z1
      · rw [if_pos c3, if_pos c3, obd_s]
      · rw [if_neg c3, if_neg c3, obd_s]
  · rw [if_neg c1, if_neg c1, obd_s]
    by_cases c2 : N ≤ n
    · rw [if_pos (nI_le c2 (by omega)), if_pos c2, obd_s]
    · have i2 : (nI n + 1) * (9 : Int32) + (nI k + 1) = nI (9 * (n + 1) + (k + 1)) := by rw [s1, s1, show (9 : Int32) = nI 9 from rfl, pk_mul, nI_add, Nat.mul_comm]
      have i3 : (nI n + 1) * (9 : Int32) + nI k = nI (9 * (n + 1) + k) := by rw [s1, show (9 : Int32) = nI 9 from rfl, pk_mul, nI_add, Nat.mul_comm]
      rw [if_neg (nI_ge (show n < N by omega) (by omega)), if_neg c2]
      unfold f_X4_leastAt
      rw [i2, i3, ochi_n (by omega) (by omega), ochi_n (by omega) (by omega), cl (by omega), cl (by omega), obd_s, obd_s]
      generalize Int32.toInt64 (V_bars s 6) * (Int32.toInt64 (V_bars s 2) * pw (Int32.toInt64 (V_bars s 0)) k * pw (Int32.toInt64 (10 - V_bars s 0)) (n - k) + Int32.toInt64 (V_bars s 3) * pw (Int32.toInt64 (V_bars s 1)) k * pw (Int32.toInt64 (10 - V_bars s 1)) (n - k)) * pw 10 (N - n) + V_leastCost s (9 * (n + 1) + (k + 1)) + V_leastCost s (9 * (n + 1) + k) = z3
      by_cases c3 : 0 ≤ lg_cmp z3 z2
      · rw [if_pos c3, if_pos c3, obd_s]
      · rw [if_neg c3, if_neg c3, obd_s]
def okT (bars : Nat → Int32) (C : Nat → Int32) (L : Nat → Int64) (W N lo : Nat) : Prop := ∀ n k, lo ≤ n → n ≤ N → k ≤ n → C (W * n + k) = (vt bars N n k).1 ∧ L (W * n + k) = (vt bars N n k).2
def okR (bars : Nat → Int32) (C : Nat → Int32) (L : Nat → Int64) (W N n k : Nat) : Prop := ∀ j, j < k → C (W * n + j) = (vt bars N n j).1 ∧ L (W * n + j) = (vt bars N n j).2
theorem okT_u {bars C : Nat → Int32} {L : Nat → Int64} {W N n k : Nat} {c : Int32} {l : Int64} (hW : 8 < W) (hN : N ≤ 8) (hn : n ≤ N) (hk : k ≤ n) (h : okT bars C L W N (n + 1)) : okT bars (upd C (W * n + k) c) (vp_updL L (W * n + k) l) W N (n + 1) := by
  intro n' k' h1 h2 h3
  have ne : W * n' + k' ≠ W * n + k := by
    have : W * (n + 1) ≤ W * n' := Nat.mul_le_mul_left _ h1
    rw [Nat.mul_succ] at this
    omega
  rw [upd_n ne, pk_uLn ne]
  exact h n' k' h1 h2 h3
theorem okR_u {bars C : Nat → Int32} {L : Nat → Int64} {W N n k : Nat} {v : Int32 × Int64} (hv : v = vt bars N n k) (h : okR bars C L W N n k) : okR bars (upd C (W * n + k) v.1) (vp_updL L (W * n + k) v.2) W N n (k + 1) := by
  intro j hj
  by_cases e : j = k
  · subst e; rw [upd_s, pk_uLs, hv]; exact ⟨rfl, rfl⟩
  · rw [upd_n (by omega), pk_uLn (by omega)]; exact h j (by omega)
theorem okT_s {bars C : Nat → Int32} {L : Nat → Int64} {W N n : Nat} (h : okT bars C L W N (n + 1)) (hr : okR bars C L W N n (n + 1)) : okT bars C L W N n := by
  intro n' k' h1 h2 h3
  by_cases e : n' = n
  · subst e; exact hr k' (by omega)
  · exact h n' k' (by omega) h2 h3
theorem wb_in {F N n : Nat} {bars : Nat → Int32} (K : Int32 → SV → Option SV) (hF : 2000 ≤ F) (h7 : bars 7 = nI N) (hN : N ≤ 8) (hn : n ≤ N) : ∀ d k nf (s : SV), k + d = n + 1 → d < nf → V_bars s = bars → okT bars (V_choice s) (V_leastCost s) 9 N (n + 1) → okR bars (V_choice s) (V_leastCost s) 9 N n k → ∃ s', f_X4_workBack_L14 F K nf (nI n) (nI k) s = K (nI n + (-1)) s' ∧ V_bars s' = bars ∧ okT bars (V_choice s') (V_leastCost s') 9 N n := by
  intro d
  induction d with
  | zero =>
    intro k nf s hk hnf hb hT hR
    obtain ⟨nf, rfl⟩ : ∃ q, nf = q + 1 := ⟨nf - 1, by omega⟩
    have e : k = n + 1 := by omega
    subst e
    rw [f_X4_workBack_L14, if_pos (nI_lt (by omega) (by omega))]
    exact ⟨s, rfl, hb, okT_s hT hR⟩
  | succ d ih =>
    intro k nf s hk hnf hb hT hR
    obtain ⟨nf, rfl⟩ : ∃ q, nf = q + 1 := ⟨nf - 1, by omega⟩
    rw [f_X4_workBack_L14, if_neg (nI_nlt (by omega) (by omega)), dec_c hF (by rw [hb]; exact h7) hN hn (by omega), obd_s, s1]
    have hv : vStep (V_bars s) N n k (fun j => V_leastCost s (9 * (n + 1) + j)) = vt bars N n k := by
      rw [hb]
      exact (vt_eq hn (fun c => ⟨(hT (n + 1) (k + 1) (Nat.le_refl _) (by omega) (by omega)).2, (hT (n + 1) k (Nat.le_refl _) (by omega) (by omega)).2⟩)).symm
    rw [hv]
    exact ih (k + 1) nf _ (by omega) (by omega) hb (okT_u (by omega) hN hn (by omega) hT) (okR_u rfl hR)
theorem wb_out {F N : Nat} {bars : Nat → Int32} (hF : 2000 ≤ F) (h7 : bars 7 = nI N) (hN : N ≤ 8) : ∀ e nf (s : SV), e ≤ N + 1 → e < nf → V_bars s = bars → okT bars (V_choice s) (V_leastCost s) 9 N e → ∃ s', f_X4_workBack_L8 F nf (nI e + (-1)) s = some s' ∧ V_bars s' = bars ∧ okT bars (V_choice s') (V_leastCost s') 9 N 0 := by
  intro e
  induction e with
  | zero =>
    intro nf s he hnf hb hT
    obtain ⟨nf, rfl⟩ : ∃ q, nf = q + 1 := ⟨nf - 1, by omega⟩
    rw [f_X4_workBack_L8, if_pos (show nI 0 + (-1) < 0 by decide)]
    exact ⟨s, rfl, hb, hT⟩
  | succ e ih =>
    intro nf s he hnf hb hT
    obtain ⟨nf, rfl⟩ : ∃ q, nf = q + 1 := ⟨nf - 1, by omega⟩
    rw [f_X4_workBack_L8, pk_m1, if_neg (nI_pos (by omega))]
    obtain ⟨s', e1, e2, e3⟩ := wb_in (F := F) (N := N) (n := e) (f_X4_workBack_L8 F nf) hF h7 hN (by omega) (e + 1) 0 F s (by omega) (by omega) hb hT (fun j hj => absurd hj (Nat.not_lt_zero _))
    have e1' : f_X4_workBack_L14 F (f_X4_workBack_L8 F nf) F (nI e) (0 : Int32) s = f_X4_workBack_L8 F nf (nI e + (-1)) s' := e1
    rw [e1']
    exact ih nf s' (by omega) (by omega) e2 e3
theorem wb_c {F N : Nat} {bars : Nat → Int32} (s : SV) (hF : 2000 ≤ F) (h7 : bars 7 = nI N) (hN : N ≤ 8) (hb : V_bars s = bars) : ∃ s', f_X4_workBack F s = some s' ∧ V_bars s' = bars ∧ okT bars (V_choice s') (V_leastCost s') 9 N 0 := by
  unfold f_X4_workBack
  rw [c8_7, olt_s, k7i, hb, h7, ← pk_m1]
  exact wb_out hF h7 hN (N + 1) F s (Nat.le_refl _) (by omega) hb (fun n k h1 h2 h3 => absurd h1 (by omega))
theorem okV_i {v : SV} {u : SO} {N : Nat} (h7 : V_bars v 7 = nI N) (hN : N ≤ 8) (h1 : ∀ k, k < 8 → V_bars v k = O_bars u k) (h2 : rg (V_bars v 0) 0 10 ∧ rg (V_bars v 1) 0 10 ∧ rg (V_bars v 2) 1 9 ∧ rg (V_bars v 3) 1 9 ∧ rg (V_bars v 4) 0 999 ∧ rg (V_bars v 5) 0 999 ∧ rg (V_bars v 6) 0 99 ∧ rg (V_bars v 7) 1 8) (h3 : okT (V_bars v) (V_choice v) (V_leastCost v) 9 N 0) : okV v u := by
  refine ⟨h1, h2, fun n k hk hn h8 => ?_⟩
  rw [h7] at hn
  rw [h7, cl (by omega)]
  exact h3 n k (by omega) ((nI_leI (by omega) (by omega)).mp hn) hk
theorem okV_e {v : SV} {u : SO} (h : okV v u) : ∃ N, 1 ≤ N ∧ N ≤ 8 ∧ V_bars v 7 = nI N ∧ O_bars u 7 = nI N ∧ okT (V_bars v) (V_choice v) (V_leastCost v) 9 N 0 := by
  obtain ⟨h1, h2, h3⟩ := h
  obtain ⟨N, n1, n2, n3⟩ := h2.2.2.2.2.2.2.2
  refine ⟨N, n1, n2, n3, (h1 7 (by omega)).symm.trans n3, fun n k _ hn hk => ?_⟩
  have := h3 n k hk (by rw [n3]; exact nI_le hn (by omega)) (by omega)
  rw [n3, cl (by omega)] at this
  exact this
/-! the reference's -/
def wd (u : SO) (C : Nat → Int64) (D : Nat → Int32) : SO := uO_dones (uO_costs u C) D
theorem wd_c (u : SO) (C : Nat → Int64) (D : Nat → Int32) : O_costs (wd u C D) = C := rfl
theorem wd_d (u : SO) (C : Nat → Int64) (D : Nat → Int32) : O_dones (wd u C D) = D := rfl
theorem wd_b (u : SO) (C : Nat → Int64) (D : Nat → Int32) : O_bars (wd u C D) = O_bars u := rfl
theorem wd_wd (u : SO) (C C' : Nat → Int64) (D D' : Nat → Int32) : uO_dones (uO_costs (wd u C D) C') D' = wd u C' D' := by
  apply SO_ext <;> simp only [wd, xO_thrown_costs, xO_trace_costs, xO_s_costs, xO_kept_costs, xO_isKept_costs, xO_latest_costs, xO_text_costs, xO_typed_costs, xO_next_costs, xO_token_costs, xO_place_costs, xO_value_costs, xO_fault_costs, xO_luck_costs, xO_stall_costs, xO_way_costs, xO_stalls_costs, xO_ways_costs, xO_draftStalls_costs, xO_draftWays_costs, xO_beliefs_costs, xO_bars_costs, xO_triangle_costs, xO_costs_costs, xO_dones_costs, xO_row_costs, xO_up_costs, xO_down_costs, xO_soldSteps_costs, zO_costs, xO_thrown_dones, xO_trace_dones, xO_s_dones, xO_kept_dones, xO_isKept_dones, xO_latest_dones, xO_text_dones, xO_typed_dones, xO_next_dones, xO_token_dones, xO_place_dones, xO_value_dones, xO_fault_dones, xO_luck_dones, xO_stall_dones, xO_way_dones, xO_stalls_dones, xO_ways_dones, xO_draftStalls_dones, xO_draftWays_dones, xO_beliefs_dones, xO_bars_dones, xO_triangle_dones, xO_costs_dones, xO_dones_dones, xO_row_dones, xO_up_dones, xO_down_dones, xO_soldSteps_dones, zO_dones]
theorem wd_Rel {t : ST} {u : SO} (C : Nat → Int64) (D : Nat → Int32) (h : Rel t u) : Rel t (wd u C D) := h
theorem wa_st {F N n k nf : Nat} {u : SO} {C : Nat → Int64} {D : Nat → Int32} (K : Int32 → SO → Option SO) (hF : 2000 ≤ F) (hN : N ≤ 8) (hn : n ≤ N) (hk : k ≤ n) : f_X6_weighsAll_L27 F (nI N) (pw 10 (N - n)) K (nf + 1) (nI n) (nI k) (wd u C D) = f_X6_weighsAll_L27 F (nI N) (pw 10 (N - n)) K nf (nI n) (nI (k + 1)) (wd u (vp_updL C (10 * n + k) (vStep (O_bars u) N n k (fun j => C (10 * (n + 1) + j))).2) (upd D (10 * n + k) (vStep (O_bars u) N n k (fun j => C (10 * (n + 1) + j))).1)) := by
  have i1 : (10 : Int32) * nI n + nI k = nI (10 * n + k) := by rw [show (10 : Int32) = nI 10 from rfl, pk_mul, nI_add]
  rw [f_X6_weighsAll_L27, if_neg (nI_nlt (by omega) (by omega))]
  simp only [c8_0, c8_1, c8_2, c8_3, c8_4, c8_5, c8_6, c8_7, k0i, k1i, k2i, k3i, k4i, k5i, k6i, k7i, pk_sub hk, power_m (F := F) _ (show n - k < F by omega) (show n - k < 2 ^ 31 by omega), power_m (F := F) _ (show k < F by omega) (show k < 2 ^ 31 by omega), obd_s, olt_s, i1, ochi_n (show 10 * n + k < 100 by omega) (show 100 < 2 ^ 31 by omega), cl (show 10 * n + k < 2 ^ 31 by omega), wd_b, wd_c, wd_d, xO_dones_costs, wd_wd, s1]
  unfold vStep
  simp only []
  generalize Int32.toInt64 (O_bars u 4) * (Int32.toInt64 (O_bars u 2) * pw (Int32.toInt64 (O_bars u 0)) k * pw (Int32.toInt64 (10 - O_bars u 0)) (n - k)) * pw 10 (N - n) = z1
  generalize Int32.toInt64 (O_bars u 5) * (Int32.toInt64 (O_bars u 3) * pw (Int32.toInt64 (O_bars u 1)) k * pw (Int32.toInt64 (10 - O_bars u 1)) (n - k)) * pw 10 (N - n) = z2
  by_cases c1 : 0 ≤ lg_cmp z2 z1
  · rw [if_pos c1, if_pos c1, obd_s]
    by_cases c2 : N ≤ n
    · rw [if_pos (nI_le c2 (by omega)), if_pos c2, obd_s]
    · have i2 : (10 : Int32) * nI (n + 1) + nI k = nI (10 * (n + 1) + k) := by rw [show (10 : Int32) = nI 10 from rfl, pk_mul, nI_add]
      rw [if_neg (nI_ge (show n < N by omega) (by omega)), if_neg c2, i2, s1, ochi_n (by omega) (by omega), ochi_n (by omega) (by omega), cl (by omega), cl (by omega)]
      generalize Int32.toInt64 (O_bars u 6) * (Int32.toInt64 (O_bars u 2) * pw (Int32.toInt64 (O_bars u 0)) k * pw (Int32.toInt64 (10 - O_bars u 0)) (n - k) + Int32.toInt64 (O_bars u 3) * pw (Int32.toInt64 (O_bars u 1)) k * pw (Int32.toInt64 (10 - O_bars u 1)) (n - k)) * pw 10 (N - n) + C (10 * (n + 1) + k + 1) + C (10 * (n + 1) + k) = z3
      by_cases c3 : 0 ≤ lg_cmp z3 z1
      · rw [if_pos c3, obd_s, if_pos c3, obd_s, if_pos c3]
      · rw [if_neg c3, obd_s, if_neg c3, obd_s, if_neg c3]
  · rw [if_neg c1, if_neg c1, obd_s]
    by_cases c2 : N ≤ n
    · rw [if_pos (nI_le c2 (by omega)), if_pos c2, obd_s]
    · have i2 : (10 : Int32) * nI (n + 1) + nI k = nI (10 * (n + 1) + k) := by rw [show (10 : Int32) = nI 10 from rfl, pk_mul, nI_add]
      rw [if_neg (nI_ge (show n < N by omega) (by omega)), if_neg c2, i2, s1, ochi_n (by omega) (by omega), ochi_n (by omega) (by omega), cl (by omega), cl (by omega)]
      generalize Int32.toInt64 (O_bars u 6) * (Int32.toInt64 (O_bars u 2) * pw (Int32.toInt64 (O_bars u 0)) k * pw (Int32.toInt64 (10 - O_bars u 0)) (n - k) + Int32.toInt64 (O_bars u 3) * pw (Int32.toInt64 (O_bars u 1)) k * pw (Int32.toInt64 (10 - O_bars u 1)) (n - k)) * pw 10 (N - n) + C (10 * (n + 1) + k + 1) + C (10 * (n + 1) + k) = z3
      by_cases c3 : 0 ≤ lg_cmp z3 z2
      · rw [if_pos c3, obd_s, if_pos c3, obd_s, if_pos c3]
      · rw [if_neg c3, obd_s, if_neg c3, obd_s, if_neg c3]
theorem wa_in {F N n : Nat} {u : SO} (K : Int32 → SO → Option SO) (hF : 2000 ≤ F) (hN : N ≤ 8) (hn : n ≤ N) : ∀ d k nf C D, k + d = n + 1 → d < nf → okT (O_bars u) D C 10 N (n + 1) → okR (O_bars u) D C 10 N n k → ∃ C' D', f_X6_weighsAll_L27 F (nI N) (pw 10 (N - n)) K nf (nI n) (nI k) (wd u C D) = K (nI n + (-1)) (wd u C' D') ∧ okT (O_bars u) D' C' 10 N n := by
  intro d
  induction d with
  | zero =>
    intro k nf C D hk hnf hT hR
    obtain ⟨nf, rfl⟩ : ∃ q, nf = q + 1 := ⟨nf - 1, by omega⟩
    have e : k = n + 1 := by omega
    subst e
    rw [f_X6_weighsAll_L27, if_pos (nI_lt (by omega) (by omega))]
    exact ⟨C, D, rfl, okT_s hT hR⟩
  | succ d ih =>
    intro k nf C D hk hnf hT hR
    obtain ⟨nf, rfl⟩ : ∃ q, nf = q + 1 := ⟨nf - 1, by omega⟩
    have hv : vStep (O_bars u) N n k (fun j => C (10 * (n + 1) + j)) = vt (O_bars u) N n k :=
      (vt_eq hn (fun c => ⟨(hT (n + 1) (k + 1) (Nat.le_refl _) (by omega) (by omega)).2, (hT (n + 1) k (Nat.le_refl _) (by omega) (by omega)).2⟩)).symm
    rw [wa_st K hF hN hn (by omega), hv]
    exact ih (k + 1) nf _ _ (by omega) (by omega) (okT_u (by omega) hN hn (by omega) hT) (okR_u rfl hR)
theorem wa_out {F N : Nat} {u : SO} (hF : 2000 ≤ F) (hN : N ≤ 8) : ∀ e nf C D, e ≤ N + 1 → e < nf → okT (O_bars u) D C 10 N e → ∃ C' D', f_X6_weighsAll_L10 F (nI N) nf (nI e + (-1)) (wd u C D) = some (wd u C' D') ∧ okT (O_bars u) D' C' 10 N 0 := by
  intro e
  induction e with
  | zero =>
    intro nf C D he hnf hT
    obtain ⟨nf, rfl⟩ : ∃ q, nf = q + 1 := ⟨nf - 1, by omega⟩
    rw [f_X6_weighsAll_L10, if_pos (show nI 0 + (-1) < 0 by decide)]
    exact ⟨C, D, rfl, hT⟩
  | succ e ih =>
    intro nf C D he hnf hT
    obtain ⟨nf, rfl⟩ : ∃ q, nf = q + 1 := ⟨nf - 1, by omega⟩
    rw [f_X6_weighsAll_L10, pk_m1, if_neg (nI_pos (by omega)), pk_sub (by omega), power_m _ (by omega) (by omega), obd_s]
    obtain ⟨C', D', e1, e3⟩ := wa_in (F := F) (N := N) (n := e) (u := u) (f_X6_weighsAll_L10 F (nI N) nf) hF hN (by omega) (e + 1) 0 F C D (by omega) (by omega) hT (fun j hj => absurd hj (Nat.not_lt_zero _))
    have e1' : f_X6_weighsAll_L27 F (nI N) (pw 10 (N - e)) (f_X6_weighsAll_L10 F (nI N) nf) F (nI e) (0 : Int32) (wd u C D) = f_X6_weighsAll_L10 F (nI N) nf (nI e + (-1)) (wd u C' D') := e1
    rw [e1']
    exact ih nf C' D' (by omega) (by omega) e3
theorem wa_m {F N : Nat} (u : SO) (hF : 2000 ≤ F) (h7 : O_bars u 7 = nI N) (hN : N ≤ 8) : ∃ C D, f_X6_weighsAll F u = some (wd u C D) ∧ okT (O_bars u) D C 10 N 0 := by
  unfold f_X6_weighsAll
  rw [c8_7, olt_s, k7i, h7]
  obtain ⟨C, D, e1, e2⟩ := wa_out (F := F) (N := N) (u := u) hF hN (N + 1) F (O_costs u) (O_dones u) (Nat.le_refl _) (by omega) (fun n k h1 h2 h3 => absurd h1 (by omega))
  rw [pk_m1] at e1
  exact ⟨C, D, e1, e2⟩
theorem knows_both {F N : Nat} {v : SV} {u : SO} (a1 a2 : Int32) (hN : N ≤ 8) (h7 : V_bars v 7 = nI N) (h7' : O_bars u 7 = nI N) : (∃ n k, n ≤ N ∧ k ≤ n ∧ a1 = nI n ∧ a2 = nI k ∧ f_X4_knows F v a1 a2 = some 1 ∧ f_X6_isBehind F u a1 a2 = some 1) ∨ (f_X4_knows F v a1 a2 = some 0 ∧ f_X6_isBehind F u a1 a2 = some 0) := by
  unfold f_X4_knows f_X6_isBehind
  simp only [c8_7, k7i, h7, h7']
  have nl : ∀ {x y : Int32}, ¬ x < y → y ≤ x := fun h => Int32.not_lt.mp h
  by_cases c1 : a1 < 0
  · rw [if_pos c1, in_eq, if_neg (fun q => absurd q.1 (Int32.not_le.mpr c1))]
    exact Or.inr ⟨rfl, rfl⟩
  rw [if_neg c1]
  by_cases c2 : nI N < a1
  · rw [if_pos c2, in_eq, if_neg (fun q => absurd q.2 (Int32.not_le.mpr c2))]
    exact Or.inr ⟨rfl, rfl⟩
  rw [if_neg c2, in_eq, if_pos (show (0 : Int32) ≤ a1 ∧ a1 ≤ nI N from ⟨nl c1, nl c2⟩), obd_s, if_neg one0]
  obtain ⟨n, n1, n2, rfl⟩ := (rg_iff (v := a1) (lo := 0) (hi := N) (by omega) (by omega)).mp ⟨nl c1, nl c2⟩
  by_cases c3 : a2 < 0
  · rw [if_pos c3, in_eq, if_neg (fun q => absurd q.1 (Int32.not_le.mpr c3))]
    exact Or.inr ⟨rfl, rfl⟩
  rw [if_neg c3]
  by_cases c4 : nI n < a2
  · rw [if_pos c4, in_eq, if_neg (fun q => absurd q.2 (Int32.not_le.mpr c4))]
    exact Or.inr ⟨rfl, rfl⟩
  rw [if_neg c4, in_eq, if_pos (show (0 : Int32) ≤ a2 ∧ a2 ≤ nI n from ⟨nl c3, nl c4⟩), obd_s, if_neg one0]
  obtain ⟨k, k1, k2, rfl⟩ := (rg_iff (v := a2) (lo := 0) (hi := n) (by omega) (by omega)).mp ⟨nl c3, nl c4⟩
  exact Or.inl ⟨n, k, n2, k2, rfl, rfl, rfl, rfl⟩
theorem vt_congr {b c : Nat → Int32} (h : ∀ k, k < 8 → b k = c k) (N n k : Nat) : vt b N n k = vt c N n k := vTab_congr h N _ _
theorem sim_done (F : Nat) (hF : 2000 ≤ F) : ∀ (t : ST) (u : SO) (a1 : Int32) (a2 : Int32), Rel t u → ∃ (r : Int32) (u2 : SO), f_X5_done F t a1 a2 = some r ∧ f_X6_done F u a1 a2 = some (r, u2) ∧ Rel t u2 := by
  intro t u a1 a2 hR
  have bad : ∀ r : Int32, ∃ (r_ : Int32) (u2 : SO), (some r : Option Int32) = some r_ ∧ (some (r, uO_thrown u 0) : Option (Int32 × SO)) = some (r_, u2) ∧ Rel t u2 := fun r => ⟨r, _, rfl, rfl, Rel_thr hR⟩
  have hR0 := hR
  obtain ⟨ns, nw, nx, ⟨hM1, hM2⟩, hX, hB, hK, hI, hV, hS, hT⟩ := hR
  have hK0 := hK
  obtain ⟨nb, nt, lk, hn, ⟨h1, h2, h3, h4, h5, h6, h7, h8, h9⟩, hb, ht⟩ := hK
  have hns := hM1.1.1
  have hnw := hM1.1.2.1
  unfold f_X5_done f_X6_done
  simp only [olt_s (uO_thrown u 0)]
  obtain ⟨N, n1, n2, n3, n4, hT9⟩ := okV_e hV
  have hvb := hV.1
  rcases knows_both (F := F) (v := T_verdict t) (u := uO_thrown u 0) a1 a2 n2 n3 n4 with ⟨n, k, g1, g2, rfl, rfl, g3, g4⟩ | ⟨g3, g4⟩
  rotate_left
  · rw [g3, g4]; exact bad _
  rw [g3, g4]; simp only [obd_s]; rw [if_neg one0, if_neg one0]
  obtain ⟨C, D, e1, e2⟩ := wa_m (F := F) (uO_thrown u 0) hF n4 n2
  have i1 : nI n * (9 : Int32) + nI k = nI (9 * n + k) := by rw [show (9 : Int32) = nI 9 from rfl, pk_mul, nI_add, Nat.mul_comm]
  have i2 : (10 : Int32) * nI n + nI k = nI (10 * n + k) := by rw [show (10 : Int32) = nI 10 from rfl, pk_mul, nI_add]
  unfold f_X4_choiceAt
  rw [e1, obd_s, i1, i2, ochi_n (by omega) (by omega), ochi_n (by omega) (by omega), cl (by omega), cl (by omega), obd_s]
  refine ⟨_, _, rfl, ?_, wd_Rel C D (Rel_thr hR0)⟩
  have q1 := (hT9 n k (by omega) g1 g2).1
  have q2 := (e2 n k (by omega) g1 g2).1
  rw [vt_congr hvb] at q1
  rw [wd_d, q1, q2]
  rfl
theorem sim_cost (F : Nat) (hF : 2000 ≤ F) : ∀ (t : ST) (u : SO) (a1 : Int32) (a2 : Int32), Rel t u → ∃ (r : Int64) (u2 : SO), f_X5_cost F t a1 a2 = some r ∧ f_X6_cost F u a1 a2 = some (r, u2) ∧ Rel t u2 := by
  intro t u a1 a2 hR
  have bad : ∀ r : Int64, ∃ (r_ : Int64) (u2 : SO), (some r : Option Int64) = some r_ ∧ (some (r, uO_thrown u 0) : Option (Int64 × SO)) = some (r_, u2) ∧ Rel t u2 := fun r => ⟨r, _, rfl, rfl, Rel_thr hR⟩
  have hR0 := hR
  obtain ⟨ns, nw, nx, ⟨hM1, hM2⟩, hX, hB, hK, hI, hV, hS, hT⟩ := hR
  have hK0 := hK
  obtain ⟨nb, nt, lk, hn, ⟨h1, h2, h3, h4, h5, h6, h7, h8, h9⟩, hb, ht⟩ := hK
  have hns := hM1.1.1
  have hnw := hM1.1.2.1
  unfold f_X5_cost f_X6_cost
  simp only [olt_s (uO_thrown u 0)]
  obtain ⟨N, n1, n2, n3, n4, hT9⟩ := okV_e hV
  have hvb := hV.1
  rcases knows_both (F := F) (v := T_verdict t) (u := uO_thrown u 0) a1 a2 n2 n3 n4 with ⟨n, k, g1, g2, rfl, rfl, g3, g4⟩ | ⟨g3, g4⟩
  rotate_left
  · rw [g3, g4]; exact bad _
  rw [g3, g4]; simp only [obd_s]; rw [if_neg one0, if_neg one0]
  obtain ⟨C, D, e1, e2⟩ := wa_m (F := F) (uO_thrown u 0) hF n4 n2
  have i1 : nI n * (9 : Int32) + nI k = nI (9 * n + k) := by rw [show (9 : Int32) = nI 9 from rfl, pk_mul, nI_add, Nat.mul_comm]
  have i2 : (10 : Int32) * nI n + nI k = nI (10 * n + k) := by rw [show (10 : Int32) = nI 10 from rfl, pk_mul, nI_add]
  unfold f_X4_leastAt
  rw [e1, obd_s, i1, i2, ochi_n (by omega) (by omega), ochi_n (by omega) (by omega), cl (by omega), cl (by omega), obd_s]
  refine ⟨_, _, rfl, ?_, wd_Rel C D (Rel_thr hR0)⟩
  have q1 := (hT9 n k (by omega) g1 g2).2
  have q2 := (e2 n k (by omega) g1 g2).2
  rw [vt_congr hvb] at q1
  rw [wd_c, q1, q2]
  rfl
/-! enough -/
abbrev goOn (ch : Nat → Nat → Int32) (n k : Nat) : Prop := ch n k = 2
theorem cnt_le_n (p : Nat → Prop) [DecidablePred p] {a b : Nat} (h : a ≤ b) : cnt p a ≤ cnt p b := by
  induction b with
  | zero => have : a = 0 := by omega
            subst this; exact Nat.le_refl _
  | succ b ih =>
    rcases Nat.eq_or_lt_of_le h with e | e
    · subst e; exact Nat.le_refl _
    · have := ih (by omega)
      show cnt p a ≤ cnt p b + _
      omega
def lastM (ch : Nat → Nat → Int32) : Nat → Int32
  | 0 => -9
  | m + 1 => if 0 < cnt (goOn ch m) (m + 1) then nI m else lastM ch m
def lst (ch : Nat → Nat → Int32) (m : Nat) : Nat → Int32 → Int32
  | 0, d => d
  | e + 1, d => lst ch m e (if ch m e = 0 then nI e else d)
def lu (ch : Nat → Nat → Int32) (n : Nat) : Nat → Nat → Int32
  | 0, _ => -9
  | d + 1, k => if ch n k = 0 then nI k else lu ch n d (k + 1)
theorem lst_lu (ch : Nat → Nat → Int32) (m : Nat) : ∀ e d, lst ch m e (lu ch m d e) = lu ch m (e + d) 0 := by
  intro e
  induction e with
  | zero => intro d; rw [Nat.zero_add]; rfl
  | succ e ih =>
    intro d
    show lst ch m e (lu ch m (d + 1) e) = _
    rw [ih (d + 1)]
    congr 1
    omega
def sureM (ch : Nat → Nat → Int32) (a : Int32) : Nat → Int32
  | 0 => -9
  | m + 1 => if nI m = a then lst ch m (m + 1) (sureM ch a m) else sureM ch a m
theorem sureM_e (ch : Nat → Nat → Int32) {n : Nat} (hn : n ≤ 8) : ∀ m, m ≤ 20 → sureM ch (nI n) m = if n < m then lu ch n (n + 1) 0 else -9 := by
  intro m
  induction m with
  | zero => intro _; rfl
  | succ m ih =>
    intro hm
    show (if nI m = nI n then lst ch m (m + 1) (sureM ch (nI n) m) else sureM ch (nI n) m) = _
    rw [ih (by omega)]
    by_cases e : m = n
    · subst e
      rw [if_pos rfl, if_neg (by omega), if_pos (by omega)]
      exact lst_lu ch m (m + 1) 0
    · rw [if_neg (fun z => e ((nI_eq (by omega) (by omega)).mp z))]
      by_cases c : n < m
      · rw [if_pos c, if_pos (by omega)]
      · rw [if_neg c, if_neg (by omega)]
theorem lg_in {F N n : Nat} {s : SV} {ch : Nat → Nat → Int32} (K : Int32 → Option Int32) (hN : N ≤ 8) (hn : n ≤ N) (hc : ∀ n k, n ≤ N → k ≤ n → V_choice s (9 * n + k) = ch n k) : ∀ d k nf, k + d = n + 1 → d < nf → f_X4_lastToGoOn_L14 F s K nf (nI n) (nI k) = if cnt (goOn ch n) k < cnt (goOn ch n) (n + 1) then some (nI n) else K (nI n + (-1)) := by
  intro d
  induction d with
  | zero =>
    intro k nf hk hnf
    obtain ⟨nf, rfl⟩ : ∃ q, nf = q + 1 := ⟨nf - 1, by omega⟩
    have e : k = n + 1 := by omega
    subst e
    rw [f_X4_lastToGoOn_L14, if_pos (nI_lt (by omega) (by omega)), if_neg (Nat.lt_irrefl _)]
  | succ d ih =>
    intro k nf hk hnf
    obtain ⟨nf, rfl⟩ : ∃ q, nf = q + 1 := ⟨nf - 1, by omega⟩
    have i1 : nI n * (9 : Int32) + nI k = nI (9 * n + k) := by rw [show (9 : Int32) = nI 9 from rfl, pk_mul, nI_add, Nat.mul_comm]
    unfold f_X4_lastToGoOn_L14
    rw [if_neg (nI_nlt (by omega) (by omega))]
    unfold f_X4_choiceAt
    rw [i1, ochi_n (by omega) (by omega), cl (by omega), obd_s, hc n k hn (by omega), s1, ih (k + 1) nf (by omega) (by omega)]
    by_cases c : goOn ch n k
    · have := cnt_le_n (goOn ch n) (show k + 1 ≤ n + 1 by omega)
      rw [cnt_p c] at this
      rw [if_pos c, if_pos (by omega)]
    · rw [if_neg c, cnt_np c]
theorem lg_out {F N : Nat} {s : SV} {ch : Nat → Nat → Int32} (hF : 2000 ≤ F) (hN : N ≤ 8) (hc : ∀ n k, n ≤ N → k ≤ n → V_choice s (9 * n + k) = ch n k) : ∀ e nf, e ≤ N + 1 → e < nf → f_X4_lastToGoOn_L8 F s nf (nI e + (-1)) = some (lastM ch e) := by
  intro e
  induction e with
  | zero =>
    intro nf he hnf
    obtain ⟨nf, rfl⟩ : ∃ q, nf = q + 1 := ⟨nf - 1, by omega⟩
    rw [f_X4_lastToGoOn_L8, if_pos (show nI 0 + (-1) < 0 by decide)]
    rfl
  | succ e ih =>
    intro nf he hnf
    obtain ⟨nf, rfl⟩ : ∃ q, nf = q + 1 := ⟨nf - 1, by omega⟩
    rw [f_X4_lastToGoOn_L8, pk_m1, if_neg (nI_pos (by omega))]
    have e1 : f_X4_lastToGoOn_L14 F s (f_X4_lastToGoOn_L8 F s nf) F (nI e) (0 : Int32) = if cnt (goOn ch e) 0 < cnt (goOn ch e) (e + 1) then some (nI e) else f_X4_lastToGoOn_L8 F s nf (nI e + (-1)) := lg_in (F := F) (f_X4_lastToGoOn_L8 F s nf) hN (show e ≤ N by omega) hc (e + 1) 0 F (by omega) (by omega)
    rw [e1, ih nf (by omega) (by omega)]
    show (if 0 < cnt (goOn ch e) (e + 1) then some (nI e) else some (lastM ch e)) = some (if 0 < cnt (goOn ch e) (e + 1) then nI e else lastM ch e)
    split <;> rfl
theorem acc_c {F N n : Nat} {s : SV} {ch : Nat → Nat → Int32} (hN : N ≤ 8) (hn : n ≤ N) (hc : ∀ n k, n ≤ N → k ≤ n → V_choice s (9 * n + k) = ch n k) : ∀ d k nf, k + d = n + 1 → d < nf → f_X4_leastToAccuse_L2 F s (nI n) nf (nI k) = some (lu ch n d k) := by
  intro d
  induction d with
  | zero =>
    intro k nf hk hnf
    obtain ⟨nf, rfl⟩ : ∃ q, nf = q + 1 := ⟨nf - 1, by omega⟩
    rw [f_X4_leastToAccuse_L2, if_pos (nI_lt (by omega) (by omega))]
    rfl
  | succ d ih =>
    intro k nf hk hnf
    obtain ⟨nf, rfl⟩ : ∃ q, nf = q + 1 := ⟨nf - 1, by omega⟩
    have i1 : nI n * (9 : Int32) + nI k = nI (9 * n + k) := by rw [show (9 : Int32) = nI 9 from rfl, pk_mul, nI_add, Nat.mul_comm]
    unfold f_X4_leastToAccuse_L2
    rw [if_neg (nI_nlt (by omega) (by omega))]
    unfold f_X4_choiceAt
    rw [i1, ochi_n (by omega) (by omega), cl (by omega), obd_s, hc n k hn (by omega), s1, ih (k + 1) nf (by omega) (by omega)]
    show _ = some (if ch n k = 0 then nI k else lu ch n d (k + 1))
    split <;> rfl
theorem en_in {F N m : Nat} {a : Int32} {u : SO} {ch : Nat → Nat → Int32} (K : Int32 → Int32 → Int32 → Option (Int32 × SO)) (hN : N ≤ 8) (hm : m ≤ N) (hc : ∀ n k, n ≤ N → k ≤ n → O_dones u (10 * n + k) = ch n k) : ∀ e nf la su, e ≤ m + 1 → e < nf → f_X6_enough_L51 F a u K nf la su (nI m) (nI e + (-1)) = K (if 0 < cnt (goOn ch m) e then nI m else la) (if nI m = a then lst ch m e su else su) (nI (m + 1)) := by
  intro e
  induction e with
  | zero =>
    intro nf la su he hnf
    obtain ⟨nf, rfl⟩ : ∃ q, nf = q + 1 := ⟨nf - 1, by omega⟩
    rw [f_X6_enough_L51, if_pos (show nI 0 + (-1) < 0 by decide), s1]
    have q : (if nI m = a then lst ch m 0 su else su) = su := by split <;> rfl
    rw [q]
    rfl
  | succ e ih =>
    intro nf la su he hnf
    obtain ⟨nf, rfl⟩ : ∃ q, nf = q + 1 := ⟨nf - 1, by omega⟩
    have i2 : (10 : Int32) * nI m + nI e = nI (10 * m + e) := by rw [show (10 : Int32) = nI 10 from rfl, pk_mul, nI_add]
    rw [f_X6_enough_L51, pk_m1, if_neg (nI_pos (by omega))]
    simp only [i2, ochi_n (show 10 * m + e < 100 by omega) (show 100 < 2 ^ 31 by omega), cl (show 10 * m + e < 2 ^ 31 by omega), hc m e hm (show e ≤ m by omega)]
    have lv : ∀ v : Int32, (if 0 < cnt (goOn ch m) e then nI m else (if ch m e = 2 then nI m else la)) = v ↔ (if 0 < cnt (goOn ch m) (e + 1) then nI m else la) = v := by
      intro v
      by_cases c : goOn ch m e
      · rw [cnt_p c, if_pos c, if_pos (show 0 < cnt (goOn ch m) e + 1 by omega)]
        split <;> exact Iff.rfl
      · rw [cnt_np c, if_neg c]
    have lv2 : (if 0 < cnt (goOn ch m) e then nI m else (if ch m e = 2 then nI m else la)) = (if 0 < cnt (goOn ch m) (e + 1) then nI m else la) := (lv _).mpr rfl
    have ob : (if ch m e = 2 then some (nI m) else some la) = some (if ch m e = 2 then nI m else la) := by split <;> rfl
    rw [ob, obd_s]
    by_cases ca : nI m = a
    · rw [if_pos ca]
      by_cases c0 : ch m e = 0
      · rw [if_pos c0, ih nf _ _ (by omega) (by omega), lv2, if_pos ca, if_pos ca]
        show K _ (lst ch m e (nI e)) _ = K _ (lst ch m e (if ch m e = 0 then nI e else su)) _
        rw [if_pos c0]
      · rw [if_neg c0, ih nf _ _ (by omega) (by omega), lv2, if_pos ca, if_pos ca]
        show K _ (lst ch m e su) _ = K _ (lst ch m e (if ch m e = 0 then nI e else su)) _
        rw [if_neg c0]
    · rw [if_neg ca, ih nf _ _ (by omega) (by omega), lv2, if_neg ca, if_neg ca]
theorem en_out {F N : Nat} {a : Int32} {u : SO} {ch : Nat → Nat → Int32} (hF : 2000 ≤ F) (hN : N ≤ 8) (h7 : O_bars u 7 = nI N) (hc : ∀ n k, n ≤ N → k ≤ n → O_dones u (10 * n + k) = ch n k) : f_X6_enough_L35 F a u F (-9 : Int32) (-9 : Int32) (0 : Int32) = (if a = (-1 : Int32) then some (lastM ch (N + 1), u) else some (sureM ch a (N + 1), u)) := by
  refine run_fg (L := fun n (p : Int32 × Int32 × Int32) => f_X6_enough_L35 F a u n p.1 p.2.1 p.2.2) (st := fun m => (lastM ch m, sureM ch a m, nI m)) (N := N + 1) ?_ ?_ F (by omega)
  · intro n m hm
    show f_X6_enough_L35 F a u (n + 1) (lastM ch m) (sureM ch a m) (nI m) = f_X6_enough_L35 F a u n (if 0 < cnt (goOn ch m) (m + 1) then nI m else lastM ch m) (if nI m = a then lst ch m (m + 1) (sureM ch a m) else sureM ch a m) (nI (m + 1))
    rw [f_X6_enough_L35, c8_7, k7i, h7, if_neg (nI_nlt (by omega) (by omega))]
    have e := en_in (F := F) (a := a) (f_X6_enough_L35 F a u n) hN (show m ≤ N by omega) hc (m + 1) F (lastM ch m) (sureM ch a m) (Nat.le_refl _) (by omega)
    rw [pk_m1] at e
    exact e
  · intro n
    show f_X6_enough_L35 F a u (n + 1) _ _ (nI (N + 1)) = _
    rw [f_X6_enough_L35, c8_7, k7i, h7, if_pos (nI_lt (by omega) (by omega))]
theorem sim_enough (F : Nat) (hF : 2000 ≤ F) : ∀ (t : ST) (u : SO) (a1 : Int32), Rel t u → ∃ (r : Int32) (u2 : SO), f_X5_enough F t a1 = some r ∧ f_X6_enough F u a1 = some (r, u2) ∧ Rel t u2 := by
  intro t u a1 hR
  have bad : ∀ r : Int32, ∃ (r_ : Int32) (u2 : SO), (some r : Option Int32) = some r_ ∧ (some (r, uO_thrown u 0) : Option (Int32 × SO)) = some (r_, u2) ∧ Rel t u2 := fun r => ⟨r, _, rfl, rfl, Rel_thr hR⟩
  have hR0 := hR
  obtain ⟨ns, nw, nx, ⟨hM1, hM2⟩, hX, hB, hK, hI, hV, hS, hT⟩ := hR
  have hK0 := hK
  obtain ⟨nb, nt, lk, hn, ⟨h1, h2, h3, h4, h5, h6, h7, h8, h9⟩, hb, ht⟩ := hK
  have hns := hM1.1.1
  have hnw := hM1.1.2.1
  unfold f_X5_enough f_X6_enough
  simp only [olt_s (uO_thrown u 0)]
  obtain ⟨N, n1, n2, n3, n4, hT9⟩ := okV_e hV
  have hvb := hV.1
  obtain ⟨C, D, e1, e2⟩ := wa_m (F := F) (uO_thrown u 0) hF n4 n2
  have hc1 : ∀ n k, n ≤ N → k ≤ n → V_choice (T_verdict t) (9 * n + k) = (vt (O_bars u) N n k).1 := by
    intro n k h1 h2
    rw [(hT9 n k (by omega) h1 h2).1, vt_congr hvb]
  have hc2 : ∀ n k, n ≤ N → k ≤ n → O_dones (wd (uO_thrown u 0) C D) (10 * n + k) = (vt (O_bars u) N n k).1 := fun n k h1 h2 => (e2 n k (by omega) h1 h2).1
  have e3 := en_out (F := F) (a := a1) (u := wd (uO_thrown u 0) C D) (ch := fun n k => (vt (O_bars u) N n k).1) hF n2 n4 hc2
  have n4' : O_bars (uO_thrown u 0) 7 = nI N := n4
  simp only [c8_7, k7i, n4', e1, e3, obd_s]
  by_cases cm : a1 = -1
  · subst cm
    have q : f_X6_in F (-1) (-1) (nI N) = some 1 := by
      rw [in_eq, if_pos]
      refine ⟨by decide, ?_⟩
      rw [Int32.le_iff_toInt_le, nI_toInt (by omega)]
      show (-1 : Int) ≤ N
      omega
    have l := lg_out (F := F) (ch := fun n k => (vt (O_bars u) N n k).1) hF n2 hc1 (N + 1) F (Nat.le_refl _) (by omega)
    rw [pk_m1] at l
    unfold f_X4_lastToGoOn
    rw [if_pos rfl, if_pos rfl, q, obd_s, if_neg one0, c8_7, k7i, n3, olt_s, l, obd_s]
    exact ⟨_, _, rfl, rfl, wd_Rel C D (Rel_thr hR0)⟩
  · rw [if_neg cm, if_neg cm]
    have nl : ∀ {x y : Int32}, ¬ x < y → y ≤ x := fun h => Int32.not_lt.mp h
    unfold f_X4_knows
    rw [c8_7, k7i, n3]
    have em : ((-1 : Int32) ≤ a1) ↔ 0 ≤ a1 := by
      rw [Int32.le_iff_toInt_le, Int32.le_iff_toInt_le]
      show (-1 : Int) ≤ a1.toInt ↔ (0 : Int) ≤ a1.toInt
      have : a1.toInt ≠ -1 := fun z => cm (Int32.toInt_inj.mp z)
      omega
    by_cases c1 : a1 < 0
    · rw [if_pos c1, in_eq, if_neg (fun q => absurd (em.mp q.1) (Int32.not_le.mpr c1))]
      exact bad _
    rw [if_neg c1]
    by_cases c2 : nI N < a1
    · rw [if_pos c2, in_eq, if_neg (fun q => absurd q.2 (Int32.not_le.mpr c2))]
      exact bad _
    rw [if_neg c2, if_neg (show ¬ (0 : Int32) < 0 by decide), if_neg c1, in_eq, if_pos ⟨em.mpr (nl c1), nl c2⟩, obd_s, obd_s, if_neg one0, if_neg one0]
    obtain ⟨n, q1, q2, rfl⟩ := (rg_iff (v := a1) (lo := 0) (hi := N) (by omega) (by omega)).mp ⟨nl c1, nl c2⟩
    have ac := acc_c (F := F) (s := T_verdict t) (ch := fun n k => (vt (O_bars u) N n k).1) n2 q2 hc1 (n + 1) 0 F (by omega) (by omega)
    have ac' : f_X4_leastToAccuse F (T_verdict t) (nI n) = some (lu (fun n k => (vt (O_bars u) N n k).1) n (n + 1) 0) := ac
    rw [ac', obd_s, sureM_e _ (by omega) _ (by omega), if_pos (by omega)]
    exact ⟨_, _, rfl, rfl, wd_Rel C D (Rel_thr hR0)⟩
