/-! ===== likely, odds, judged ===== -/
def ofn (m : SM) (w i : Nat) (o j : Int32) : Nat := (oft m w i o j).toNatClampNeg
theorem ofn_e {ns nw w i : Nat} {m : SM} (o j : Int32) (hw : w < nw) (hi : i < ns) (hO : okM m ns nw) : oft m w i o j = nI (ofn m w i o j) ∧ ofn m w i o j ≤ 600 := by
  obtain ⟨k, k1, k2, k3⟩ := oft_n o j hw hi hO
  unfold ofn
  rw [k3, cl (by omega)]
  exact ⟨rfl, k2⟩
def mdn (m : SM) (b : SB) (w i : Nat) : Nat → Nat
  | 0 => 1
  | k + 1 => if B_bagStall b k = nI i then mdn m b w i k * ofn m w i (B_bagSort b k) (B_bagSteps b k) else mdn m b w i k
theorem mdn_le {ns nw w i : Nat} {m : SM} {b : SB} (hw : w < nw) (hi : i < ns) (hO : okM m ns nw) (n : Nat) : mdn m b w i n ≤ 600 ^ cnt (fun k => B_bagStall b k = nI i) n := by
  induction n with
  | zero => exact Nat.le_refl 1
  | succ n ih =>
    show (if B_bagStall b n = nI i then mdn m b w i n * ofn m w i (B_bagSort b n) (B_bagSteps b n) else mdn m b w i n) ≤ 600 ^ (cnt (fun k => B_bagStall b k = nI i) n + if B_bagStall b n = nI i then 1 else 0)
    by_cases h : B_bagStall b n = nI i
    · rw [if_pos h, if_pos h, Nat.pow_succ]
      exact Nat.mul_le_mul ih (ofn_e _ _ hw hi hO).2
    · rw [if_neg h, if_neg h, Nat.add_zero]
      exact ih
theorem made_c {F ns nw nb w i : Nat} {t : ST} (hF : nb < F) (hn : nb ≤ 30) (hw : w < nw) (hi : i < ns) (hO : okM (T_market t) ns nw) (hb : B_bags (T_book t) = nI nb) : f_X5_oftenTogether F t (nI w) (nI i) = some (lN (mdn (T_market t) (T_book t) w i nb)) := by
  unfold f_X5_oftenTogether
  refine run_fg (L := fun n (p : Int64 × Int32) => f_X5_oftenTogether_L5 F t (nI w) (nI i) n p.1 p.2) (st := fun k => (lN (mdn (T_market t) (T_book t) w i k), nI k)) (N := nb) ?_ ?_ F hF
  · intro n k hk
    show f_X5_oftenTogether_L5 F t (nI w) (nI i) (n + 1) _ (nI k) = f_X5_oftenTogether_L5 F t (nI w) (nI i) n (lN (if B_bagStall (T_book t) k = nI i then _ else _)) (nI (k + 1))
    rw [f_X5_oftenTogether_L5, hb, if_neg (nI_ge hk (by omega)), ochi_n (by omega) (by omega), ochi_n (by omega) (by omega), ochi_n (by omega) (by omega), cl (by omega), oft_c _ _ hw hi hO, obd_s, s1]
    by_cases h : B_bagStall (T_book t) k = nI i
    · have e := ofn_e (B_bagSort (T_book t) k) (B_bagSteps (T_book t) k) hw hi hO
      rw [if_pos h, if_pos h, e.1, nI_l (by omega), lN_mul]
    · rw [if_neg h, if_neg h]
  · intro n
    show f_X5_oftenTogether_L5 F t (nI w) (nI i) (n + 1) _ (nI nb) = _
    rw [f_X5_oftenTogether_L5, hb, if_pos (nI_le (Nat.le_refl _) (by omega))]
theorem k0i : Int32.toNatClampNeg (0 : Int32) = 0 := rfl
theorem c264 {β : Type} {x : Option β} : ochi (0 : Int32) 264 x = x := ochi_of (vp_in_iff.mpr (by decide))
theorem c264t {β : Type} {x : Option β} : ochi (181 : Int32) 264 x = x := ochi_of (vp_in_iff.mpr (by decide))
theorem c264l {β : Type} {x : Option β} : ochi (262 : Int32) 264 x = x := ochi_of (vp_in_iff.mpr (by decide))
theorem c264o {β : Type} {x : Option β} : ochi (263 : Int32) 264 x = x := ochi_of (vp_in_iff.mpr (by decide))
theorem made_m {F ns nw nb w i : Nat} {m : SM} {b : SB} {u : SO} (hF : nb < F) (hn : nb ≤ 30) (hw : w < nw) (hi : i < ns) (hO : okM m ns nw) (hM : reM m u ns nw) (hb : O_s u 0 = nI nb) (hs : ∀ k, k < nb → okBag m ns b (O_s u) k) : f_X6_made F u (nI w) (nI i) = some (lN (mdn m b w i nb)) := by
  unfold f_X6_made
  refine run_fg (L := fun n (p : Int64 × Int32) => f_X6_made_L5 F u (nI w) (nI i) n p.1 p.2) (st := fun k => (lN (mdn m b w i k), nI k)) (N := nb) ?_ ?_ F hF
  · intro n k hk
    show f_X6_made_L5 F u (nI w) (nI i) (n + 1) _ (nI k) = f_X6_made_L5 F u (nI w) (nI i) n (lN (if B_bagStall b k = nI i then _ else _)) (nI (k + 1))
    have hst := stepsOf_m (F := F) (show k < 30 by omega) hO hM (hs k hk)
    obtain ⟨i', h', o, td, fd, mn, q1, q2, q3, q4, q5⟩ := hs k hk
    rw [f_X6_made_L5, c264, k0i, hb, if_neg (nI_ge hk (by omega)), bag_0 (by omega), bag_2 (by omega), hst, q2.2, q4.2, obd_s, obd_s, obd_s, oft_m _ hw hi q1.2.2.1 hO hM, obd_s, s1, q2.1, q4.1]
    by_cases h : nI i' = nI i
    · have e := ofn_e (nI o) (B_bagSteps b k) hw hi hO
      rw [if_pos h, if_pos h, e.1, nI_l (by omega), lN_mul]
    · rw [if_neg h, if_neg h, Int64.mul_one]
  · intro n
    show f_X6_made_L5 F u (nI w) (nI i) (n + 1) _ (nI nb) = _
    rw [f_X6_made_L5, c264, k0i, hb, if_pos (nI_le (Nat.le_refl _) (by omega))]
theorem sim_likely (F : Nat) (hF : 2000 ≤ F) : ∀ (t : ST) (u : SO) (a1 : Int32) (a2 : Int32) (a3 : Int32), Rel t u → ∃ (r : Int64) (u2 : SO), f_X5_likely F t a1 a2 a3 = some r ∧ f_X6_likely F u a1 a2 a3 = some (r, u2) ∧ Rel t u2 := by
  intro t u a1 a2 a3 hR
  have bad : ∀ r : Int64, ∃ (r_ : Int64) (u2 : SO), (some r : Option Int64) = some r_ ∧ (some (r, uO_thrown u 0) : Option (Int64 × SO)) = some (r_, u2) ∧ Rel t u2 := fun r => ⟨r, _, rfl, rfl, Rel_thr hR⟩
  have hR0 := hR
  obtain ⟨ns, nw, nx, ⟨hM1, hM2⟩, hX, hB, hK, hI, hV, hS, hT⟩ := hR
  have hK0 := hK
  obtain ⟨nb, nt, lk, hn, ⟨h1, h2, h3, h4, h5, h6, h7, h8, h9⟩, hb, ht⟩ := hK
  have hns := hM1.1.1
  have hnw := hM1.1.2.1
  unfold f_X5_likely f_X6_likely
  simp only [olt_s (uO_thrown u 0)]
  rcases isWay_both (F := F) (t := t) (u := uO_thrown u 0) a1 hM1 hM2 with ⟨w, gw1, rfl, gw3, gw4⟩ | ⟨gw3, gw4⟩
  rotate_left
  · rw [gw3, gw4]; exact bad _
  rw [gw3, gw4]; simp only [obd_s]; rw [if_neg one0, if_neg one0]
  rcases isStall_both (F := F) (t := t) (u := uO_thrown u 0) a2 hM1 hM2 with ⟨i, gi1, rfl, gi3, gi4⟩ | ⟨gi3, gi4⟩
  rotate_left
  · rw [gi3, gi4]; exact bad _
  rw [gi3, gi4]; simp only [obd_s]; rw [if_neg one0, if_neg one0]
  rcases isPart_both (F := F) a3 with ⟨gp1, gp3, gp4⟩ | ⟨gp3, gp4⟩
  rotate_left
  · rw [gp3, gp4]; exact bad _
  rw [gp3, gp4]; simp only [obd_s]; rw [if_neg one0, if_neg one0]
  have eb := bagsOf_c (F := F) (nI i) (by omega) hn.1 h1 hb
  have eb2 := bagsOf_m (F := F) (u := uO_thrown u 0) (nI i) (by omega) hn.1 h2 hb
  have hcl := cnt_le (fun k => B_bagStall (T_book t) k = nI i) nb
  have hml := mdn_le (b := T_book t) gw1 gi1 hM1 nb
  have em := made_c (F := F) (by omega) hn.1 gw1 gi1 hM1 h1
  have em2 := made_m (F := F) (u := uO_thrown u 0) (by omega) hn.1 gw1 gi1 hM1 hM2 h2 hb
  rw [eb, eb2, em, em2]
  simp only [obd_s]
  generalize hc : cnt (fun k => B_bagStall (T_book t) k = nI i) nb = c at *
  rw [power_c (F := F) _ (by omega) (by omega), power_m (F := F) _ (by omega) (by omega)]
  simp only [obd_s]
  by_cases h6 : c ≤ 6
  · rw [if_pos (show nI c ≤ 6 from nI_le (b := 6) h6 (by omega)), if_pos (show nI c ≤ 6 from nI_le (b := 6) h6 (by omega))]
    have hp : (600 : Nat) ^ c ≤ 600 ^ 6 := Nat.pow_le_pow_right (by omega) h6
    have hp0 : 0 < (600 : Nat) ^ c := Nat.pow_pos (by omega)
    have e600 : pw 600 c = lN (600 ^ c) := pw_lN 600 c
    obtain ⟨r, r1, r2⟩ := part_both (F := F) hF (a := lN (mdn (T_market t) (T_book t) w i nb)) (b := pw 600 c) a3 (by rw [pk_lT (by omega)]; omega) (by rw [e600, pk_lT (by omega)]; omega)
    rw [r1, r2]
    exact ⟨_, _, rfl, rfl, Rel_thr hR0⟩
  · rw [if_neg (show ¬ nI c ≤ 6 from nI_ge (b := c) (a := 6) (by omega) (by omega)), if_neg (show ¬ nI c ≤ 6 from nI_ge (b := c) (a := 6) (by omega) (by omega))]
    exact bad _
/-- belief times likely, of a way; and of all -/
def wtn (t : ST) (i nb w : Nat) : Nat := (T_beliefs t w).toNatClampNeg * mdn (T_market t) (T_book t) w i nb
def all_n (t : ST) (i nb : Nat) : Nat → Nat
  | 0 => 0
  | w + 1 => all_n t i nb w + wtn t i nb w
theorem bel_n {nw w : Nat} {t : ST} {u : SO} (hB : ∀ w, w < nw → T_beliefs t w = O_beliefs u w ∧ rg (T_beliefs t w) 0 9) (hw : w < nw) : T_beliefs t w = nI ((T_beliefs t w).toNatClampNeg) ∧ O_beliefs u w = nI ((T_beliefs t w).toNatClampNeg) ∧ (T_beliefs t w).toNatClampNeg ≤ 9 := by
  obtain ⟨e, k, k1, k2, k3⟩ := hB w hw
  rw [← e, k3, cl (by omega)]
  exact ⟨rfl, rfl, k2⟩
theorem wtn_le {ns nw nb w i : Nat} {t : ST} {u : SO} (hB : ∀ w, w < nw → T_beliefs t w = O_beliefs u w ∧ rg (T_beliefs t w) 0 9) (hw : w < nw) (hi : i < ns) (hO : okM (T_market t) ns nw) (hc : cnt (fun k => B_bagStall (T_book t) k = nI i) nb ≤ 6) : wtn t i nb w ≤ 9 * 600 ^ 6 := by
  refine Nat.mul_le_mul (bel_n hB hw).2.2 (Nat.le_trans (mdn_le hw hi hO nb) (Nat.pow_le_pow_right (by omega) hc))
theorem all_le {ns nw nb i : Nat} {t : ST} {u : SO} (hB : ∀ w, w < nw → T_beliefs t w = O_beliefs u w ∧ rg (T_beliefs t w) 0 9) (hi : i < ns) (hO : okM (T_market t) ns nw) (hc : cnt (fun k => B_bagStall (T_book t) k = nI i) nb ≤ 6) : ∀ w, w ≤ nw → all_n t i nb w ≤ w * (9 * 600 ^ 6) := by
  intro w
  induction w with
  | zero => intro _; exact Nat.le_refl 0
  | succ w ih =>
    intro h
    have h1 := ih (by omega)
    have h2 := wtn_le (nb := nb) hB (show w < nw by omega) hi hO hc
    show all_n t i nb w + wtn t i nb w ≤ _
    rw [Nat.succ_mul]
    omega
theorem all_c {F ns nw nb i : Nat} {t : ST} {u : SO} (hF : 2000 ≤ F) (hn : nb ≤ 30) (hi : i < ns) (hO : okM (T_market t) ns nw) (hB : ∀ w, w < nw → T_beliefs t w = O_beliefs u w ∧ rg (T_beliefs t w) 0 9) (hb : B_bags (T_book t) = nI nb) : f_X5_allWeights_L22 F t (nI i) F (0 : Int64) (0 : Int32) = some (lN (all_n t i nb nw)) := by
  have hw6 := hO.1.2.1
  refine run_fg (L := fun n (p : Int64 × Int32) => f_X5_allWeights_L22 F t (nI i) n p.1 p.2) (st := fun k => (lN (all_n t i nb k), nI k)) (N := nw) ?_ ?_ F (by omega)
  · intro n k hk
    show f_X5_allWeights_L22 F t (nI i) (n + 1) _ (nI k) = f_X5_allWeights_L22 F t (nI i) n (lN (all_n t i nb k + wtn t i nb k)) (nI (k + 1))
    have e := bel_n hB hk
    rw [f_X5_allWeights_L22, hO.1.2.2.2, if_neg (nI_ge hk (by omega)), ochi_n (by omega) (by omega), made_c (by omega) hn hk hi hO hb, obd_s, olt_s, cl (by omega), s1, e.1, nI_l (by omega), lN_mul, lN_add]
    rfl
  · intro n
    show f_X5_allWeights_L22 F t (nI i) (n + 1) _ (nI nw) = _
    rw [f_X5_allWeights_L22, hO.1.2.2.2, if_pos (nI_le (Nat.le_refl _) (by omega))]
theorem all_m {F ns nw nb i : Nat} {t : ST} {u : SO} (hF : 2000 ≤ F) (hn : nb ≤ 30) (hi : i < ns) (hO : okM (T_market t) ns nw) (hM : reM (T_market t) u ns nw) (hB : ∀ w, w < nw → T_beliefs t w = O_beliefs u w ∧ rg (T_beliefs t w) 0 9) (hb : O_s u 0 = nI nb) (hs : ∀ k, k < nb → okBag (T_market t) ns (T_book t) (O_s u) k) : f_X6_believedAll F u (nI i) = some (lN (all_n t i nb nw)) := by
  have hw6 := hO.1.2.1
  unfold f_X6_believedAll
  refine run_fg (L := fun n (p : Int64 × Int32) => f_X6_believedAll_L5 F u (nI i) n p.1 p.2) (st := fun k => (lN (all_n t i nb k), nI k)) (N := nw) ?_ ?_ F (by omega)
  · intro n k hk
    show f_X6_believedAll_L5 F u (nI i) (n + 1) _ (nI k) = f_X6_believedAll_L5 F u (nI i) n (lN (all_n t i nb k + wtn t i nb k)) (nI (k + 1))
    have e := bel_n hB hk
    rw [f_X6_believedAll_L5, hM.1.2, if_neg (nI_ge hk (by omega)), ochi_n (by omega) (by omega), made_m (by omega) hn hk hi hO hM hb hs, obd_s, olt_s, cl (by omega), s1, e.2.1, nI_l (by omega), lN_mul, lN_add]
    rfl
  · intro n
    show f_X6_believedAll_L5 F u (nI i) (n + 1) _ (nI nw) = _
    rw [f_X6_believedAll_L5, hM.1.2, if_pos (nI_le (Nat.le_refl _) (by omega))]
theorem sim_odds (F : Nat) (hF : 2000 ≤ F) : ∀ (t : ST) (u : SO) (a1 : Int32) (a2 : Int32) (a3 : Int32), Rel t u → ∃ (r : Int64) (u2 : SO), f_X5_odds F t a1 a2 a3 = some r ∧ f_X6_odds F u a1 a2 a3 = some (r, u2) ∧ Rel t u2 := by
  intro t u a1 a2 a3 hR
  have bad : ∀ r : Int64, ∃ (r_ : Int64) (u2 : SO), (some r : Option Int64) = some r_ ∧ (some (r, uO_thrown u 0) : Option (Int64 × SO)) = some (r_, u2) ∧ Rel t u2 := fun r => ⟨r, _, rfl, rfl, Rel_thr hR⟩
  have hR0 := hR
  obtain ⟨ns, nw, nx, ⟨hM1, hM2⟩, hX, hB, hK, hI, hV, hS, hT⟩ := hR
  have hK0 := hK
  obtain ⟨nb, nt, lk, hn, ⟨h1, h2, h3, h4, h5, h6, h7, h8, h9⟩, hb, ht⟩ := hK
  have hns := hM1.1.1
  have hnw := hM1.1.2.1
  unfold f_X5_odds f_X6_odds
  simp only [olt_s (uO_thrown u 0)]
  rcases isWay_both (F := F) (t := t) (u := uO_thrown u 0) a1 hM1 hM2 with ⟨w, gw1, rfl, gw3, gw4⟩ | ⟨gw3, gw4⟩
  rotate_left
  · rw [gw3, gw4]; exact bad _
  rw [gw3, gw4]; simp only [obd_s]; rw [if_neg one0, if_neg one0]
  rcases isStall_both (F := F) (t := t) (u := uO_thrown u 0) a2 hM1 hM2 with ⟨i, gi1, rfl, gi3, gi4⟩ | ⟨gi3, gi4⟩
  rotate_left
  · rw [gi3, gi4]; exact bad _
  rw [gi3, gi4]; simp only [obd_s]; rw [if_neg one0, if_neg one0]
  rcases isPart_both (F := F) a3 with ⟨gp1, gp3, gp4⟩ | ⟨gp3, gp4⟩
  rotate_left
  · rw [gp3, gp4]; exact bad _
  rw [gp3, gp4]; simp only [obd_s]; rw [if_neg one0, if_neg one0]
  have eb := bagsOf_c (F := F) (nI i) (by omega) hn.1 h1 hb
  have eb2 := bagsOf_m (F := F) (u := uO_thrown u 0) (nI i) (by omega) hn.1 h2 hb
  have em := made_c (F := F) (by omega) hn.1 gw1 gi1 hM1 h1
  have em2 := made_m (F := F) (u := uO_thrown u 0) (by omega) hn.1 gw1 gi1 hM1 hM2 h2 hb
  have ea := all_c (F := F) (u := uO_thrown u 0) hF hn.1 gi1 hM1 hB h1
  have ea2 := all_m (F := F) (u := uO_thrown u 0) hF hn.1 gi1 hM1 hM2 hB h2 hb
  have hcl := cnt_le (fun k => B_bagStall (T_book t) k = nI i) nb
  have hbel := bel_n hB gw1
  unfold f_X5_allWeights
  rw [eb, eb2, em, em2, ea, ea2]
  simp only [obd_s]
  by_cases h6 : cnt (fun k => B_bagStall (T_book t) k = nI i) nb ≤ 6
  · rw [if_pos (show nI (cnt (fun k => B_bagStall (T_book t) k = nI i) nb) ≤ 6 from nI_le (b := 6) h6 (by omega)), if_neg (show ¬ 6 < nI (cnt (fun k => B_bagStall (T_book t) k = nI i) nb) from nI_nlt (a := 6) h6 (by omega)), obd_s]
    have hal := all_le (u := uO_thrown u 0) hB gi1 hM1 h6 nw (Nat.le_refl _)
    have hwl := wtn_le (u := uO_thrown u 0) hB gw1 gi1 hM1 h6
    have hal2 : all_n t i nb nw ≤ 6 * (9 * 600 ^ 6) := Nat.le_trans hal (Nat.mul_le_mul_right _ hnw)
    rcases Nat.eq_zero_or_pos (all_n t i nb nw) with e | e
    · rw [e, if_neg (show ¬ 0 < lg_cmp (lN 0) 0 by decide), if_pos (show lg_cmp (lN 0) 0 = 0 by decide)]
      exact bad _
    · rw [if_pos (show 0 < lg_cmp (lN (all_n t i nb nw)) 0 by rw [lg_cmp_gt, l0, pk_lLT (by omega) (by omega)]; exact e), if_neg (show ¬ lg_cmp (lN (all_n t i nb nw)) 0 = 0 by rw [lg_cmp_eq, lN0 (by omega)]; omega), ochi_n (by omega) (by omega), ochi_n (by omega) (by omega), cl (by omega)]
      have e1 : Int32.toInt64 (T_beliefs t w) * lN (mdn (T_market t) (T_book t) w i nb) = lN (wtn t i nb w) := by
        rw [hbel.1, nI_l (by omega), lN_mul]; rfl
      have e2 : Int32.toInt64 (O_beliefs (uO_thrown u 0) w) * lN (mdn (T_market t) (T_book t) w i nb) = lN (wtn t i nb w) := by
        rw [show O_beliefs (uO_thrown u 0) w = O_beliefs u w from rfl, hbel.2.1, nI_l (by omega), lN_mul]; rfl
      rw [e1, e2]
      obtain ⟨r, r1, r2⟩ := part_both (F := F) hF (a := lN (wtn t i nb w)) (b := lN (all_n t i nb nw)) a3 (by rw [pk_lT (by omega)]; omega) (by rw [pk_lT (by omega)]; omega)
      rw [r1, r2]
      exact ⟨_, _, rfl, rfl, Rel_thr hR0⟩
  · rw [if_neg (show ¬ nI (cnt (fun k => B_bagStall (T_book t) k = nI i) nb) ≤ 6 from nI_ge (a := 6) (by omega) (by omega)), if_pos (show 6 < nI (cnt (fun k => B_bagStall (T_book t) k = nI i) nb) from nI_lt (a := 6) (by omega) (by omega))]
    exact bad _
/-- the way of the greatest weight among the first k + 1 -/
def jb (W : Nat → Nat) : Nat → Nat
  | 0 => 0
  | k + 1 => if W (k + 1) ≤ W (jb W k) then jb W k else k + 1
theorem jb_le (W : Nat → Nat) (k : Nat) : jb W k ≤ k := by
  induction k with
  | zero => exact Nat.le_refl 0
  | succ k ih => show (if W (k + 1) ≤ W (jb W k) then jb W k else k + 1) ≤ k + 1; split <;> omega
theorem sim_judged (F : Nat) (hF : 2000 ≤ F) : ∀ (t : ST) (u : SO) (a1 : Int32), Rel t u → ∃ (r : Int32) (u2 : SO), f_X5_judged F t a1 = some r ∧ f_X6_judged F u a1 = some (r, u2) ∧ Rel t u2 := by
  intro t u a1 hR
  have bad : ∀ r : Int32, ∃ (r_ : Int32) (u2 : SO), (some r : Option Int32) = some r_ ∧ (some (r, uO_thrown u 0) : Option (Int32 × SO)) = some (r_, u2) ∧ Rel t u2 := fun r => ⟨r, _, rfl, rfl, Rel_thr hR⟩
  have hR0 := hR
  obtain ⟨ns, nw, nx, ⟨hM1, hM2⟩, hX, hB, hK, hI, hV, hS, hT⟩ := hR
  have hK0 := hK
  obtain ⟨nb, nt, lk, hn, ⟨h1, h2, h3, h4, h5, h6, h7, h8, h9⟩, hb, ht⟩ := hK
  have hns := hM1.1.1
  have hnw := hM1.1.2.1
  unfold f_X5_judged f_X6_judged
  simp only [olt_s (uO_thrown u 0)]
  rcases isStall_both (F := F) (t := t) (u := uO_thrown u 0) a1 hM1 hM2 with ⟨i, gi1, rfl, gi3, gi4⟩ | ⟨gi3, gi4⟩
  rotate_left
  · rw [gi3, gi4]; exact bad _
  rw [gi3, gi4]; simp only [obd_s]; rw [if_neg one0, if_neg one0]
  have eb := bagsOf_c (F := F) (nI i) (by omega) hn.1 h1 hb
  have eb2 := bagsOf_m (F := F) (u := uO_thrown u 0) (nI i) (by omega) hn.1 h2 hb
  have ea := all_c (F := F) (u := uO_thrown u 0) hF hn.1 gi1 hM1 hB h1
  have ea2 := all_m (F := F) (u := uO_thrown u 0) hF hn.1 gi1 hM1 hM2 hB h2 hb
  have hcl := cnt_le (fun k => B_bagStall (T_book t) k = nI i) nb
  unfold f_X5_allWeights
  rw [eb, eb2, ea, ea2]
  simp only [obd_s]
  by_cases h6 : cnt (fun k => B_bagStall (T_book t) k = nI i) nb ≤ 6
  · rw [if_pos (show nI (cnt (fun k => B_bagStall (T_book t) k = nI i) nb) ≤ 6 from nI_le (b := 6) h6 (by omega)), if_neg (show ¬ 6 < nI (cnt (fun k => B_bagStall (T_book t) k = nI i) nb) from nI_nlt (a := 6) h6 (by omega)), obd_s]
    have hal := all_le (u := uO_thrown u 0) hB gi1 hM1 h6 nw (Nat.le_refl _)
    have hwl := fun w hw => wtn_le (u := uO_thrown u 0) (w := w) hB hw gi1 hM1 h6
    have hal2 : all_n t i nb nw ≤ 6 * (9 * 600 ^ 6) := Nat.le_trans hal (Nat.mul_le_mul_right _ hnw)
    rcases Nat.eq_zero_or_pos (all_n t i nb nw) with e | e
    · rw [e, if_neg (show ¬ 0 < lg_cmp (lN 0) 0 by decide), if_pos (show lg_cmp (lN 0) 0 = 0 by decide)]
      exact bad _
    · rw [if_pos (show 0 < lg_cmp (lN (all_n t i nb nw)) 0 by rw [lg_cmp_gt, l0, pk_lLT (by omega) (by omega)]; exact e), if_neg (show ¬ lg_cmp (lN (all_n t i nb nw)) 0 = 0 by rw [lg_cmp_eq, lN0 (by omega)]; omega)]
      have nw0 : 0 < nw := by
        rcases Nat.eq_zero_or_pos nw with z | z
        · rw [z] at e; exact absurd e (Nat.lt_irrefl 0)
        · exact z
      have e1 : ∀ w, w < nw → Int32.toInt64 (T_beliefs t w) * lN (mdn (T_market t) (T_book t) w i nb) = lN (wtn t i nb w) := by
        intro w hw
        have hbel := bel_n hB hw
        rw [hbel.1, nI_l (by omega), lN_mul]; rfl
      have e2 : ∀ w, w < nw → Int32.toInt64 (O_beliefs (uO_thrown u 0) w) * lN (mdn (T_market t) (T_book t) w i nb) = lN (wtn t i nb w) := by
        intro w hw
        have hbel := bel_n hB hw
        rw [show O_beliefs (uO_thrown u 0) w = O_beliefs u w from rfl, hbel.2.1, nI_l (by omega), lN_mul]; rfl
      have L1 : f_X5_judged_L32 F t (nI i) F (0 : Int32) (-1 : Int64) (0 : Int32) = some (nI (jb (wtn t i nb) (nw - 1))) := by
        obtain ⟨F', hF'⟩ : ∃ q, F = q + 1 := ⟨F - 1, by omega⟩
        have first : f_X5_judged_L32 F t (nI i) F (0 : Int32) (-1 : Int64) (0 : Int32) = f_X5_judged_L32 F t (nI i) F' (nI (jb (wtn t i nb) 0)) (lN (wtn t i nb (jb (wtn t i nb) 0))) (nI (0 + 1)) := by
          have q : f_X5_judged_L32 F t (nI i) (F' + 1) (nI 0) (-1 : Int64) (nI 0) = f_X5_judged_L32 F t (nI i) F' (nI 0) (lN (wtn t i nb 0)) (nI 1) := by
            rw [f_X5_judged_L32, hM1.1.2.2.2, if_neg (nI_ge nw0 (by omega)), ochi_n (by omega) (by omega), made_c (by omega) hn.1 nw0 gi1 hM1 h1, obd_s, cl (by omega), e1 0 nw0, olt_s, s1]
            rw [if_neg]
            rw [lg_cmp_le, Int64.le_iff_toInt_le, pk_lT (by have := hwl 0 nw0; omega)]
            show ¬ (_ : Int) ≤ -1
            omega
          rw [← hF'] at q
          exact q
        rw [first]
        refine run_fg (L := fun n (p : Int32 × Int64 × Int32) => f_X5_judged_L32 F t (nI i) n p.1 p.2.1 p.2.2) (st := fun k => (nI (jb (wtn t i nb) k), lN (wtn t i nb (jb (wtn t i nb) k)), nI (k + 1))) (N := nw - 1) ?_ ?_ F' (by omega)
        · intro n k hk
          show f_X5_judged_L32 F t (nI i) (n + 1) _ _ (nI (k + 1)) = f_X5_judged_L32 F t (nI i) n (nI (if wtn t i nb (k + 1) ≤ wtn t i nb (jb (wtn t i nb) k) then jb (wtn t i nb) k else k + 1)) (lN (wtn t i nb (if wtn t i nb (k + 1) ≤ wtn t i nb (jb (wtn t i nb) k) then jb (wtn t i nb) k else k + 1))) (nI (k + 1 + 1))
          have hj := jb_le (wtn t i nb) k
          have l1 := hwl (k + 1) (by omega)
          have l2 := hwl (jb (wtn t i nb) k) (by omega)
          rw [f_X5_judged_L32, hM1.1.2.2.2, if_neg (nI_ge (show k + 1 < nw by omega) (by omega)), ochi_n (by omega) (by omega), made_c (by omega) hn.1 (show k + 1 < nw by omega) gi1 hM1 h1, obd_s, cl (by omega), e1 (k + 1) (by omega), olt_s, s1]
          have c : lg_cmp (lN (wtn t i nb (k + 1))) (lN (wtn t i nb (jb (wtn t i nb) k))) ≤ 0 ↔ wtn t i nb (k + 1) ≤ wtn t i nb (jb (wtn t i nb) k) := by
            rw [lg_cmp_le, pk_lLE (by omega) (by omega)]
          by_cases h : wtn t i nb (k + 1) ≤ wtn t i nb (jb (wtn t i nb) k)
          · rw [if_pos (c.mpr h), if_pos h]
          · rw [if_neg (fun z => h (c.mp z)), if_neg h]
        · intro n
          show f_X5_judged_L32 F t (nI i) (n + 1) _ _ (nI (nw - 1 + 1)) = _
          rw [f_X5_judged_L32, hM1.1.2.2.2, if_pos (nI_le (by omega) (by omega))]
      have L2 : f_X6_judged_L42 F (nI i) (uO_thrown u 0) F (0 : Int32) (1 : Int32) = some (nI (jb (wtn t i nb) (nw - 1)), uO_thrown u 0) := by
        refine run_fg (L := fun n (p : Int32 × Int32) => f_X6_judged_L42 F (nI i) (uO_thrown u 0) n p.1 p.2) (st := fun k => (nI (jb (wtn t i nb) k), nI (k + 1))) (N := nw - 1) ?_ ?_ F (by omega)
        · intro n k hk
          show f_X6_judged_L42 F (nI i) (uO_thrown u 0) (n + 1) _ (nI (k + 1)) = f_X6_judged_L42 F (nI i) (uO_thrown u 0) n (nI (if wtn t i nb (k + 1) ≤ wtn t i nb (jb (wtn t i nb) k) then jb (wtn t i nb) k else k + 1)) (nI (k + 1 + 1))
          have hj := jb_le (wtn t i nb) k
          have l1 := hwl (k + 1) (by omega)
          have l2 := hwl (jb (wtn t i nb) k) (by omega)
          rw [f_X6_judged_L42, show O_ways (uO_thrown u 0) = nI nw from hM2.1.2, if_neg (nI_ge (show k + 1 < nw by omega) (by omega)), ochi_n (by omega) (by omega), made_m (u := uO_thrown u 0) (by omega) hn.1 (show k + 1 < nw by omega) gi1 hM1 hM2 h2 hb, obd_s, ochi_n (by omega) (by omega), made_m (u := uO_thrown u 0) (by omega) hn.1 (show jb (wtn t i nb) k < nw by omega) gi1 hM1 hM2 h2 hb, obd_s, cl (by omega), cl (by omega), e2 (k + 1) (by omega), e2 (jb (wtn t i nb) k) (by omega), s1]
          have c : lg_cmp (lN (wtn t i nb (k + 1))) (lN (wtn t i nb (jb (wtn t i nb) k))) ≤ 0 ↔ wtn t i nb (k + 1) ≤ wtn t i nb (jb (wtn t i nb) k) := by
            rw [lg_cmp_le, pk_lLE (by omega) (by omega)]
          by_cases h : wtn t i nb (k + 1) ≤ wtn t i nb (jb (wtn t i nb) k)
          · rw [if_pos (c.mpr h), if_pos h]
          · rw [if_neg (fun z => h (c.mp z)), if_neg h]
        · intro n
          show f_X6_judged_L42 F (nI i) (uO_thrown u 0) (n + 1) _ (nI (nw - 1 + 1)) = _
          rw [f_X6_judged_L42, show O_ways (uO_thrown u 0) = nI nw from hM2.1.2, if_pos (nI_le (by omega) (by omega))]
      rw [L1, L2]
      exact ⟨_, _, rfl, rfl, Rel_thr hR0⟩
  · rw [if_neg (show ¬ nI (cnt (fun k => B_bagStall (T_book t) k = nI i) nb) ≤ 6 from nI_ge (a := 6) (by omega) (by omega)), if_pos (show 6 < nI (cnt (fun k => B_bagStall (T_book t) k = nI i) nb) from nI_lt (a := 6) (by omega) (by omega))]
    exact bad _
/-! ===== apart, follow ===== -/
def ab (d : Int32) : Int32 := if 0 ≤ d then d else 0 - d
theorem ab_m {F : Nat} (d : Int32) : ∃ v, f_X6_size F (Int32.toInt64 d) = some v ∧ Int64.toInt32 v = ab d := by
  unfold f_X6_size ab
  have c : 0 ≤ lg_cmp (Int32.toInt64 d) 0 ↔ 0 ≤ d := by
    rw [lg_cmp_ge, Int64.le_iff_toInt_le, Int32.le_iff_toInt_le, Int32.toInt_toInt64]
    exact Iff.rfl
  by_cases h : 0 ≤ d
  · rw [if_pos (c.mpr h), if_pos h]
    exact ⟨_, rfl, lg_l2i_i2l d⟩
  · rw [if_neg (fun z => h (c.mp z)), if_neg h]
    refine ⟨_, rfl, ?_⟩
    rw [show -(Int32.toInt64 d) = 0 - Int32.toInt64 d from (Int64.zero_sub _).symm, lg_l2i_sub, lg_l2i_i2l]
    rfl
def dst (m : SM) (w v i : Nat) (o : Int32) : Nat → Int32
  | 0 => 0
  | k + 1 => dst m w v i o k + ab (oft m w i o (nI k - 1) - oft m v i o (nI k - 1))
theorem m1 (k : Nat) : nI k - 1 + 1 = nI (k + 1) - 1 := by
  rw [Int32.sub_add_cancel, nI_pred]
theorem m1_lt {k : Nat} (hk : k < 1000) (c : Nat) (hc : c < 1000) : (nI c < nI k - 1 ↔ c + 1 < k) ∧ (nI c ≤ nI k - 1 ↔ c + 1 ≤ k) := by
  have e : (nI k - 1).toInt = (k : Int) - 1 := pk_sub_toInt (a := k) (b := 1) (by omega) (by omega)
  rw [Int32.lt_iff_toInt_lt, Int32.le_iff_toInt_le, e, nI_toInt (by omega)]
  omega
theorem dst_c {F ns nw w v i : Nat} {t : ST} (o : Int32) (hF : 2000 ≤ F) (hw : w < nw) (hv : v < nw) (hi : i < ns) (hO : okM (T_market t) ns nw) : f_X5_distance F t (nI w) (nI v) (nI i) o = some (dst (T_market t) w v i o 102) := by
  unfold f_X5_distance
  refine run_fg (L := fun n (p : Int32 × Int32) => f_X5_distance_L6 F t (nI w) (nI v) (nI i) o n p.1 p.2) (st := fun k => (dst (T_market t) w v i o k, nI k - 1)) (N := 102) ?_ ?_ F (by omega)
  · intro n k hk
    show f_X5_distance_L6 F t (nI w) (nI v) (nI i) o (n + 1) _ (nI k - 1) = f_X5_distance_L6 F t (nI w) (nI v) (nI i) o n (dst (T_market t) w v i o k + ab _) (nI (k + 1) - 1)
    rw [f_X5_distance_L6, if_neg (fun z => by have := (m1_lt (k := k) (by omega) 100 (by omega)).1.mp z; omega), oft_c _ _ hw hi hO, oft_c _ _ hv hi hO, obd_s, obd_s, olt_s, m1]
    rfl
  · intro n
    show f_X5_distance_L6 F t (nI w) (nI v) (nI i) o (n + 1) _ (nI 102 - 1) = _
    rw [f_X5_distance_L6, if_pos (show (100 : Int32) < nI 102 - 1 by decide)]
theorem dst_m {F ns nw w v i o : Nat} {m : SM} {u : SO} (hF : 2000 ≤ F) (hw : w < nw) (hv : v < nw) (hi : i < ns) (ho : o ≤ 3) (hO : okM m ns nw) (hM : reM m u ns nw) : f_X6_apartOf F u (nI w) (nI v) (nI i) (nI o) = some (dst m w v i (nI o) 102) := by
  unfold f_X6_apartOf
  refine run_fg (L := fun n (p : Int32 × Int32) => f_X6_apartOf_L6 F u (nI w) (nI v) (nI i) (nI o) n p.1 p.2) (st := fun k => (dst m w v i (nI o) k, nI k - 1)) (N := 102) ?_ ?_ F (by omega)
  · intro n k hk
    show f_X6_apartOf_L6 F u (nI w) (nI v) (nI i) (nI o) (n + 1) _ (nI k - 1) = f_X6_apartOf_L6 F u (nI w) (nI v) (nI i) (nI o) n (dst m w v i (nI o) k + ab _) (nI (k + 1) - 1)
    obtain ⟨x, x1, x2⟩ := ab_m (F := F) (oft m w i (nI o) (nI k - 1) - oft m v i (nI o) (nI k - 1))
    rw [f_X6_apartOf_L6, if_neg (fun z => by have := (m1_lt (k := k) (by omega) 101 (by omega)).2.mp z; omega), oft_m _ hw hi ho hO hM, oft_m _ hv hi ho hO hM, obd_s, obd_s, x1, obd_s, x2, m1]
  · intro n
    show f_X6_apartOf_L6 F u (nI w) (nI v) (nI i) (nI o) (n + 1) _ (nI 102 - 1) = _
    rw [f_X6_apartOf_L6, if_pos (show (101 : Int32) ≤ nI 102 - 1 by decide)]
theorem sim_apart (F : Nat) (hF : 2000 ≤ F) : ∀ (t : ST) (u : SO) (a1 : Int32) (a2 : Int32) (a3 : Int32) (a4 : Int32), Rel t u → ∃ (r : Int32) (u2 : SO), f_X5_apart F t a1 a2 a3 a4 = some r ∧ f_X6_apart F u a1 a2 a3 a4 = some (r, u2) ∧ Rel t u2 := by
  intro t u a1 a2 a3 a4 hR
  have bad : ∀ r : Int32, ∃ (r_ : Int32) (u2 : SO), (some r : Option Int32) = some r_ ∧ (some (r, uO_thrown u 0) : Option (Int32 × SO)) = some (r_, u2) ∧ Rel t u2 := fun r => ⟨r, _, rfl, rfl, Rel_thr hR⟩
  have hR0 := hR
  obtain ⟨ns, nw, nx, ⟨hM1, hM2⟩, hX, hB, hK, hI, hV, hS, hT⟩ := hR
  have hK0 := hK
  obtain ⟨nb, nt, lk, hn, ⟨h1, h2, h3, h4, h5, h6, h7, h8, h9⟩, hb, ht⟩ := hK
  have hns := hM1.1.1
  have hnw := hM1.1.2.1
  unfold f_X5_apart f_X6_apart
  simp only [olt_s (uO_thrown u 0)]
  rcases isWay_both (F := F) (t := t) (u := uO_thrown u 0) a1 hM1 hM2 with ⟨w, gw1, rfl, gw3, gw4⟩ | ⟨gw3, gw4⟩
  rotate_left
  · rw [gw3, gw4]; exact bad _
  rw [gw3, gw4]; simp only [obd_s]; rw [if_neg one0, if_neg one0]
  rcases isWay_both (F := F) (t := t) (u := uO_thrown u 0) a2 hM1 hM2 with ⟨v, gv1, rfl, gv3, gv4⟩ | ⟨gv3, gv4⟩
  rotate_left
  · rw [gv3, gv4]; exact bad _
  rw [gv3, gv4]; simp only [obd_s]; rw [if_neg one0, if_neg one0]
  rcases isStall_both (F := F) (t := t) (u := uO_thrown u 0) a3 hM1 hM2 with ⟨i, gi1, rfl, gi3, gi4⟩ | ⟨gi3, gi4⟩
  rotate_left
  · rw [gi3, gi4]; exact bad _
  rw [gi3, gi4]; simp only [obd_s]; rw [if_neg one0, if_neg one0]
  rcases isSort_both (F := F) a4 with ⟨o, go1, rfl, go3, go4⟩ | ⟨go3, go4⟩
  rotate_left
  · rw [go3, go4]; exact bad _
  rw [go3, go4]; simp only [obd_s]; rw [if_neg one0, if_neg one0]
  rw [dst_c (nI o) hF gw1 gv1 gi1 hM1, dst_m (u := uO_thrown u 0) hF gw1 gv1 gi1 go1 hM1 hM2]
  exact ⟨_, _, rfl, rfl, Rel_thr hR0⟩
def fol (D : Nat → Int32) : Nat → Int32 × Int32
  | 0 => (-9, 0)
  | k + 1 => if D k ≤ (fol D k).2 then fol D k else (nI k, D k)
theorem sim_follow (F : Nat) (hF : 2000 ≤ F) : ∀ (t : ST) (u : SO) (a1 : Int32) (a2 : Int32) (a3 : Int32), Rel t u → ∃ (r : Int32) (u2 : SO), f_X5_follow F t a1 a2 a3 = some r ∧ f_X6_follow F u a1 a2 a3 = some (r, u2) ∧ Rel t u2 := by
  intro t u a1 a2 a3 hR
  have bad : ∀ r : Int32, ∃ (r_ : Int32) (u2 : SO), (some r : Option Int32) = some r_ ∧ (some (r, uO_thrown u 0) : Option (Int32 × SO)) = some (r_, u2) ∧ Rel t u2 := fun r => ⟨r, _, rfl, rfl, Rel_thr hR⟩
  have hR0 := hR
  obtain ⟨ns, nw, nx, ⟨hM1, hM2⟩, hX, hB, hK, hI, hV, hS, hT⟩ := hR
  have hK0 := hK
  obtain ⟨nb, nt, lk, hn, ⟨h1, h2, h3, h4, h5, h6, h7, h8, h9⟩, hb, ht⟩ := hK
  have hns := hM1.1.1
  have hnw := hM1.1.2.1
  unfold f_X5_follow f_X6_follow
  simp only [olt_s (uO_thrown u 0)]
  rcases isWay_both (F := F) (t := t) (u := uO_thrown u 0) a1 hM1 hM2 with ⟨w, gw1, rfl, gw3, gw4⟩ | ⟨gw3, gw4⟩
  rotate_left
  · rw [gw3, gw4]; exact bad _
  rw [gw3, gw4]; simp only [obd_s]; rw [if_neg one0, if_neg one0]
  rcases isWay_both (F := F) (t := t) (u := uO_thrown u 0) a2 hM1 hM2 with ⟨v, gv1, rfl, gv3, gv4⟩ | ⟨gv3, gv4⟩
  rotate_left
  · rw [gv3, gv4]; exact bad _
  rw [gv3, gv4]; simp only [obd_s]; rw [if_neg one0, if_neg one0]
  rcases isStall_both (F := F) (t := t) (u := uO_thrown u 0) a3 hM1 hM2 with ⟨i, gi1, rfl, gi3, gi4⟩ | ⟨gi3, gi4⟩
  rotate_left
  · rw [gi3, gi4]; exact bad _
  rw [gi3, gi4]; simp only [obd_s]; rw [if_neg one0, if_neg one0]
  have L1 : f_X5_follow_L36 F t (nI w) (nI v) (nI i) F (-9 : Int32) (0 : Int32) (0 : Int32) = some (fol (fun o => dst (T_market t) w v i (nI o) 102) 4).1 := by
    refine run_fg (L := fun n (p : (Int32 × Int32) × Int32) => f_X5_follow_L36 F t (nI w) (nI v) (nI i) n p.1.1 p.1.2 p.2) (st := fun k => (fol (fun o => dst (T_market t) w v i (nI o) 102) k, nI k)) (N := 4) ?_ ?_ F (by omega)
    · intro n k hk
      show f_X5_follow_L36 F t (nI w) (nI v) (nI i) (n + 1) _ _ (nI k) = f_X5_follow_L36 F t (nI w) (nI v) (nI i) n (if _ then _ else _ : Int32 × Int32).1 (if _ then _ else _ : Int32 × Int32).2 (nI (k + 1))
      rw [f_X5_follow_L36, if_neg (show ¬ (4 : Int32) ≤ nI k from nI_ge (b := 4) hk (by omega)), dst_c (nI k) hF gw1 gv1 gi1 hM1, obd_s, s1]
      split <;> rfl
    · intro n
      show f_X5_follow_L36 F t (nI w) (nI v) (nI i) (n + 1) _ _ (nI 4) = _
      rw [f_X5_follow_L36, if_pos (show (4 : Int32) ≤ nI 4 by decide)]
  have L2 : f_X6_follow_L41 F (nI w) (nI v) (nI i) (uO_thrown u 0) F (-9 : Int32) (0 : Int32) (0 : Int32) = some ((fol (fun o => dst (T_market t) w v i (nI o) 102) 4).1, uO_thrown u 0) := by
    refine run_fg (L := fun n (p : (Int32 × Int32) × Int32) => f_X6_follow_L41 F (nI w) (nI v) (nI i) (uO_thrown u 0) n p.1.1 p.1.2 p.2) (st := fun k => (fol (fun o => dst (T_market t) w v i (nI o) 102) k, nI k)) (N := 4) ?_ ?_ F (by omega)
    · intro n k hk
      show f_X6_follow_L41 F (nI w) (nI v) (nI i) (uO_thrown u 0) (n + 1) _ _ (nI k) = f_X6_follow_L41 F (nI w) (nI v) (nI i) (uO_thrown u 0) n (if _ then _ else _ : Int32 × Int32).1 (if _ then _ else _ : Int32 × Int32).2 (nI (k + 1))
      rw [f_X6_follow_L41, if_neg (show ¬ (4 : Int32) ≤ nI k from nI_ge (b := 4) hk (by omega)), dst_m (u := uO_thrown u 0) hF gw1 gv1 gi1 (show k ≤ 3 by omega) hM1 hM2, obd_s, s1]
      split <;> rfl
    · intro n
      show f_X6_follow_L41 F (nI w) (nI v) (nI i) (uO_thrown u 0) (n + 1) _ _ (nI 4) = _
      rw [f_X6_follow_L41, if_pos (show (4 : Int32) ≤ nI 4 by decide)]
  rw [L1, L2]
  exact ⟨_, _, rfl, rfl, Rel_thr hR0⟩
