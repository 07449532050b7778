theorem true_m {F ns nw nb i : Nat} {m : SM} {b : SB} {u : SO} (hF : nb < F) (hn : nb ≤ 30) (hi : i < ns) (hO : okM m ns nw) (hM : reM m u ns nw) (hb : O_s u 0 = nI nb) (hs : ∀ k, k < nb → okBag m ns b (O_s u) k) : f_X6_isTrue F u (nI i) = some (if 0 < tlS b i nb - shS b i nb then 1 else 0, ud u (zL (tlS b i nb * prN m i)) (zL (tlS b i nb - shS b i nb))) := by
  have h6 := hO.1.1
  have bt := tl_b (i := i) hn hs
  have bs : -33000 ≤ shS b i nb ∧ shS b i nb ≤ 33000 := sh_b (i := i) 15 hn hO hs
  have ep := pr_e hO hi
  unfold f_X6_isTrue
  rw [olt_s, olt_s]
  refine run_fg (L := fun n (p : Int32 × SO) => f_X6_isTrue_L12 F (nI i) n p.1 p.2) (st := fun k => (nI k, ud u (zL (tlS b i k)) (zL (tlS b i k - shS b i k)))) (N := nb) ?_ ?_ F hF
  · intro n k hk
    show f_X6_isTrue_L12 F (nI i) (n + 1) (nI k) (ud u _ _) = f_X6_isTrue_L12 F (nI i) n (nI (k + 1)) (ud u (zL (tlS b i k + if isq b (nI i) 15 k then _ else _)) (zL (tlS b i k + (if isq b (nI i) 15 k then _ else _) - (shS b i k + if isq b (nI i) 15 k then _ else _))))
    have hsh : ∀ x y, f_X6_shortOf F (ud u x y) (nI k) = some (B_bagShort b k) := fun x y => shortOf_m (F := F) (u := ud u x y) (show k < 30 by omega) h6 (ud_reM hM x y) (hs k hk)
    have hq := isq15 (a := nI i) (hs k hk)
    have b1 := told_b (hs k hk)
    have b2 := short_b hO (hs k hk)
    obtain ⟨i', h', o, td, fd, mn, q1, q2, q3, q4, q5, q6⟩ := hs k hk
    have et : nI td = B_bagTold b k := q5.1.symm
    rw [f_X6_isTrue_L12, c264, k0i, ud_s, hb, if_neg (nI_ge hk (by omega)), bag_0 (by omega), bag_3 (by omega), ud_s, obd_s, obd_s, q2.2, q5.2, s1, et]
    simp only [olt_s, ud_u1, ud_u2, ud_up, ud_dn, hsh, obd_s]
    rw [bag_3 (show k < 30 by omega), obd_s, ud_s, q5.2, et]
    by_cases h : isq b (nI i) 15 k
    · rw [if_pos (q2.1.symm.trans (hq.mp h)), if_pos h, if_pos h, x_l, zL_add, x_l, tS (by omega) (by omega), zL_add]
      congr 2
      congr 1
      omega
    · rw [if_neg (fun z => h (hq.mpr (q2.1.trans z))), if_neg h, if_neg h]
      simp only [Int.add_zero]
  · intro n
    show f_X6_isTrue_L12 F (nI i) (n + 1) (nI nb) (ud u _ _) = _
    have eb2 := fun x y => bagsOf_m (F := F) (u := ud u x y) (nI i) hF hn hb hs
    rw [f_X6_isTrue_L12, c264, k0i, ud_s, hb, if_pos (nI_le (Nat.le_refl _) (by omega)), (is36 (by omega)).1, (is36 (β := Nat) (x := none) (show i < 6 by omega)).2]
    simp only [olt_s, ud_up, ud_dn, ud_u1, ud_st, eb2, obd_s]
    rw [(hM.2.2.1 i hi).2.2, ep.1, nI_l (by omega), lN_z, zL_mul]
    have hcl := cnt_le (fun k => B_bagStall b k = nI i) nb
    have c : lg_cmp (zL (tlS b i nb - shS b i nb)) 0 ≤ 0 ↔ ¬ 0 < tlS b i nb - shS b i nb := by
      rw [lg_cmp_le, Int64.le_iff_toInt_le, zL_t (by omega) (by omega)]
      show _ ≤ (0 : Int) ↔ _
      omega
    rcases Nat.eq_zero_or_pos (cnt (fun k => B_bagStall b k = nI i) nb) with e | e
    · have e2 : cnt (isq b (nI i) 15) nb = 0 := by rw [← e]; exact cnt_congr (fun k hk => isq15 (hs k hk))
      have z1 : tlS b i nb = 0 := zs_nil _ e2
      have z2 : shS b i nb = 0 := zs_nil _ e2
      rw [e, if_pos (show nI 0 ≤ 0 by decide), z1, z2]
      rfl
    · rw [if_neg (nI_nle e (by omega))]
      show (if lg_cmp (zL (tlS b i nb - shS b i nb)) 0 ≤ 0 then some ((0 : Int32), ud u (zL (tlS b i nb * prN m i)) (zL (tlS b i nb - shS b i nb))) else some ((1 : Int32), ud u (zL (tlS b i nb * prN m i)) (zL (tlS b i nb - shS b i nb)))) = _
      by_cases h : 0 < tlS b i nb - shS b i nb
      · rw [if_neg (fun z => c.mp z h), if_pos h]
      · rw [if_pos (c.mpr h), if_neg h]
theorem sim_truly (F : Nat) (hF : 2000 ≤ F) : ∀ (t : ST) (u : SO) (a1 : Int32) (a2 : Int32), Rel t u → ∃ (r : Int64) (u2 : SO), f_X5_truly F t a1 a2 = some r ∧ f_X6_truly F u a1 a2 = some (r, u2) ∧ Rel t u2 := by
  intro t u a1 a2 hR
  have bad : ∀ r : Int64, ∃ (r_ : Int64) (u2 : SO), (some r : Option Int64) = some r_ ∧ (some (r, uO_thrown u 0) : Option (Int64 × SO)) = some (r_, u2) ∧ Rel t u2 := fun r => ⟨r, _, rfl, rfl, Rel_thr hR⟩
  have hR0 := hR
  obtain ⟨ns, nw, nx, ⟨hM1, hM2⟩, hX, hB, hK, hI, hV, hS, hT⟩ := hR
  have hK0 := hK
  obtain ⟨nb, nt, lk, hn, ⟨h1, h2, h3, h4, h5, h6, h7, h8, h9⟩, hb, ht⟩ := hK
  have hns := hM1.1.1
  have hnw := hM1.1.2.1
  unfold f_X5_truly f_X6_truly
  simp only [olt_s (uO_thrown u 0)]
  rcases isStall_both (F := F) (t := t) (u := uO_thrown u 0) a1 hM1 hM2 with ⟨i, gi1, rfl, gi3, gi4⟩ | ⟨gi3, gi4⟩
  rotate_left
  · rw [gi3, gi4]; exact bad _
  rw [gi3, gi4]; simp only [obd_s]; rw [if_neg one0, if_neg one0]
  rcases isPart_both (F := F) a2 with ⟨gp1, gp3, gp4⟩ | ⟨gp3, gp4⟩
  rotate_left
  · rw [gp3, gp4]; exact bad _
  rw [gp3, gp4]; simp only [obd_s]; rw [if_neg one0, if_neg one0]
  have bt := tl_b (i := i) hn.1 hb
  have bs : -33000 ≤ shS (T_book t) i nb ∧ shS (T_book t) i nb ≤ 33000 := sh_b (i := i) 15 hn.1 hM1 hb
  have ep := pr_e hM1 gi1
  have e1 := paid_c (F := F) (by omega) hn.1 gi1 hM1 h1 hb
  have e2 := given_c (F := F) (i := i) (by omega) hn.1 hM1 h1 hb
  have e3 := true_m (F := F) (u := uO_thrown u 0) (by omega) hn.1 gi1 hM1 hM2 h2 hb
  rw [e1, e2, e3]
  simp only [obd_s]
  have c : 0 < lg_cmp (zL (tlS (T_book t) i nb - shS (T_book t) i nb)) 0 ↔ 0 < tlS (T_book t) i nb - shS (T_book t) i nb := by
    rw [lg_cmp_gt, Int64.lt_iff_toInt_lt, zL_t (by omega) (by omega)]
    exact Iff.rfl
  by_cases h : 0 < tlS (T_book t) i nb - shS (T_book t) i nb
  · rw [if_pos (c.mpr h), if_pos h, if_neg one0, ud_up, ud_dn]
    have b1 : tlS (T_book t) i nb * prN (T_market t) i ≤ 30000 * 99 := Int.mul_le_mul bt.2 (by omega) (by omega) (by omega)
    have b0 : 0 ≤ tlS (T_book t) i nb * prN (T_market t) i := Int.mul_nonneg bt.1 (by omega)
    obtain ⟨r, r1, r2⟩ := part_both (F := F) hF (a := zL (tlS (T_book t) i nb * prN (T_market t) i)) (b := zL (tlS (T_book t) i nb - shS (T_book t) i nb)) a2 (by rw [zL_t (by omega) (by omega)]; omega) (by rw [zL_t (by omega) (by omega)]; omega)
    rw [r1, r2]
    exact ⟨_, _, rfl, rfl, ud_Rel (Rel_thr hR0) _ _⟩
  · rw [if_neg (fun z => h (c.mp z)), if_neg h, if_pos rfl]
    exact ⟨_, _, rfl, rfl, ud_Rel (Rel_thr hR0) _ _⟩
/-- the better of two prices, as the loops choose -/
def chp (P D : Nat → Int64) (q : Nat → Prop) [DecidablePred q] : Nat → Int32 × Int64 × Int64
  | 0 => (-9, 0, 1)
  | k + 1 =>
    let c := chp P D q k
    if q k then (if c.1 = -9 then (nI k, P k, D k) else if 0 ≤ lg_cmp (P k * c.2.2) (c.2.1 * D k) then c else (nI k, P k, D k)) else c
theorem sim_cheap (F : Nat) (hF : 2000 ≤ F) : ∀ (t : ST) (u : SO), Rel t u → ∃ (r : Int32) (u2 : SO), f_X5_cheap F t = some r ∧ f_X6_cheap F u = some (r, u2) ∧ Rel t u2 := by
  intro t u hR
  have bad : ∀ r : Int32, ∃ (r_ : Int32) (u2 : SO), (some r : Option Int32) = some r_ ∧ (some (r, uO_thrown u 0) : Option (Int32 × SO)) = some (r_, u2) ∧ Rel t u2 := fun r => ⟨r, _, rfl, rfl, Rel_thr hR⟩
  have hR0 := hR
  obtain ⟨ns, nw, nx, ⟨hM1, hM2⟩, hX, hB, hK, hI, hV, hS, hT⟩ := hR
  have hK0 := hK
  obtain ⟨nb, nt, lk, hn, ⟨h1, h2, h3, h4, h5, h6, h7, h8, h9⟩, hb, ht⟩ := hK
  have hns := hM1.1.1
  have hnw := hM1.1.2.1
  unfold f_X5_cheap f_X6_cheap
  simp only [olt_s (uO_thrown u 0)]
  have bt := fun i => tl_b (i := i) hn.1 hb
  have bs : ∀ i, -33000 ≤ shS (T_book t) i nb ∧ shS (T_book t) i nb ≤ 33000 := fun i => sh_b (i := i) 15 hn.1 hM1 hb
  generalize hC : (fun k => chp (fun i => zL (tlS (T_book t) i nb * prN (T_market t) i)) (fun i => zL (tlS (T_book t) i nb - shS (T_book t) i nb)) (fun i => 0 < tlS (T_book t) i nb - shS (T_book t) i nb) k) = C
  have hC0 : C 0 = (-9, 0, 1) := by rw [← hC]; rfl
  have hCs : ∀ k, C (k + 1) = if 0 < tlS (T_book t) k nb - shS (T_book t) k nb then (if (C k).1 = -9 then (nI k, zL (tlS (T_book t) k nb * prN (T_market t) k), zL (tlS (T_book t) k nb - shS (T_book t) k nb)) else if 0 ≤ lg_cmp (zL (tlS (T_book t) k nb * prN (T_market t) k) * (C k).2.2) ((C k).2.1 * zL (tlS (T_book t) k nb - shS (T_book t) k nb)) then C k else (nI k, zL (tlS (T_book t) k nb * prN (T_market t) k), zL (tlS (T_book t) k nb - shS (T_book t) k nb))) else C k := by intro k; rw [← hC]; rfl
  have L1 : f_X5_cheap_L11 F t F (-9 : Int32) (0 : Int64) (1 : Int64) (0 : Int32) = some (C ns).1 := by
    have e : f_X5_cheap_L11 F t F (C 0).1 (C 0).2.1 (C 0).2.2 (nI 0) = some (C ns).1 := by
      refine run_fg (L := fun n (p : (Int32 × Int64 × Int64) × Int32) => f_X5_cheap_L11 F t n p.1.1 p.1.2.1 p.1.2.2 p.2) (st := fun k => (C k, nI k)) (N := ns) ?_ ?_ F (by omega)
      · intro n k hk
        show f_X5_cheap_L11 F t (n + 1) (C k).1 (C k).2.1 (C k).2.2 (nI k) = f_X5_cheap_L11 F t n (C (k + 1)).1 (C (k + 1)).2.1 (C (k + 1)).2.2 (nI (k + 1))
        have b1 := bt k
        have b2 := bs k
        have c : lg_cmp (zL (tlS (T_book t) k nb - shS (T_book t) k nb)) 0 ≤ 0 ↔ ¬ 0 < tlS (T_book t) k nb - shS (T_book t) k nb := by
          rw [lg_cmp_le, Int64.le_iff_toInt_le, zL_t (by omega) (by omega)]
          show _ ≤ (0 : Int) ↔ _
          omega
        rw [f_X5_cheap_L11, hM1.1.2.2.1, if_neg (nI_ge hk (by omega)), paid_c (F := F) (by omega) hn.1 hk hM1 h1 hb, given_c (F := F) (i := k) (by omega) hn.1 hM1 h1 hb, obd_s, obd_s, hCs k]
        simp only [olt_s, s1]
        by_cases h : 0 < tlS (T_book t) k nb - shS (T_book t) k nb
        · rw [if_neg (fun z => c.mp z h), if_pos h]
          split
          · rfl
          · split <;> rfl
        · rw [if_pos (c.mpr h), if_neg h]
      · intro n
        show f_X5_cheap_L11 F t (n + 1) _ _ _ (nI ns) = _
        rw [f_X5_cheap_L11, hM1.1.2.2.1, if_pos (nI_le (Nat.le_refl _) (by omega))]
    rw [hC0] at e
    exact e
  have L2 : ∃ x y, f_X6_cheap_L16 F F (-9 : Int32) (0 : Int64) (1 : Int64) (0 : Int32) (uO_thrown u 0) = some ((C ns).1, ud (uO_thrown u 0) x y) := by
    obtain ⟨b, q, ⟨x, y, e1⟩, e2⟩ := run_ex (L := fun n (p : (Int32 × Int64 × Int64) × Int32 × SO) => f_X6_cheap_L16 F n p.1.1 p.1.2.1 p.1.2.2 p.2.1 p.2.2) (R := fun k p => ∃ x y, p = (C k, nI k, ud (uO_thrown u 0) x y)) (N := ns) (by
      rintro n k a hk ⟨x, y, rfl⟩
      refine ⟨(C (k + 1), nI (k + 1), ud (uO_thrown u 0) (zL (tlS (T_book t) k nb * prN (T_market t) k)) (zL (tlS (T_book t) k nb - shS (T_book t) k nb))), ⟨_, _, rfl⟩, ?_⟩
      show f_X6_cheap_L16 F (n + 1) (C k).1 (C k).2.1 (C k).2.2 (nI k) (ud (uO_thrown u 0) x y) = f_X6_cheap_L16 F n (C (k + 1)).1 (C (k + 1)).2.1 (C (k + 1)).2.2 (nI (k + 1)) (ud (uO_thrown u 0) _ _)
      rw [f_X6_cheap_L16, ud_sts, show O_stalls (uO_thrown u 0) = nI ns from hM2.1.1, if_neg (nI_ge hk (by omega)), true_m (F := F) (u := ud (uO_thrown u 0) x y) (by omega) hn.1 hk hM1 (ud_reM hM2 x y) h2 hb, obd_s, s1, hCs k]
      simp only [ud_ud, ud_up, ud_dn, olt_s, s1]
      by_cases h : 0 < tlS (T_book t) k nb - shS (T_book t) k nb
      · rw [if_pos h, if_neg one0, if_pos h]
        split
        · rfl
        · split <;> rfl
      · rw [if_neg h, if_pos rfl, if_neg h]) F (C 0, nI 0, uO_thrown u 0) ⟨_, _, by rw [ud_eta]⟩ (by omega)
    refine ⟨x, y, ?_⟩
    have e3 : f_X6_cheap_L16 F F (C 0).1 (C 0).2.1 (C 0).2.2 (nI 0) (uO_thrown u 0) = f_X6_cheap_L16 F (q + 1) b.1.1 b.1.2.1 b.1.2.2 b.2.1 b.2.2 := e2
    rw [hC0] at e3
    refine Eq.trans e3 ?_
    rw [e1, f_X6_cheap_L16, ud_sts, show O_stalls (uO_thrown u 0) = nI ns from hM2.1.1, if_pos (nI_le (Nat.le_refl _) (by omega))]
  obtain ⟨x, y, L2⟩ := L2
  rw [L1, L2]
  exact ⟨_, _, rfl, rfl, ud_Rel (Rel_thr hR0) _ _⟩
theorem sim_favoured (F : Nat) (hF : 2000 ≤ F) : ∀ (t : ST) (u : SO) (a1 : Int32), Rel t u → ∃ (r : Int32) (u2 : SO), f_X5_favoured F t a1 = some r ∧ f_X6_favoured F u a1 = some (r, u2) ∧ Rel t u2 := by
  intro t u a1 hR
  have bad : ∀ r : Int32, ∃ (r_ : Int32) (u2 : SO), (some r : Option Int32) = some r_ ∧ (some (r, uO_thrown u 0) : Option (Int32 × SO)) = some (r_, u2) ∧ Rel t u2 := fun r => ⟨r, _, rfl, rfl, Rel_thr hR⟩
  have hR0 := hR
  obtain ⟨ns, nw, nx, ⟨hM1, hM2⟩, hX, hB, hK, hI, hV, hS, hT⟩ := hR
  have hK0 := hK
  obtain ⟨nb, nt, lk, hn, ⟨h1, h2, h3, h4, h5, h6, h7, h8, h9⟩, hb, ht⟩ := hK
  have hns := hM1.1.1
  have hnw := hM1.1.2.1
  unfold f_X5_favoured f_X6_favoured
  simp only [olt_s (uO_thrown u 0)]
  rcases isStall_both (F := F) (t := t) (u := uO_thrown u 0) a1 hM1 hM2 with ⟨i, gi1, rfl, gi3, gi4⟩ | ⟨gi3, gi4⟩
  rotate_left
  · rw [gi3, gi4]; exact bad _
  rw [gi3, gi4]; simp only [obd_s]; rw [if_neg one0, if_neg one0]
  have bs := fun q => sh_b (i := i) q hn.1 hM1 hb
  have cl30 := fun q => cnt_le (isq (T_book t) (nI i) q) nb
  generalize hC : (fun k => chp (fun q => zL (zs (isq (T_book t) (nI i) ((1 : Int32) <<< (nI q &&& 31))) (fun k => (B_bagShort (T_book t) k).toInt) nb)) (fun q => lN (cnt (isq (T_book t) (nI i) ((1 : Int32) <<< (nI q &&& 31))) nb)) (fun q => 0 < cnt (isq (T_book t) (nI i) ((1 : Int32) <<< (nI q &&& 31))) nb) k) = C
  generalize hS' : (fun q : Nat => zs (isq (T_book t) (nI i) ((1 : Int32) <<< (nI q &&& 31))) (fun k => (B_bagShort (T_book t) k).toInt)) = S at hC
  have hCs : ∀ k, C (k + 1) = if 0 < cnt (isq (T_book t) (nI i) ((1 : Int32) <<< (nI k &&& 31))) nb then (if (C k).1 = -9 then (nI k, zL (S k nb), lN (cnt (isq (T_book t) (nI i) ((1 : Int32) <<< (nI k &&& 31))) nb)) else if 0 ≤ lg_cmp (zL (S k nb) * (C k).2.2) ((C k).2.1 * lN (cnt (isq (T_book t) (nI i) ((1 : Int32) <<< (nI k &&& 31))) nb)) then C k else (nI k, zL (S k nb), lN (cnt (isq (T_book t) (nI i) ((1 : Int32) <<< (nI k &&& 31))) nb))) else C k := by intro k; rw [← hC, ← hS']; rfl
  have hC0 : C 0 = (-9, 0, 1) := by rw [← hC]; rfl
  have cc : ∀ k, lg_cmp (lN (cnt (isq (T_book t) (nI i) ((1 : Int32) <<< (nI k &&& 31))) nb)) 0 ≤ 0 ↔ ¬ 0 < cnt (isq (T_book t) (nI i) ((1 : Int32) <<< (nI k &&& 31))) nb := by
    intro k
    have := cl30 ((1 : Int32) <<< (nI k &&& 31))
    rw [lg_cmp_le, l0, pk_lLE (by omega) (by omega)]
    omega
  have L1 : f_X5_favoured_L21 F t (nI i) F (-9 : Int32) (0 : Int64) (1 : Int64) (0 : Int32) = some (C 4).1 := by
    have e : f_X5_favoured_L21 F t (nI i) F (C 0).1 (C 0).2.1 (C 0).2.2 (nI 0) = some (C 4).1 := by
      refine run_fg (L := fun n (p : (Int32 × Int64 × Int64) × Int32) => f_X5_favoured_L21 F t (nI i) n p.1.1 p.1.2.1 p.1.2.2 p.2) (st := fun k => (C k, nI k)) (N := 4) ?_ ?_ F (by omega)
      · intro n k hk
        show f_X5_favoured_L21 F t (nI i) (n + 1) (C k).1 (C k).2.1 (C k).2.2 (nI k) = f_X5_favoured_L21 F t (nI i) n (C (k + 1)).1 (C (k + 1)).2.1 (C (k + 1)).2.2 (nI (k + 1))
        have b2 := bs ((1 : Int32) <<< (nI k &&& 31))
        have b3 := cl30 ((1 : Int32) <<< (nI k &&& 31))
        rw [f_X5_favoured_L21, if_neg (show ¬ (4 : Int32) ≤ nI k from nI_ge (b := 4) hk (by omega)), bagsOf_q (F := F) _ _ (by omega) hn.1 h1, shortsOf_q (F := F) _ _ (by omega) hn.1 h1, obd_s, obd_s, nI_l (by omega), zI_l (by omega) (by omega), hCs k, ← hS']
        simp only [olt_s, s1]
        by_cases h : 0 < cnt (isq (T_book t) (nI i) ((1 : Int32) <<< (nI k &&& 31))) nb
        · rw [if_neg (fun z => (cc k).mp z h), if_pos h]
          split
          · rfl
          · split <;> rfl
        · rw [if_pos ((cc k).mpr h), if_neg h]
      · intro n
        show f_X5_favoured_L21 F t (nI i) (n + 1) _ _ _ (nI 4) = _
        rw [f_X5_favoured_L21, if_pos (show (4 : Int32) ≤ nI 4 by decide)]
    rw [hC0] at e
    exact e
  have L2 : f_X6_favoured_L26 F (nI i) (uO_thrown u 0) F (-9 : Int32) (0 : Int64) (1 : Int64) (0 : Int32) = some ((C 4).1, uO_thrown u 0) := by
    have e : f_X6_favoured_L26 F (nI i) (uO_thrown u 0) F (C 0).1 (C 0).2.1 (C 0).2.2 (nI 0) = some ((C 4).1, uO_thrown u 0) := by
      refine run_fg (L := fun n (p : (Int32 × Int64 × Int64) × Int32) => f_X6_favoured_L26 F (nI i) (uO_thrown u 0) n p.1.1 p.1.2.1 p.1.2.2 p.2) (st := fun k => (C k, nI k)) (N := 4) ?_ ?_ F (by omega)
      · intro n q hq
        show f_X6_favoured_L26 F (nI i) (uO_thrown u 0) (n + 1) (C q).1 (C q).2.1 (C q).2.2 (nI q) = f_X6_favoured_L26 F (nI i) (uO_thrown u 0) n (C (q + 1)).1 (C (q + 1)).2.1 (C (q + 1)).2.2 (nI (q + 1))
        rw [f_X6_favoured_L26, if_neg (show ¬ (4 : Int32) ≤ nI q from nI_ge (b := 4) hq (by omega))]
        refine run_fg (L := fun n2 (p : Int64 × Int64 × Int32) => f_X6_favoured_L41 F (nI i) (uO_thrown u 0) (f_X6_favoured_L26 F (nI i) (uO_thrown u 0) n) n2 (C q).1 (C q).2.1 (C q).2.2 (nI q) p.1 p.2.1 p.2.2) (st := fun k => (zL (zs (isq (T_book t) (nI i) ((1 : Int32) <<< (nI q &&& 31))) (fun k => (B_bagShort (T_book t) k).toInt) k), lN (cnt (isq (T_book t) (nI i) ((1 : Int32) <<< (nI q &&& 31))) k), nI k)) (N := nb) ?_ ?_ F (by omega)
        · intro n2 k hk
          show f_X6_favoured_L41 F (nI i) (uO_thrown u 0) _ (n2 + 1) _ _ _ _ _ _ (nI k) = f_X6_favoured_L41 F (nI i) (uO_thrown u 0) _ n2 _ _ _ _ (zL (zs (isq (T_book t) (nI i) ((1 : Int32) <<< (nI q &&& 31))) (fun k => (B_bagShort (T_book t) k).toInt) k + if isq (T_book t) (nI i) ((1 : Int32) <<< (nI q &&& 31)) k then (B_bagShort (T_book t) k).toInt else 0)) (lN (cnt (isq (T_book t) (nI i) ((1 : Int32) <<< (nI q &&& 31))) k + if isq (T_book t) (nI i) ((1 : Int32) <<< (nI q &&& 31)) k then 1 else 0)) (nI (k + 1))
          have hsh := shortOf_m (F := F) (u := uO_thrown u 0) (show k < 30 by omega) hns hM2 (hb k hk)
          have hiq := isqq (q := q) (a := nI i) (by omega) (hb k hk)
          obtain ⟨i', h', o, td, fd, mn, q1, q2, q3, q4, q5⟩ := hb k hk
          rw [f_X6_favoured_L41, c264, k0i, show O_s (uO_thrown u 0) 0 = nI nb from h2, if_neg (nI_ge hk (by omega)), hsh, bag_0 (by omega), bag_2 (by omega), obd_s, obd_s, show O_s (uO_thrown u 0) (1 + 6 * k) = nI i' from q2.2, show O_s (uO_thrown u 0) (3 + 6 * k) = nI o from q4.2, s1, obd_s]
          rw [q2.1, q4.1] at hiq
          by_cases h : isq (T_book t) (nI i) ((1 : Int32) <<< (nI q &&& 31)) k
          · rw [if_pos (hiq.mp h).1, if_pos (hiq.mp h).2, obd_s, if_neg one0, obd_s, if_neg one0, if_pos h, if_pos h, x_l, zL_add, lN_1]
          · have hx : (if nI i' = nI i then (if nI o = nI q then some (1 : Int32) else some 0) else some 0) = some 0 := by
              by_cases g1 : nI i' = nI i
              · rw [if_pos g1, if_neg (fun g2 => h (hiq.mpr ⟨g1, g2⟩))]
              · rw [if_neg g1]
            rw [hx, obd_s, if_pos rfl, obd_s, if_pos rfl, if_neg h, if_neg h, a0L, a0L, Int.add_zero] <;> rfl
        · intro n2
          show f_X6_favoured_L41 F (nI i) (uO_thrown u 0) _ (n2 + 1) _ _ _ _ _ _ (nI nb) = _
          rw [f_X6_favoured_L41, c264, k0i, show O_s (uO_thrown u 0) 0 = nI nb from h2, if_pos (nI_le (Nat.le_refl _) (by omega)), hCs q, ← hS']
          simp only [olt_s, s1]
          by_cases h : 0 < cnt (isq (T_book t) (nI i) ((1 : Int32) <<< (nI q &&& 31))) nb
          · rw [if_neg (fun z => (cc q).mp z h), if_pos h]
            split
            · rfl
            · split <;> rfl
          · rw [if_pos ((cc q).mpr h), if_neg h]
      · intro n
        show f_X6_favoured_L26 F (nI i) (uO_thrown u 0) (n + 1) _ _ _ (nI 4) = _
        rw [f_X6_favoured_L26, if_pos (show (4 : Int32) ≤ nI 4 by decide)]
    rw [hC0] at e
    exact e
  rw [L1, L2]
  exact ⟨_, _, rfl, rfl, Rel_thr hR0⟩
