section
/-! ===== the next TOKEN, by the class and by the reference ===== -/
theorem lx_run {n : Nat} (q : Nat → Prop) : ∀ d p, p + d = n → ∃ A, p ≤ A ∧ A ≤ n ∧ (∀ j, p ≤ j → j < A → q j) ∧ (A < n → ¬ q A) := by
  intro d
  induction d with
  | zero => intro p h; exact ⟨p, by omega, by omega, fun j h1 h2 => absurd h2 (by omega), fun h1 => absurd h1 (by omega)⟩
  | succ d ih =>
    intro p h
    by_cases c : q p
    · obtain ⟨A, h1, h2, h3, h4⟩ := ih (p + 1) (by omega)
      refine ⟨A, by omega, h2, fun j j1 j2 => ?_, h4⟩
      by_cases e : j = p
      · subst e; exact c
      · exact h3 j (by omega) j2
    · exact ⟨p, by omega, by omega, fun j h1 h2 => absurd h2 (by omega), fun _ => c⟩
def lx_nK (F : Nat) (s4 : SR) : Option SR :=
    olt (R_place s4) (fun z5 =>
    olt (uR_after s4 z5) (fun s6 =>
    obd (f_X3_signAt F s6 (R_place s6)) (fun v7 =>
    olt (uR_sign s6 v7) (fun s9 =>
    olt (fun (s10 : SR) =>
    (if (R_sign s10) = (2 : Int32) then
    obd (f_X3_valueNumber F s10) (fun v12 =>
    some v12)
    else
    some s10)) (fun k14 =>
    (if (R_sign s9) = (1 : Int32) then
    f_X3_next_L82 F k14 F s9
    else
    (if (R_sign s9) = (2 : Int32) then
    f_X3_next_L82 F k14 F s9
    else
    (if (R_sign s9) = 0 then
    k14 s9
    else
    olt ((R_after s9) + (1 : Int32)) (fun z25 =>
    olt (uR_after s9 z25) (fun s26 =>
    k14 s26))))))))))
def lx_nE (F : Nat) (s10 : SR) : Option SR := if (R_sign s10) = (2 : Int32) then obd (f_X3_valueNumber F s10) (fun v12 => some v12) else some s10
theorem lx_L8 (F n : Nat) (s : SR) : f_X3_next_L8 F (n + 1) s = (if (R_length s) ≤ (R_place s) then lx_nK F s else ochi (R_place s) 400 (if ((R_text s) (Int32.toNatClampNeg (R_place s))) = (32 : Int32) then f_X3_next_L8 F n (uR_place s ((R_place s) + (1 : Int32))) else lx_nK F s)) := rfl
theorem lx_nKe (F : Nat) (s : SR) : lx_nK F s = obd (f_X3_signAt F (uR_after s (R_place s)) (R_place s)) (fun v7 => if v7 = 1 then f_X3_next_L82 F (lx_nE F) F (uR_sign (uR_after s (R_place s)) v7) else if v7 = 2 then f_X3_next_L82 F (lx_nE F) F (uR_sign (uR_after s (R_place s)) v7) else if v7 = 0 then lx_nE F (uR_sign (uR_after s (R_place s)) v7) else lx_nE F (uR_after (uR_sign (uR_after s (R_place s)) v7) (R_place s + 1))) := rfl
def lx_aK (F : Nat) (s6 : SO) : Option SO :=
    obd (f_X6_byteAt F s6 (O_next s6)) (fun v7 =>
    (if 0 ≤ v7 then
    obd (f_X6_in F v7 (97 : Int32) (122 : Int32)) (fun v10 =>
    (if v10 = 0 then
    obd (f_X6_in F v7 (48 : Int32) (57 : Int32)) (fun v13 =>
    (if v13 = 0 then
    olt ((O_next s6) + (1 : Int32)) (fun z16 =>
    olt (uO_next s6 z16) (fun s17 =>
    obd ((if v7 = (59 : Int32) then
    some (3 : Int32)
    else
    some (4 : Int32))) (fun v19 =>
    olt (uO_token s17 v19) (fun s21 =>
    some s21))))
    else
    olt (uO_value s6 (0 : Int32)) (fun s22 =>
    f_X6_advances_L184 F v7 F s22)))
    else
    f_X6_advances_L68 F F (0 : Int64) s6))
    else
    olt (uO_token s6 (0 : Int32)) (fun s75 =>
    some s75)))
theorem lx_L0 (F n : Nat) (s : SO) : f_X6_advances_L0 F (n + 1) s = obd (f_X6_byteAt F s (O_next s)) (fun v2 => if v2 = (32 : Int32) then f_X6_advances_L0 F n (uO_next s ((O_next s) + (1 : Int32))) else lx_aK F (uO_place s (O_next s))) := rfl
theorem lx_byte {F j n c : Nat} {u : SO} (hl : O_typed u = nI n) (hn : n ≤ 400) (hj : j < n) (ht : O_text u j = nI c) : f_X6_byteAt F u (nI j) = some (nI c) := by
  unfold f_X6_byteAt
  rw [hl, if_neg (nI_ge hj (by omega)), ochi_n (by omega) (by omega), cl (by omega), ht]
theorem lx_byteE {F n : Nat} {u : SO} (hl : O_typed u = nI n) (hn : n ≤ 400) : f_X6_byteAt F u (nI n) = some (-1) := by
  unfold f_X6_byteAt
  rw [hl, if_pos (nI_le (Nat.le_refl _) (by omega))]
theorem lx_in {F c lo hi : Nat} (a d : Int32) (ha : a = nI lo) (hd : d = nI hi) (h1 : c ≤ 999) (h2 : lo ≤ 999) (h3 : hi ≤ 999) : f_X6_in F (nI c) a d = some (if lo ≤ c ∧ c ≤ hi then 1 else 0) := by
  subst ha; subst hd
  rw [in_eq]
  simp only [i_le (show lo < 2 ^ 31 by omega) (show c < 2 ^ 31 by omega), i_le (show c < 2 ^ 31 by omega) (show hi < 2 ^ 31 by omega)]
theorem lx_inE (F : Nat) : f_X6_in F (-1) 97 122 = some 0 ∧ f_X6_in F (-1) 48 57 = some 0 := by
  rw [in_eq, in_eq]
  decide
/-! spaces -/
theorem lx_skC {F n P af : Nat} {tx : Nat → Int32} {b : Nat → Nat} {m : SM} {lt sg vl tk : Int32} (hb : ∀ j, tx j = nI (b j) ∧ b j ≤ 255) (hn : n ≤ 400) (hP : P ≤ n) (h2 : P < n → b P ≠ 32) : ∀ d q nf, q + d = P → d < nf → (∀ j, q ≤ j → j < P → b j = 32) → f_X3_next_L8 F nf (sR tx m n lt sg q af vl tk) = lx_nK F (sR tx m n lt sg P af vl tk) := by
  intro d
  induction d with
  | zero =>
    intro q nf hq hnf h
    obtain ⟨nf, rfl⟩ : ∃ x, nf = x + 1 := ⟨nf - 1, by omega⟩
    have e : q = P := by omega
    subst e
    rw [lx_L8]
    simp only [yR_text, yR_into, yR_length, yR_luckTold, yR_sign, yR_place, yR_after, yR_value, yR_taken, vR_into, vR_luckTold, vR_sign, vR_value, vR_taken, vR_place, vR_after]
    by_cases c : q < n
    · rw [if_neg (nI_ge c (by omega)), ochi_n (by omega) (by omega), cl (by omega), (hb q).1, if_neg (show ¬ nI (b q) = (32 : Int32) from fun z => h2 c ((nI_eq (a := b q) (b := 32) (by have := (hb q).2; omega) (by omega)).mp z))]
    · rw [if_pos (nI_le (by omega) (by omega))]
  | succ d ih =>
    intro q nf hq hnf h
    obtain ⟨nf, rfl⟩ : ∃ x, nf = x + 1 := ⟨nf - 1, by omega⟩
    rw [lx_L8]
    simp only [yR_text, yR_into, yR_length, yR_luckTold, yR_sign, yR_place, yR_after, yR_value, yR_taken, vR_into, vR_luckTold, vR_sign, vR_value, vR_taken, vR_place, vR_after, s1]
    rw [if_neg (nI_ge (by omega) (by omega)), ochi_n (by omega) (by omega), cl (by omega), (hb q).1, if_pos (show nI (b q) = (32 : Int32) from congrArg nI (h q (by omega) (by omega)))]
    exact ih (q + 1) nf (by omega) (by omega) (fun j j1 j2 => h j (by omega) j2)
theorem lx_skM {F n P : Nat} {tx : Nat → Int32} {b : Nat → Nat} {u : SO} {tok plc val flt ds dw : Int32} {lk st wy : Nat → Int32} (hb : ∀ j, tx j = nI (b j) ∧ b j ≤ 255) (hn : n ≤ 400) (hx : O_text u = tx) (hy : O_typed u = nI n) (hP : P ≤ n) (h2 : P < n → b P ≠ 32) : ∀ d q nf, q + d = P → d < nf → (∀ j, q ≤ j → j < P → b j = 32) → f_X6_advances_L0 F nf (mO u (nI q) tok plc val flt lk st wy ds dw) = lx_aK F (mO u (nI P) tok (nI P) val flt lk st wy ds dw) := by
  intro d
  induction d with
  | zero =>
    intro q nf hq hnf h
    obtain ⟨nf, rfl⟩ : ∃ x, nf = x + 1 := ⟨nf - 1, by omega⟩
    have e : q = P := by omega
    subst e
    rw [lx_L0]
    simp only [yO_thrown, yO_trace, yO_s, yO_kept, yO_isKept, yO_latest, yO_text, yO_typed, yO_next, yO_token, yO_place, yO_value, yO_fault, yO_luck, yO_stall, yO_way, yO_stalls, yO_ways, yO_draftStalls, yO_draftWays, yO_beliefs, yO_bars, yO_triangle, yO_costs, yO_dones, yO_row, yO_up, yO_down, yO_soldSteps, vO_next, vO_token, vO_place, vO_value, vO_fault, vO_luck, vO_stall, vO_way, vO_draftStalls, vO_draftWays]
    by_cases c : q < n
    · rw [lx_byte (u := mO u (nI q) tok plc val flt lk st wy ds dw) hy hn c (by show O_text u q = _; rw [hx]; exact (hb q).1), obd_s, if_neg (show ¬ nI (b q) = (32 : Int32) from fun z => h2 c ((nI_eq (a := b q) (b := 32) (by have := (hb q).2; omega) (by omega)).mp z))]
    · have e : q = n := by omega
      subst e
      rw [lx_byteE (u := mO u (nI q) tok plc val flt lk st wy ds dw) hy hn, obd_s, if_neg (by decide)]
  | succ d ih =>
    intro q nf hq hnf h
    obtain ⟨nf, rfl⟩ : ∃ x, nf = x + 1 := ⟨nf - 1, by omega⟩
    rw [lx_L0]
    simp only [yO_thrown, yO_trace, yO_s, yO_kept, yO_isKept, yO_latest, yO_text, yO_typed, yO_next, yO_token, yO_place, yO_value, yO_fault, yO_luck, yO_stall, yO_way, yO_stalls, yO_ways, yO_draftStalls, yO_draftWays, yO_beliefs, yO_bars, yO_triangle, yO_costs, yO_dones, yO_row, yO_up, yO_down, yO_soldSteps, vO_next, vO_token, vO_place, vO_value, vO_fault, vO_luck, vO_stall, vO_way, vO_draftStalls, vO_draftWays, s1]
    rw [lx_byte (u := mO u (nI q) tok plc val flt lk st wy ds dw) hy hn (show q < n by omega) (by show O_text u q = _; rw [hx]; exact (hb q).1), obd_s, if_pos (show nI (b q) = (32 : Int32) from congrArg nI (h q (by omega) (by omega)))]
    exact ih (q + 1) nf (by omega) (by omega) (fun j j1 j2 => h j (by omega) j2)
/-! letters or digits, the class -/
theorem lx_rnC {F n A P : Nat} {tx : Nat → Int32} {b : Nat → Nat} {m : SM} {lt sg vl tk : Int32} (K : SR → Option SR) (hb : ∀ j, tx j = nI (b j) ∧ b j ≤ 255) (hn : n ≤ 400) (hA : A ≤ n) (h2 : A < n → lx_sg (b A) ≠ sg) : ∀ d q nf, q + d = A → d < nf → (∀ j, q ≤ j → j < A → lx_sg (b j) = sg) → f_X3_next_L82 F K nf (sR tx m n lt sg P q vl tk) = K (sR tx m n lt sg P A vl tk) := by
  intro d
  induction d with
  | zero =>
    intro q nf hq hnf h
    obtain ⟨nf, rfl⟩ : ∃ x, nf = x + 1 := ⟨nf - 1, by omega⟩
    have e : q = A := by omega
    subst e
    rw [f_X3_next_L82]
    simp only [yR_text, yR_into, yR_length, yR_luckTold, yR_sign, yR_place, yR_after, yR_value, yR_taken, vR_into, vR_luckTold, vR_sign, vR_value, vR_taken, vR_place, vR_after]
    by_cases c : q < n
    · rw [if_neg (nI_ge c (by omega)), lx_signAt (sR tx m n lt sg P q vl tk) (n := n) rfl c hn (hb q).1 (hb q).2, obd_s, if_neg (h2 c)]
    · rw [if_pos (nI_le (by omega) (by omega))]
  | succ d ih =>
    intro q nf hq hnf h
    obtain ⟨nf, rfl⟩ : ∃ x, nf = x + 1 := ⟨nf - 1, by omega⟩
    rw [f_X3_next_L82]
    simp only [yR_text, yR_into, yR_length, yR_luckTold, yR_sign, yR_place, yR_after, yR_value, yR_taken, vR_into, vR_luckTold, vR_sign, vR_value, vR_taken, vR_place, vR_after]
    rw [if_neg (nI_ge (by omega) (by omega)), lx_signAt (sR tx m n lt sg P q vl tk) (n := n) rfl (show q < n by omega) hn (hb q).1 (hb q).2, obd_s, if_pos (h q (by omega) (by omega))]
    simp only [olt_s, s1, yR_text, yR_into, yR_length, yR_luckTold, yR_sign, yR_place, yR_after, yR_value, yR_taken, vR_into, vR_luckTold, vR_sign, vR_value, vR_taken, vR_place, vR_after]
    exact ih (q + 1) nf (by omega) (by omega) (fun j j1 j2 => h j (by omega) j2)
/-! letters, the reference -/
theorem lx_wdM {F n P K : Nat} {tx : Nat → Int32} {b : Nat → Nat} {u : SO} {tok val flt ds dw : Int32} {lk st wy : Nat → Int32} (hb : ∀ j, tx j = nI (b j) ∧ b j ≤ 255) (hn : n ≤ 400) (hx : O_text u = tx) (hy : O_typed u = nI n) (hA : P + K ≤ n) (h2 : P + K < n → ¬ (97 ≤ b (P + K) ∧ b (P + K) ≤ 122)) : ∀ d k nf, k + d = K → d < nf → (∀ j, k ≤ j → j < K → 97 ≤ b (P + j) ∧ b (P + j) ≤ 122) → f_X6_advances_L68 F nf (lN (lx_eD (fun j => b (P + j)) (min k 8))) (mO u (nI (P + k)) tok (nI P) val flt lk st wy ds dw) = obd (f_X6_wordOf F (lN (lx_eD (fun j => b (P + j)) (min K 8))) (nI K)) (fun v => some (mO u (nI (P + K)) (if v = -9 then 4 else 1) (nI P) v flt lk st wy ds dw)) := by
  intro d
  induction d with
  | zero =>
    intro k nf hk hnf h
    obtain ⟨nf, rfl⟩ : ∃ x, nf = x + 1 := ⟨nf - 1, by omega⟩
    have e : k = K := by omega
    subst e
    rw [f_X6_advances_L68]
    have z : ∃ v, f_X6_byteAt F (mO u (nI (P + k)) tok (nI P) val flt lk st wy ds dw) (nI (P + k)) = some v ∧ f_X6_in F v 97 122 = some 0 := by
      by_cases c : P + k < n
      · refine ⟨_, lx_byte (u := mO u (nI (P + k)) tok (nI P) val flt lk st wy ds dw) hy hn c (by show O_text u _ = _; rw [hx]; exact (hb _).1), ?_⟩
        have := (hb (P + k)).2
        rw [lx_in (lo := 97) (hi := 122) 97 122 rfl rfl (by omega) (by omega) (by omega), if_neg (h2 c)]
      · have e : P + k = n := by omega
        refine ⟨_, by rw [e]; exact lx_byteE (u := mO u (nI n) tok (nI P) val flt lk st wy ds dw) hy hn, (lx_inE F).1⟩
    obtain ⟨v, z1, z2⟩ := z
    simp only [yO_thrown, yO_trace, yO_s, yO_kept, yO_isKept, yO_latest, yO_text, yO_typed, yO_next, yO_token, yO_place, yO_value, yO_fault, yO_luck, yO_stall, yO_way, yO_stalls, yO_ways, yO_draftStalls, yO_draftWays, yO_beliefs, yO_bars, yO_triangle, yO_costs, yO_dones, yO_row, yO_up, yO_down, yO_soldSteps, vO_next, vO_token, vO_place, vO_value, vO_fault, vO_luck, vO_stall, vO_way, vO_draftStalls, vO_draftWays]
    rw [z1, obd_s, z2, obd_s, if_pos rfl, pk_sub (show P ≤ P + k by omega), show P + k - P = k by omega]
    refine congrArg (obd _) (funext fun v => ?_)
    simp only [olt_s, yO_thrown, yO_trace, yO_s, yO_kept, yO_isKept, yO_latest, yO_text, yO_typed, yO_next, yO_token, yO_place, yO_value, yO_fault, yO_luck, yO_stall, yO_way, yO_stalls, yO_ways, yO_draftStalls, yO_draftWays, yO_beliefs, yO_bars, yO_triangle, yO_costs, yO_dones, yO_row, yO_up, yO_down, yO_soldSteps, vO_next, vO_token, vO_place, vO_value, vO_fault, vO_luck, vO_stall, vO_way, vO_draftStalls, vO_draftWays]
    by_cases h : v = -9
    · simp only [if_pos h]; rfl
    · simp only [if_neg h]; rfl
  | succ d ih =>
    intro k nf hk hnf h
    obtain ⟨nf, rfl⟩ : ∃ x, nf = x + 1 := ⟨nf - 1, by omega⟩
    have hbk := h k (by omega) (by omega)
    have z1 : f_X6_byteAt F (mO u (nI (P + k)) tok (nI P) val flt lk st wy ds dw) (nI (P + k)) = some (nI (b (P + k))) := lx_byte (u := mO u (nI (P + k)) tok (nI P) val flt lk st wy ds dw) hy hn (show P + k < n by omega) (by show O_text u _ = _; rw [hx]; exact (hb _).1)
    rw [f_X6_advances_L68]
    simp only [yO_thrown, yO_trace, yO_s, yO_kept, yO_isKept, yO_latest, yO_text, yO_typed, yO_next, yO_token, yO_place, yO_value, yO_fault, yO_luck, yO_stall, yO_way, yO_stalls, yO_ways, yO_draftStalls, yO_draftWays, yO_beliefs, yO_bars, yO_triangle, yO_costs, yO_dones, yO_row, yO_up, yO_down, yO_soldSteps, vO_next, vO_token, vO_place, vO_value, vO_fault, vO_luck, vO_stall, vO_way, vO_draftStalls, vO_draftWays]
    rw [z1, obd_s, lx_in (lo := 97) (hi := 122) 97 122 rfl rfl (by omega) (by omega) (by omega), if_pos hbk, obd_s, if_neg one0, pk_sub (show P ≤ P + k by omega), show P + k - P = k by omega]
    have e : (if (8 : Int32) ≤ nI k then some (lN (lx_eD (fun j => b (P + j)) (min k 8))) else obd (some (nI (b (P + k)))) (fun v69 => obd (f_X6_add F (lN (lx_eD (fun j => b (P + j)) (min k 8))) v69) (fun v71 => some v71))) = some (lN (lx_eD (fun j => b (P + j)) (min (k + 1) 8))) := by
      by_cases c : 8 ≤ k
      · rw [if_pos (show (8 : Int32) ≤ nI k from nI_le (a := 8) c (by omega)), Nat.min_eq_right c, Nat.min_eq_right (by omega)]
      · rw [if_neg (show ¬ (8 : Int32) ≤ nI k from nI_ge (b := 8) (by omega) (by omega)), Nat.min_eq_left (by omega), Nat.min_eq_left (by omega), obd_s, lx_add (by omega) (by omega)]
        rfl
    rw [e, obd_s]
    simp only [olt_s, s1, yO_thrown, yO_trace, yO_s, yO_kept, yO_isKept, yO_latest, yO_text, yO_typed, yO_next, yO_token, yO_place, yO_value, yO_fault, yO_luck, yO_stall, yO_way, yO_stalls, yO_ways, yO_draftStalls, yO_draftWays, yO_beliefs, yO_bars, yO_triangle, yO_costs, yO_dones, yO_row, yO_up, yO_down, yO_soldSteps, vO_next, vO_token, vO_place, vO_value, vO_fault, vO_luck, vO_stall, vO_way, vO_draftStalls, vO_draftWays]
    exact ih (k + 1) nf (by omega) (by omega) (fun j j1 j2 => h j (by omega) j2)
/-! digits, the reference -/
def lx_vd (ds : Nat → Nat) : Nat → Nat
  | 0 => 0
  | k + 1 => if 99 < lx_vd ds k then lx_vd ds k else 10 * lx_vd ds k + ds k - 48
theorem lx_vdl {ds : Nat → Nat} : ∀ k, (∀ j, j < k → 48 ≤ ds j ∧ ds j ≤ 57) → lx_vd ds k ≤ 999 := by
  intro k
  induction k with
  | zero => intro _; exact Nat.zero_le _
  | succ k ih =>
    intro h
    have h1 := ih (fun j hj => h j (by omega))
    have h2 := h k (by omega)
    show (if 99 < lx_vd ds k then lx_vd ds k else 10 * lx_vd ds k + ds k - 48) ≤ 999
    split
    · exact h1
    · omega
theorem lx_vdg {ds : Nat → Nat} : ∀ k, (∀ j, j < k + 3 → 48 ≤ ds j ∧ ds j ≤ 57) → 49 ≤ ds 0 → 99 < lx_vd ds (k + 3) := by
  intro k
  induction k with
  | zero =>
    intro h h0
    have h1 := h 0 (by omega)
    have h2 := h 1 (by omega)
    have h3 := h 2 (by omega)
    have e1 : lx_vd ds 1 = ds 0 - 48 := by simp [lx_vd]
    have e2 : lx_vd ds 2 = 10 * (ds 0 - 48) + ds 1 - 48 := by
      show (if 99 < lx_vd ds 1 then lx_vd ds 1 else 10 * lx_vd ds 1 + ds 1 - 48) = _
      rw [e1, if_neg (by omega)]
    show 99 < (if 99 < lx_vd ds 2 then lx_vd ds 2 else 10 * lx_vd ds 2 + ds 2 - 48)
    rw [e2]
    split <;> omega
  | succ k ih =>
    intro h h0
    have h1 := ih (fun j hj => h j (by omega)) h0
    show 99 < (if 99 < lx_vd ds (k + 3) then lx_vd ds (k + 3) else 10 * lx_vd ds (k + 3) + ds (k + 3) - 48)
    rw [if_pos h1]
    exact h1
theorem lx_nmM {F n P K c0 : Nat} {tx : Nat → Int32} {b : Nat → Nat} {u : SO} {tok flt ds dw : Int32} {lk st wy : Nat → Int32} (hb : ∀ j, tx j = nI (b j) ∧ b j ≤ 255) (hn : n ≤ 400) (hx : O_text u = tx) (hy : O_typed u = nI n) (hc0 : c0 ≤ 255) (hA : P + K ≤ n) (hd : ∀ j, j < K → 48 ≤ b (P + j) ∧ b (P + j) ≤ 57) (h2 : P + K < n → ¬ (48 ≤ b (P + K) ∧ b (P + K) ≤ 57)) : ∀ d k nf, k + d = K → d < nf → f_X6_advances_L184 F (nI c0) nf (mO u (nI (P + k)) tok (nI P) (nI (lx_vd (fun j => b (P + j)) k)) flt lk st wy ds dw) = some (mO u (nI (P + K)) (if 99 < lx_vd (fun j => b (P + j)) K then 4 else if c0 = 48 ∧ 1 < K then 4 else 2) (nI P) (nI (lx_vd (fun j => b (P + j)) K)) flt lk st wy ds dw) := by
  intro d
  induction d with
  | zero =>
    intro k nf hk hnf
    obtain ⟨nf, rfl⟩ : ∃ x, nf = x + 1 := ⟨nf - 1, by omega⟩
    have e : k = K := by omega
    subst e
    have hv := lx_vdl (ds := fun j => b (P + j)) k hd
    generalize hV : lx_vd (fun j => b (P + j)) k = V at hv ⊢
    rw [f_X6_advances_L184]
    have z : ∃ v, f_X6_byteAt F (mO u (nI (P + k)) tok (nI P) (nI V) flt lk st wy ds dw) (nI (P + k)) = some v ∧ f_X6_in F v 48 57 = some 0 := by
      by_cases c : P + k < n
      · refine ⟨_, lx_byte (u := mO u (nI (P + k)) tok (nI P) (nI V) flt lk st wy ds dw) hy hn c (by show O_text u _ = _; rw [hx]; exact (hb _).1), ?_⟩
        have := (hb (P + k)).2
        rw [lx_in (lo := 48) (hi := 57) 48 57 rfl rfl (by omega) (by omega) (by omega), if_neg (h2 c)]
      · have e : P + k = n := by omega
        refine ⟨_, by rw [e]; exact lx_byteE (u := mO u (nI n) tok (nI P) (nI V) flt lk st wy ds dw) hy hn, (lx_inE F).2⟩
    obtain ⟨v, z1, z2⟩ := z
    simp only [yO_thrown, yO_trace, yO_s, yO_kept, yO_isKept, yO_latest, yO_text, yO_typed, yO_next, yO_token, yO_place, yO_value, yO_fault, yO_luck, yO_stall, yO_way, yO_stalls, yO_ways, yO_draftStalls, yO_draftWays, yO_beliefs, yO_bars, yO_triangle, yO_costs, yO_dones, yO_row, yO_up, yO_down, yO_soldSteps, vO_next, vO_token, vO_place, vO_value, vO_fault, vO_luck, vO_stall, vO_way, vO_draftStalls, vO_draftWays]
    rw [z1, obd_s, z2, obd_s, if_pos rfl, pk_sub (show P ≤ P + k by omega), show P + k - P = k by omega]
    have q1 : ((99 : Int32) < nI V) = (99 < V) := i_lt (a := 99) (by omega) (by omega)
    have q2 : (nI c0 = (48 : Int32)) = (c0 = 48) := i_eq (b := 48) (by omega) (by omega)
    have q3 : (nI k ≤ (1 : Int32)) = (k ≤ 1) := i_le (b := 1) (by omega) (by omega)
    simp only [q1, q2, q3]
    have e : (if 99 < V then some (4 : Int32) else if c0 = 48 then (if k ≤ 1 then some 2 else some 4) else some 2) = some (if 99 < V then 4 else if c0 = 48 ∧ 1 < k then 4 else 2) := by
      repeat' split
      all_goals first | rfl | (exfalso; omega)
    rw [e, obd_s]
    rfl
  | succ d ih =>
    intro k nf hk hnf
    obtain ⟨nf, rfl⟩ : ∃ x, nf = x + 1 := ⟨nf - 1, by omega⟩
    have hv := lx_vdl (ds := fun j => b (P + j)) k (fun j hj => hd j (by omega))
    have hbk := hd k (by omega)
    have ev : lx_vd (fun j => b (P + j)) (k + 1) = if 99 < lx_vd (fun j => b (P + j)) k then lx_vd (fun j => b (P + j)) k else 10 * lx_vd (fun j => b (P + j)) k + b (P + k) - 48 := rfl
    have ih' := ih (k + 1) nf (by omega) (by omega)
    rw [ev] at ih'
    generalize hV : lx_vd (fun j => b (P + j)) k = V at hv ih' ⊢
    have z1 : f_X6_byteAt F (mO u (nI (P + k)) tok (nI P) (nI V) flt lk st wy ds dw) (nI (P + k)) = some (nI (b (P + k))) := lx_byte (u := mO u (nI (P + k)) tok (nI P) (nI V) flt lk st wy ds dw) hy hn (show P + k < n by omega) (by show O_text u _ = _; rw [hx]; exact (hb _).1)
    rw [f_X6_advances_L184]
    simp only [yO_thrown, yO_trace, yO_s, yO_kept, yO_isKept, yO_latest, yO_text, yO_typed, yO_next, yO_token, yO_place, yO_value, yO_fault, yO_luck, yO_stall, yO_way, yO_stalls, yO_ways, yO_draftStalls, yO_draftWays, yO_beliefs, yO_bars, yO_triangle, yO_costs, yO_dones, yO_row, yO_up, yO_down, yO_soldSteps, vO_next, vO_token, vO_place, vO_value, vO_fault, vO_luck, vO_stall, vO_way, vO_draftStalls, vO_draftWays]
    rw [z1, obd_s, lx_in (lo := 48) (hi := 57) 48 57 rfl rfl (by omega) (by omega) (by omega), if_pos hbk, obd_s, if_neg one0]
    have e : (if nI V ≤ (99 : Int32) then obd (some (nI (b (P + k)))) (fun v43 => some ((10 : Int32) * nI V + v43 - (48 : Int32))) else some (nI V)) = some (nI (if 99 < V then V else 10 * V + b (P + k) - 48)) := by
      by_cases c : 99 < V
      · rw [if_neg (show ¬ nI V ≤ (99 : Int32) from nI_ge (a := 99) c (by omega)), if_pos c]
      · rw [if_pos (show nI V ≤ (99 : Int32) from nI_le (b := 99) (by omega) (by omega)), if_neg c, obd_s, show (10 : Int32) = nI 10 from rfl, pk_mul, nI_add, show (48 : Int32) = nI 48 from rfl, pk_sub (by omega)]
    rw [e, obd_s]
    simp only [olt_s, s1, yO_thrown, yO_trace, yO_s, yO_kept, yO_isKept, yO_latest, yO_text, yO_typed, yO_next, yO_token, yO_place, yO_value, yO_fault, yO_luck, yO_stall, yO_way, yO_stalls, yO_ways, yO_draftStalls, yO_draftWays, yO_beliefs, yO_bars, yO_triangle, yO_costs, yO_dones, yO_row, yO_up, yO_down, yO_soldSteps, vO_next, vO_token, vO_place, vO_value, vO_fault, vO_luck, vO_stall, vO_way, vO_draftStalls, vO_draftWays]
    exact ih'
/-! what the two know of a TOKEN -/
def lx_TK (b : Nat → Nat) (n P A : Nat) (sg vl tok val : Int32) : Prop := P ≤ A ∧ A ≤ n ∧ ((sg = 0 ∧ tok = 0 ∧ P = n) ∨ (P < A ∧ ((∃ v, v ≤ 99 ∧ sg = 2 ∧ tok = 2 ∧ vl = nI v ∧ val = nI v) ∨ (sg = 3 ∧ tok = 3) ∨ (∃ w, w < 13 ∧ sg = 1 ∧ tok = 1 ∧ val = nI (lx_rv w) ∧ lx_mt (fun j => b (P + j)) (A - P) (lx_wl w)) ∨ (tok = 4 ∧ (sg = 4 ∨ (sg = 1 ∧ ∀ w, w < 13 → ¬ lx_mt (fun j => b (P + j)) (A - P) (lx_wl w)))))))
theorem lx_vn {F n P A : Nat} {tx : Nat → Int32} {b : Nat → Nat} {m : SM} {lt vl tk : Int32} (hb : ∀ j, tx j = nI (b j) ∧ b j ≤ 255) (hn : n ≤ 400) (hP : P < A) (hA : A ≤ n) (hd : ∀ j, P ≤ j → j < A → 48 ≤ b j ∧ b j ≤ 57) : (A = P + 1 ∧ f_X3_valueNumber F (sR tx m n lt 2 P A vl tk) = some (sR tx m n lt 2 P A (nI (b P - 48)) tk)) ∨ (A = P + 2 ∧ b P ≠ 48 ∧ f_X3_valueNumber F (sR tx m n lt 2 P A vl tk) = some (sR tx m n lt 2 P A (nI (10 * (b P - 48) + b (P + 1) - 48)) tk)) ∨ ((P + 2 < A ∨ (A = P + 2 ∧ b P = 48)) ∧ f_X3_valueNumber F (sR tx m n lt 2 P A vl tk) = some (sR tx m n lt 4 P A vl tk)) := by
  have hd0 := hd P (by omega) hP
  unfold f_X3_valueNumber
  simp only [olt_s, yR_text, yR_into, yR_length, yR_luckTold, yR_sign, yR_place, yR_after, yR_value, yR_taken, vR_into, vR_luckTold, vR_sign, vR_value, vR_taken, vR_place, vR_after]
  rw [pk_sub (by omega), ochi_n (show P < 400 by omega) (by omega), ochi_n (show P < 400 by omega) (by omega), cl (by omega), (hb P).1, s1]
  have q1 : (nI (A - P) = (1 : Int32)) = (A - P = 1) := i_eq (b := 1) (by omega) (by omega)
  have q2 : (nI (A - P) = (2 : Int32)) = (A - P = 2) := i_eq (b := 2) (by omega) (by omega)
  have q3 : (nI (b P) = (48 : Int32)) = (b P = 48) := i_eq (b := 48) (by omega) (by omega)
  simp only [q1, q2, q3]
  by_cases c1 : A - P = 1
  · refine Or.inl ⟨by omega, ?_⟩
    rw [if_pos c1, show (48 : Int32) = nI 48 from rfl, pk_sub (by omega)]
  · rw [if_neg c1]
    by_cases c2 : A - P = 2
    · rw [if_pos c2]
      by_cases c3 : b P = 48
      · rw [if_pos c3]
        exact Or.inr (Or.inr ⟨Or.inr ⟨by omega, c3⟩, rfl⟩)
      · refine Or.inr (Or.inl ⟨by omega, c3, ?_⟩)
        have hd1 := hd (P + 1) (by omega) (by omega)
        rw [if_neg c3, ochi_n (show P < 400 by omega) (by omega), ochi_n (show P + 1 < 400 by omega) (by omega), cl (by omega), (hb (P + 1)).1, show (48 : Int32) = nI 48 from rfl, pk_sub (by omega), show (10 : Int32) = nI 10 from rfl, pk_mul, nI_add, pk_sub (by omega), Nat.mul_comm]
    · rw [if_neg c2]
      exact Or.inr (Or.inr ⟨Or.inl (by omega), rfl⟩)
theorem lx_next {F n p : Nat} {tx : Nat → Int32} {b : Nat → Nat} {m : SM} {lt sg vl tk : Int32} {u : SO} {tok plc val flt ds dw : Int32} {lk st wy : Nat → Int32} (hF : 2000 ≤ F) (hb : ∀ j, tx j = nI (b j) ∧ b j ≤ 255) (hn : n ≤ 400) (hx : O_text u = tx) (hy : O_typed u = nI n) (hp : p ≤ n) : ∃ (P A : Nat) (sg' vl' tok' val' : Int32), p ≤ P ∧ lx_TK b n P A sg' vl' tok' val' ∧ f_X3_next_L8 F F (sR tx m n lt sg p p vl tk) = some (sR tx m n lt sg' P A vl' tk) ∧ f_X6_advances F (mO u (nI p) tok plc val flt lk st wy ds dw) = some (mO u (nI A) tok' (nI P) val' flt lk st wy ds dw) := by
  obtain ⟨P, p1, p2, p3, p4⟩ := lx_run (n := n) (fun j => b j = 32) (n - p) p (by omega)
  unfold f_X6_advances
  rw [lx_skC (n := n) (P := P) hb hn p2 p4 (P - p) p F (by omega) (by omega) p3, lx_skM (n := n) (P := P) hb hn hx hy p2 p4 (P - p) p F (by omega) (by omega) p3]
  rw [lx_nKe]
  unfold lx_aK
  simp only [yR_text, yR_into, yR_length, yR_luckTold, yR_sign, yR_place, yR_after, yR_value, yR_taken, vR_into, vR_luckTold, vR_sign, vR_value, vR_taken, vR_place, vR_after, yO_thrown, yO_trace, yO_s, yO_kept, yO_isKept, yO_latest, yO_text, yO_typed, yO_next, yO_token, yO_place, yO_value, yO_fault, yO_luck, yO_stall, yO_way, yO_stalls, yO_ways, yO_draftStalls, yO_draftWays, yO_beliefs, yO_bars, yO_triangle, yO_costs, yO_dones, yO_row, yO_up, yO_down, yO_soldSteps, vO_next, vO_token, vO_place, vO_value, vO_fault, vO_luck, vO_stall, vO_way, vO_draftStalls, vO_draftWays]
  by_cases hE : P = n
  · subst hE
    rw [lx_signE (sR tx m P lt sg P P vl tk) rfl hn, lx_byteE (u := mO u (nI P) tok (nI P) val flt lk st wy ds dw) hy hn]
    refine ⟨P, P, 0, vl, 0, val, p1, ⟨Nat.le_refl _, Nat.le_refl _, Or.inl ⟨rfl, rfl, rfl⟩⟩, ?_, ?_⟩
    · rw [obd_s, if_neg (by decide), if_neg (by decide), if_pos rfl]
      rfl
    · rw [obd_s, if_neg (by decide)]
      rfl
  have hPn : P < n := by omega
  have hbP := (hb P).2
  rw [lx_signAt (sR tx m n lt sg P P vl tk) rfl hPn hn (hb P).1 (hb P).2, lx_byte (u := mO u (nI P) tok (nI P) val flt lk st wy ds dw) hy hn hPn (by show O_text u P = _; rw [hx]; exact (hb P).1)]
  simp only [obd_s]
  rw [if_pos (nI_pos' (n := b P) (by omega)), lx_in (c := b P) (lo := 97) (hi := 122) 97 122 rfl rfl (by omega) (by omega) (by omega), lx_in (c := b P) (lo := 48) (hi := 57) 48 57 rfl rfl (by omega) (by omega) (by omega)]
  simp only [obd_s, ite01]
  by_cases hL : 97 ≤ b P ∧ b P ≤ 122
  · -- a word
    rw [lx_sg1 hL, if_pos rfl, if_neg (fun z => z hL)]
    obtain ⟨A, a1, a2, a3, a4⟩ := lx_run (n := n) (fun j => 97 ≤ b j ∧ b j ≤ 122) (n - P) P (by omega)
    have hPA : P < A := by
      rcases Nat.lt_or_ge P A with h | h
      · exact h
      · have e : A = P := by omega
        subst e
        exact absurd hL (a4 hPn)
    have eA : P + (A - P) = A := by omega
    rw [lx_rnC (n := n) (A := A) (lx_nE F) hb hn a2 (fun z => lx_sg1n (a4 z)) (A - P) P F (by omega) (by omega) (fun j j1 j2 => lx_sg1 (a3 j j1 j2))]
    have hw := lx_wdM (F := F) (n := n) (P := P) (K := A - P) (tok := tok) (val := val) (flt := flt) (ds := ds) (dw := dw) (lk := lk) (st := st) (wy := wy) hb hn hx hy (by omega) (by rw [eA]; exact a4) (A - P) 0 F (by omega) (by omega) (fun j j1 j2 => a3 (P + j) (by omega) (by omega))
    rw [eA] at hw
    have hw' : f_X6_advances_L68 F F (0 : Int64) (mO u (nI P) tok (nI P) val flt lk st wy ds dw) = _ := hw
    rw [hw']
    have hdl : ∀ j, j < A - P → 97 ≤ (fun j => b (P + j)) j ∧ (fun j => b (P + j)) j ≤ 122 := fun j hj => a3 (P + j) (by omega) (by omega)
    have hlt : lx_eD (fun j => b (P + j)) (min (A - P) 8) < 2 ^ 63 := lx_eDlt (Nat.min_le_right _ _) (fun j hj => (hdl j (by omega)).2)
    have hiff : ∀ w, w < 13 → (lx_eD (fun j => b (P + j)) (A - P) = lx_eR (lx_wl w) ↔ lx_mt (fun j => b (P + j)) (A - P) (lx_wl w)) := fun w hw => lx_en (lx_wl w) (A - P) (lx_w1 w hw).2.2.1 (fun j hj => ⟨Nat.le_trans (by decide) (hdl j hj).1, Nat.le_trans (hdl j hj).2 (by decide)⟩)
    have fin : (∃ w, w < 13 ∧ lx_mt (fun j => b (P + j)) (A - P) (lx_wl w) ∧ f_X6_wordOf F (lN (lx_eD (fun j => b (P + j)) (min (A - P) 8))) (nI (A - P)) = some (nI (lx_rv w))) ∨ ((∀ w, w < 13 → ¬ lx_mt (fun j => b (P + j)) (A - P) (lx_wl w)) ∧ f_X6_wordOf F (lN (lx_eD (fun j => b (P + j)) (min (A - P) 8))) (nI (A - P)) = some (-9)) := by
      by_cases k8 : A - P = 8
      · rw [k8] at hlt hiff ⊢
        rcases lx_of8 (F := F) hlt with ⟨g1, g2⟩ | ⟨g1, g2⟩
        · exact Or.inl ⟨12, by omega, (hiff 12 (by omega)).mp g1, g2⟩
        · refine Or.inr ⟨fun w hw z => ?_, g2⟩
          have e := (lx_w1 w hw).2.2.2.2.2 (lx_len _ _ z).symm
          subst e
          exact g1 ((hiff 12 (by omega)).mpr z)
      · by_cases k6 : A - P ≤ 6
        · rw [Nat.min_eq_left (by omega)] at hlt ⊢
          rcases lx_of6 (F := F) hlt k6 with ⟨w, g0, g1, g2⟩ | ⟨g1, g2⟩
          · exact Or.inl ⟨w, by omega, (hiff w (by omega)).mp g1, g2⟩
          · refine Or.inr ⟨fun w hw z => ?_, g2⟩
            by_cases e : w = 12
            · subst e
              have := lx_len _ _ z
              have e8 : (lx_wl 12).length = 8 := rfl
              omega
            · exact g1 w (by omega) ((hiff w hw).mpr z)
        · refine Or.inr ⟨fun w hw z => ?_, lx_of9 k8 (by omega) (by omega)⟩
          have h1 := lx_len _ _ z
          have h2 := lx_w1 w hw
          omega
    rcases fin with ⟨w, w1, w2, w3⟩ | ⟨w2, w3⟩
    · have h9 : ¬ nI (lx_rv w) = -9 := by
        intro z
        have z1 := congrArg Int32.toInt z
        rw [nI_toInt (by have := (lx_w4 w w1).1; omega)] at z1
        have z2 : (-9 : Int32).toInt = -9 := rfl
        omega
      refine ⟨P, A, 1, vl, 1, nI (lx_rv w), p1, ⟨by omega, a2, Or.inr ⟨hPA, Or.inr (Or.inr (Or.inl ⟨w, w1, rfl, rfl, rfl, w2⟩))⟩⟩, rfl, ?_⟩
      rw [w3, obd_s, if_neg h9]
    · refine ⟨P, A, 1, vl, 4, -9, p1, ⟨by omega, a2, Or.inr ⟨hPA, Or.inr (Or.inr (Or.inr ⟨rfl, Or.inr ⟨rfl, w2⟩⟩))⟩⟩, rfl, ?_⟩
      rw [w3, obd_s, if_pos rfl]
  rw [if_pos hL]
  by_cases hD : 48 ≤ b P ∧ b P ≤ 57
  · -- a number
    rw [lx_sg2 hD, if_neg (by decide), if_pos rfl, if_neg (fun z => z hD)]
    obtain ⟨A, a1, a2, a3, a4⟩ := lx_run (n := n) (fun j => 48 ≤ b j ∧ b j ≤ 57) (n - P) P (by omega)
    have hPA : P < A := by
      rcases Nat.lt_or_ge P A with h | h
      · exact h
      · have e : A = P := by omega
        subst e
        exact absurd hD (a4 hPn)
    have eA : P + (A - P) = A := by omega
    rw [lx_rnC (n := n) (A := A) (lx_nE F) hb hn a2 (fun z => lx_sg2n (a4 z)) (A - P) P F (by omega) (by omega) (fun j j1 j2 => lx_sg2 (a3 j j1 j2))]
    have hm := lx_nmM (F := F) (n := n) (P := P) (K := A - P) (c0 := b P) (tok := tok) (flt := flt) (ds := ds) (dw := dw) (lk := lk) (st := st) (wy := wy) hb hn hx hy hbP (by omega) (fun j hj => a3 (P + j) (by omega) (by omega)) (by rw [eA]; exact a4) (A - P) 0 F (by omega) (by omega)
    rw [eA] at hm
    have hm' : olt (mO u (nI P) tok (nI P) 0 flt lk st wy ds dw) (fun s22 => f_X6_advances_L184 F (nI (b P)) F s22) = _ := hm
    rw [hm']
    have hE2 : lx_nE F (sR tx m n lt 2 P A vl tk) = obd (f_X3_valueNumber F (sR tx m n lt 2 P A vl tk)) (fun v12 => some v12) := rfl
    rw [hE2]
    rcases lx_vn (F := F) (n := n) (m := m) (lt := lt) (vl := vl) (tk := tk) hb hn hPA a2 a3 with ⟨g1, g2⟩ | ⟨g1, g0, g2⟩ | ⟨g1, g2⟩
    · have ev : lx_vd (fun j => b (P + j)) (A - P) = b P - 48 := by
        rw [show A - P = 1 by omega]
        simp [lx_vd]
      rw [g2, ev, if_neg (by omega), if_neg (by omega)]
      exact ⟨P, A, 2, _, 2, _, p1, ⟨by omega, a2, Or.inr ⟨hPA, Or.inl ⟨b P - 48, by omega, rfl, rfl, rfl, rfl⟩⟩⟩, rfl, rfl⟩
    · have hd1 := a3 (P + 1) (by omega) (by omega)
      have ev : lx_vd (fun j => b (P + j)) (A - P) = 10 * (b P - 48) + b (P + 1) - 48 := by
        rw [show A - P = 2 by omega]
        have e1 : lx_vd (fun j => b (P + j)) 1 = b P - 48 := by simp [lx_vd]
        show (if 99 < lx_vd (fun j => b (P + j)) 1 then lx_vd (fun j => b (P + j)) 1 else 10 * lx_vd (fun j => b (P + j)) 1 + b (P + 1) - 48) = _
        rw [e1, if_neg (by omega)]
      rw [g2, ev, if_neg (by omega), if_neg (by omega)]
      exact ⟨P, A, 2, _, 2, _, p1, ⟨by omega, a2, Or.inr ⟨hPA, Or.inl ⟨10 * (b P - 48) + b (P + 1) - 48, by omega, rfl, rfl, rfl, rfl⟩⟩⟩, rfl, rfl⟩
    · have e4 : (if 99 < lx_vd (fun j => b (P + j)) (A - P) then (4 : Int32) else if b P = 48 ∧ 1 < A - P then 4 else 2) = 4 := by
        by_cases c : b P = 48
        · by_cases c2 : 99 < lx_vd (fun j => b (P + j)) (A - P)
          · rw [if_pos c2]
          · rw [if_neg c2, if_pos ⟨c, by omega⟩]
        · have h3 : P + 2 < A := by omega
          obtain ⟨k, hk⟩ : ∃ k, A - P = k + 3 := ⟨A - P - 3, by omega⟩
          rw [hk, if_pos (lx_vdg (ds := fun j => b (P + j)) k (fun j hj => a3 (P + j) (by omega) (by omega)) (by show 49 ≤ b (P + 0); rw [Nat.add_zero]; omega))]
      rw [g2, e4]
      exact ⟨P, A, 4, _, 4, _, p1, ⟨by omega, a2, Or.inr ⟨hPA, Or.inr (Or.inr (Or.inr ⟨rfl, Or.inl rfl⟩))⟩⟩, rfl, rfl⟩
  rw [if_pos hD]
  have eR : nI P + 1 = nI (P + 1) := s1 P
  have q5 : (nI (b P) = (59 : Int32)) = (b P = 59) := i_eq (b := 59) (by omega) (by omega)
  simp only [eR, q5]
  rcases lx_sg34 hL hD with ⟨g1, g2⟩ | ⟨g1, g2⟩
  · rw [g1, if_neg (by decide), if_neg (by decide), if_neg (by decide), if_pos g2]
    exact ⟨P, P + 1, 3, vl, 3, val, p1, ⟨by omega, by omega, Or.inr ⟨by omega, Or.inr (Or.inl ⟨rfl, rfl⟩)⟩⟩, rfl, rfl⟩
  · rw [g1, if_neg (by decide), if_neg (by decide), if_neg (by decide), if_neg g2]
    exact ⟨P, P + 1, 4, vl, 4, val, p1, ⟨by omega, by omega, Or.inr ⟨by omega, Or.inr (Or.inr (Or.inr ⟨rfl, Or.inl rfl⟩))⟩⟩, rfl, rfl⟩
end
