/-! ===== how often ===== -/
def hn (a b c : Nat) (x : Int) : Nat := if x = -1 then a else if x = 0 then b else if x = 1 then c else 0
theorem hn_le {a b c : Nat} (h : a + b + c = 10) (x : Int) : hn a b c x ≤ 10 := by
  unfold hn
  split
  · omega
  · split
    · omega
    · split <;> omega
def hon (m : SM) (j : Int32) : Int32 := if j = -1 then M_less m * 60 else if j = 0 then M_just m * 60 else if j = 1 then M_more m * 60 else 0
theorem hon_c {F : Nat} (m : SM) (j : Int32) : f_X2_honestly F m j = some (hon m j) := by
  unfold f_X2_honestly hon
  split
  · rfl
  · split
    · rfl
    · split <;> rfl
theorem j3 {F : Nat} (j : Int32) : (f_X6_in F j (-1) 1 = some 1 ∧ (j = -1 ∨ j = 0 ∨ j = 1)) ∨ (f_X6_in F j (-1) 1 = some 0 ∧ ¬ j = -1 ∧ ¬ j = 0 ∧ ¬ j = 1) := by
  rw [in_eq]
  by_cases h1 : j = -1
  · subst h1; exact Or.inl ⟨rfl, Or.inl rfl⟩
  by_cases h2 : j = 0
  · subst h2; exact Or.inl ⟨rfl, Or.inr (Or.inl rfl)⟩
  by_cases h3 : j = 1
  · subst h3; exact Or.inl ⟨rfl, Or.inr (Or.inr rfl)⟩
  refine Or.inr ⟨?_, h1, h2, h3⟩
  rw [if_neg]
  rintro ⟨q1, q2⟩
  have e1 : (-1 : Int) ≤ j.toInt := Int32.le_iff_toInt_le.mp q1
  have e2 : j.toInt ≤ 1 := Int32.le_iff_toInt_le.mp q2
  have : j.toInt = -1 ∨ j.toInt = 0 ∨ j.toInt = 1 := by omega
  rcases this with e | e | e
  · exact h1 (Int32.toInt_inj.mp e)
  · exact h2 (Int32.toInt_inj.mp e)
  · exact h3 (Int32.toInt_inj.mp e)
theorem hon_m {F ns nw : Nat} {m : SM} {u : SO} (h : reM m u ns nw) (j : Int32) : f_X6_honest F u j = some (hon m j) := by
  unfold f_X6_honest hon
  rcases j3 (F := F) j with ⟨e, rfl | rfl | rfl⟩ | ⟨e, h1, h2, h3⟩
  · rw [e, ← h.2.1.1]
    exact congrArg some (Int32.mul_comm _ _)
  · rw [e, ← h.2.1.2.1]
    exact congrArg some (Int32.mul_comm _ _)
  · rw [e, ← h.2.1.2.2]
    exact congrArg some (Int32.mul_comm _ _)
  · rw [e, if_neg h1, if_neg h2, if_neg h3]
    rfl
def stm (m : SM) (w i : Nat) : Int32 := (M_grains m w + M_step m i - 1) / M_step m i
def rnd (m : SM) (j : Int32) : Int32 := if j = 0 then (M_less m + M_just m) * 60 else if j = 1 then M_more m * 60 else 0
def oft (m : SM) (w i : Nat) (o j : Int32) : Int32 :=
  if M_shape m w = 1 then hon m (j - stm m w i)
  else if M_shape m w = 2 then (if (M_sorts m w >>> (o &&& 31)) &&& 1 = 0 then hon m j else (hon m (j - stm m w i) + (M_oneIn m w - 1) * hon m j) / M_oneIn m w)
  else if M_shape m w = 3 then rnd m j
  else hon m j
theorem stm_c {F ns nw w i : Nat} {m : SM} (hw : w < nw) (hi : i < ns) (hO : okM m ns nw) : f_X2_stepsMore F m (nI w) (nI i) = some (stm m w i) := by
  have h1 := hO.1.1
  have h2 := hO.1.2.1
  have hp := step_pos (hO.2.2.1 i hi).1
  unfold f_X2_stepsMore
  rw [ochi_n (by omega) (by omega), ochi_n (by omega) (by omega), cl (by omega), cl (by omega), if_pos hp.2.2.2.2.1, ochk_of hp.2.2.2.2.2]
  rfl
theorem oft_c {F ns nw w i : Nat} {m : SM} (o j : Int32) (hw : w < nw) (hi : i < ns) (hO : okM m ns nw) : f_X2_howOften F m (nI w) (nI i) o j = some (oft m w i o j) := by
  have h2 := hO.1.2.1
  obtain ⟨q, q1, q2, q3⟩ := (hO.2.2.2 w hw).2.2.1
  unfold f_X2_howOften f_X2_byThumb
  rw [stm_c hw hi hO]
  simp only [ochi_n (show w < 6 by omega) (show 6 < 2 ^ 31 by omega), cl (show w < 2 ^ 31 by omega), obd_s, olt_s, hon_c]
  rw [ochk_of (show ¬ M_oneIn m w = 0 by rw [q3]; exact nI_ne0 (by omega) (by omega)), if_pos (show 0 < M_oneIn m w by rw [q3]; exact nI_lt (a := 0) (by omega) (by omega))]
  unfold oft
  split
  · rfl
  · split
    · split <;> rfl
    · split
      · unfold f_X2_rounded rnd
        split
        · rfl
        · split <;> rfl
      · rfl
theorem stm_n {ns nw w i : Nat} {m : SM} (hw : w < nw) (hi : i < ns) (hO : okM m ns nw) : ∃ s, s ≤ 99 ∧ stm m w i = nI s := by
  obtain ⟨q, q1, q2, q3⟩ := (hO.2.2.1 i hi).1
  obtain ⟨g, g1, g2, g3⟩ := (hO.2.2.2 w hw).2.1
  unfold stm
  rw [q3, g3, nI_add, show (1 : Int32) = nI 1 from rfl, pk_sub (by omega), pk_div (by omega) (by omega) (by omega)]
  refine ⟨_, ?_, rfl⟩
  have : g + q - 1 < 100 * q := by omega
  have := (Nat.div_lt_iff_lt_mul (show 0 < q by omega)).mpr this
  omega
theorem hon_n {ns nw : Nat} {m : SM} (hO : okM m ns nw) : ∃ a b c : Nat, a + b + c = 10 ∧ (∀ j, hon m j = nI (hn a b c j.toInt * 60)) ∧ ∀ j, rnd m j = nI (hn 0 (a + b) c j.toInt * 60) := by
  obtain ⟨a, b, c, h, ha, hb, hc⟩ := hO.2.1
  have e60 : (60 : Int32) = nI 60 := rfl
  have z : ∀ j : Int32, ∀ z : Int32, ∀ y : Int, z.toInt = y → ((j = z) ↔ j.toInt = y) := fun j z y h => ⟨fun e => by rw [e, h], fun e => Int32.toInt_inj.mp (e.trans h.symm)⟩
  refine ⟨a, b, c, h, fun j => ?_, fun j => ?_⟩
  · unfold hon hn
    rw [ha, hb, hc, e60, pk_mul, pk_mul, pk_mul]
    simp only [z j (-1) (-1) rfl, z j 0 0 rfl, z j 1 1 rfl]
    split
    · rfl
    · split
      · rfl
      · split <;> rfl
  · unfold rnd hn
    rw [ha, hb, hc, e60, nI_add, pk_mul, pk_mul]
    simp only [z j 0 0 rfl, z j 1 1 rfl]
    by_cases h1 : j.toInt = -1
    · rw [if_neg (by omega), if_neg (by omega), if_pos h1]; simp; rfl
    · rw [if_neg h1]
      split
      · rfl
      · split <;> rfl
theorem thumb_eq {a b c : Nat} (ha : a ≤ 10) (hb : b ≤ 10) (h1 : 1 ≤ c) (h5 : c ≤ 5) : (nI (a * 60) + (nI c - 1) * nI (b * 60)) / nI c = nI (60 / c * (a + (c - 1) * b)) ∧ nI (a * 60) / nI c + nI (b * 60) / nI c * (nI c - 1) = nI (60 / c * (a + (c - 1) * b)) := by
  have e : nI c - 1 = nI (c - 1) := by rw [show (1 : Int32) = nI 1 from rfl, pk_sub h1]
  have l : (c - 1) * (b * 60) ≤ 4 * (10 * 60) := Nat.mul_le_mul (by omega) (by omega)
  have hc : c = 1 ∨ c = 2 ∨ c = 3 ∨ c = 4 ∨ c = 5 := by omega
  constructor
  · rw [e, pk_mul, nI_add, pk_div (by omega) (by omega) (by omega)]
    rcases hc with rfl | rfl | rfl | rfl | rfl <;> exact congrArg nI (by omega)
  · rw [e, pk_div (by omega) (by omega) (by omega), pk_div (by omega) (by omega) (by omega), pk_mul, nI_add]
    rcases hc with rfl | rfl | rfl | rfl | rfl <;> exact congrArg nI (by omega)
theorem oft_m {F ns nw w i o : Nat} {m : SM} {u : SO} (j : Int32) (hw : w < nw) (hi : i < ns) (ho : o ≤ 3) (hO : okM m ns nw) (hM : reM m u ns nw) : f_X6_oftenOf F u (nI w) (nI i) (nI o) j = some (oft m w i (nI o) j) := by
  have h1 := hO.1.1
  have h2 := hO.1.2.1
  obtain ⟨y1, y2, y3, y4⟩ := hM.2.2.2 w hw
  obtain ⟨x1, x2, x3⟩ := hM.2.2.1 i hi
  have hp := step_pos (hO.2.2.1 i hi).1
  obtain ⟨q, q1, q2, q3⟩ := (hO.2.2.2 w hw).2.2.1
  obtain ⟨s, s2, s3⟩ := stm_n hw hi hO
  obtain ⟨a, b, c, habc, hh, hr⟩ := hon_n hO
  have hnz : ¬ M_oneIn m w = 0 := by rw [q3]; exact nI_ne0 (by omega) (by omega)
  unfold f_X6_oftenOf
  have far : ∀ j' : Int32, f_X6_in F j (-1) 100 = some 0 → (j' = j ∨ j' = j - stm m w i) → ¬ j' = -1 ∧ ¬ j' = 0 ∧ ¬ j' = 1 := by
    intro j' hin hj'
    have key : ∀ y : Int, -1 ≤ y → y ≤ 1 → ∀ z : Int32, z.toInt = y → ¬ j' = z := by
      intro y y1 y2 z hz e
      have hj : j.toInt = y ∨ j.toInt = y + s := by
        rcases hj' with e2 | e2
        · left; rw [← e2, e, hz]
        · right
          have e3 : j = z + nI s := by
            have : j - stm m w i + stm m w i = j := Int32.sub_add_cancel _ _
            rw [← this, ← e2, e, s3]
          rw [e3, tA (by rw [hz, nI_toInt (by omega)]; omega) (by rw [hz, nI_toInt (by omega)]; omega), hz, nI_toInt (by omega)]
      have : f_X6_in F j (-1) 100 = some 1 := by
        rw [in_eq, if_pos]
        exact ⟨Int32.le_iff_toInt_le.mpr (show (-1 : Int) ≤ j.toInt by omega), Int32.le_iff_toInt_le.mpr (show j.toInt ≤ (100 : Int) by omega)⟩
      rw [this] at hin
      exact absurd hin (by decide)
    exact ⟨key (-1) (by omega) (by omega) (-1) rfl, key 0 (by omega) (by omega) 0 rfl, key 1 (by omega) (by omega) 1 rfl⟩
  have hz : ∀ j' : Int32, (¬ j' = -1 ∧ ¬ j' = 0 ∧ ¬ j' = 1) → hon m j' = 0 := by
    intro j' ⟨e1, e2, e3⟩
    unfold hon
    rw [if_neg e1, if_neg e2, if_neg e3]
  rcases (show f_X6_in F j (-1) 100 = some 1 ∨ f_X6_in F j (-1) 100 = some 0 by rw [in_eq]; split <;> simp) with hin | hin
  · rw [hin, obd_s, if_neg one0]
    have i0 : (4 : Int32) * nI w = nI (4 * w) := by rw [show (4 : Int32) = nI 4 from rfl, pk_mul]
    have i1 : nI (4 * w) + 1 = nI (4 * w + 1) := s1 _
    have i2 : nI (4 * w) + 2 = nI (4 * w + 2) := by rw [show (2 : Int32) = nI 2 from rfl, nI_add]
    have i3 : nI (4 * w) + 3 = nI (4 * w + 3) := by rw [show (3 : Int32) = nI 3 from rfl, nI_add]
    have i4 : (3 : Int32) * nI i = nI (3 * i) := by rw [show (3 : Int32) = nI 3 from rfl, pk_mul]
    rw [i0, i1, i2, i3, i4]
    simp only [ochi_n (show 4 * w < 48 by omega) (show 48 < 2 ^ 31 by omega), ochi_n (show 4 * w + 1 < 48 by omega) (show 48 < 2 ^ 31 by omega), ochi_n (show 4 * w + 2 < 48 by omega) (show 48 < 2 ^ 31 by omega), ochi_n (show 4 * w + 3 < 48 by omega) (show 48 < 2 ^ 31 by omega), ochi_n (show 3 * i < 36 by omega) (show 36 < 2 ^ 31 by omega), cl (show 4 * w < 2 ^ 31 by omega), cl (show 4 * w + 1 < 2 ^ 31 by omega), cl (show 4 * w + 2 < 2 ^ 31 by omega), cl (show 4 * w + 3 < 2 ^ 31 by omega), cl (show 3 * i < 2 ^ 31 by omega), y1, y2, y3, y4, x1, ochk_of hp.2.2.2.2.2, ochk_of hnz, olt_s, hon_m hM, obd_s]
    have hst : (M_grains m w + M_step m i - 1) / M_step m i = stm m w i := rfl
    rw [hst]
    unfold oft
    have thq : (hon m (j - stm m w i) + (M_oneIn m w - 1) * hon m j) / M_oneIn m w = hon m (j - stm m w i) / M_oneIn m w + hon m j / M_oneIn m w * (M_oneIn m w - 1) := by
      rw [q3, hh (j - stm m w i), hh j, (thumb_eq (hn_le habc _) (hn_le habc _) q1 q2).1, (thumb_eq (hn_le habc _) (hn_le habc _) q1 q2).2]
    obtain ⟨sh, sh1, sh2, sh3⟩ := (hO.2.2.2 w hw).1
    have hs : sh = 0 ∨ sh = 1 ∨ sh = 2 ∨ sh = 3 := by omega
    rw [sh3]
    rcases hs with rfl | rfl | rfl | rfl
    · rw [if_neg (show ¬ nI 0 = 1 by decide), if_neg (show ¬ nI 0 = 2 by decide), if_neg (show ¬ nI 0 = 3 by decide)]
      split <;> rfl
    · rw [if_pos (show nI 1 = 1 from rfl)]
      split <;> rfl
    · rw [if_neg (show ¬ nI 2 = 1 by decide), if_pos (show nI 2 = 2 from rfl)]
      rcases and1 (M_sorts m w >>> (nI o &&& 31)) with e | e
      · rw [if_neg (show ¬ (M_sorts m w >>> (nI o &&& 31)) &&& 1 = 1 by rw [e]; decide), if_pos e]
        rfl
      · rw [if_pos e, if_neg (show ¬ (M_sorts m w >>> (nI o &&& 31)) &&& 1 = 0 by rw [e]; decide), thq]
        rfl
    · rw [if_neg (show ¬ nI 3 = 1 by decide), if_neg (show ¬ nI 3 = 2 by decide), if_pos (show nI 3 = 3 from rfl)]
      obtain ⟨vb, hvb⟩ : ∃ v : Int32, (if (M_sorts m w >>> (nI o &&& 31)) &&& 1 = 1 then some (1 : Int32) else some 0) = some v := by split <;> exact ⟨_, rfl⟩
      rw [hvb, obd_s, if_pos (show nI 3 = 3 from rfl)]
      unfold rnd
      by_cases z0 : j = 0
      · subst z0
        rw [if_pos rfl, if_pos rfl, Int32.add_mul]
        rfl
      · by_cases z1 : j = 1
        · subst z1
          rw [if_neg z0, if_pos rfl, if_neg z0, if_pos rfl]
          rfl
        · rw [if_neg z0, if_neg z1, if_neg z0, if_neg z1]
          rfl
  · rw [hin, obd_s, if_pos rfl]
    have f1 := hz j (far j hin (Or.inl rfl))
    have f2 := hz (j - stm m w i) (far _ hin (Or.inr rfl))
    have f3 := far j hin (Or.inl rfl)
    unfold oft
    rw [f1, f2]
    unfold rnd
    rw [if_neg f3.2.1, if_neg f3.2.2]
    have : (0 + (M_oneIn m w - 1) * 0) / M_oneIn m w = 0 := by
      rw [Int32.mul_zero, Int32.add_zero, q3, show (0 : Int32) = nI 0 from rfl, pk_div (by omega) (by omega) (by omega), Nat.zero_div]
    rw [this]
    split
    · rfl
    · split
      · split <;> rfl
      · split <;> rfl
/-- how often, as a number -/
theorem oft_n {ns nw w i : Nat} {m : SM} (o j : Int32) (hw : w < nw) (hi : i < ns) (hO : okM m ns nw) : rg (oft m w i o j) 0 600 := by
  obtain ⟨q, q1, q2, q3⟩ := (hO.2.2.2 w hw).2.2.1
  obtain ⟨a, b, c, habc, hh, hr⟩ := hon_n hO
  have l : ∀ j : Int32, rg (hon m j) 0 600 := fun j => ⟨hn a b c j.toInt * 60, by omega, by have := hn_le habc j.toInt; omega, hh j⟩
  unfold oft
  split
  · exact l _
  · split
    · split
      · exact l _
      · rw [q3, hh, hh, (thumb_eq (hn_le habc _) (hn_le habc _) q1 q2).1]
        refine ⟨_, by omega, ?_, rfl⟩
        have b1 := hn_le habc (j - stm m w i).toInt
        have b2 := hn_le habc j.toInt
        have : (q - 1) * hn a b c j.toInt ≤ (q - 1) * 10 := Nat.mul_le_mul_left _ b2
        have hq : q = 1 ∨ q = 2 ∨ q = 3 ∨ q = 4 ∨ q = 5 := by omega
        rcases hq with rfl | rfl | rfl | rfl | rfl <;> omega
    · split
      · refine ⟨hn 0 (a + b) c j.toInt * 60, by omega, ?_, hr j⟩
        have := hn_le (a := 0) (b := a + b) (c := c) (by omega) j.toInt
        omega
      · exact l _
theorem sim_often (F : Nat) : ∀ (t : ST) (u : SO) (a1 : Int32) (a2 : Int32) (a3 : Int32) (a4 : Int32), Rel t u → ∃ (r : Int32) (u2 : SO), f_X5_often F t a1 a2 a3 a4 = some r ∧ f_X6_often F u a1 a2 a3 a4 = some (r, u2) ∧ Rel t u2 := by
  intro t u a1 a2 a3 a4 hR
  have bad : ∀ r : Int32, ∃ (r_ : Int32) (u2 : SO), (some r : Option Int32) = some r_ ∧ (some (r, uO_thrown u 0) : Option (Int32 × SO)) = some (r_, u2) ∧ Rel t u2 := fun r => ⟨r, _, rfl, rfl, Rel_thr hR⟩
  have hR0 := hR
  obtain ⟨ns, nw, nx, ⟨hM1, hM2⟩, hX, hB, hK, hI, hV, hS, hT⟩ := hR
  have hK0 := hK
  obtain ⟨nb, nt, lk, hn, ⟨h1, h2, h3, h4, h5, h6, h7, h8, h9⟩, hb, ht⟩ := hK
  have hns := hM1.1.1
  have hnw := hM1.1.2.1
  unfold f_X5_often f_X6_often
  simp only [olt_s (uO_thrown u 0)]
  rcases isWay_both (F := F) (t := t) (u := uO_thrown u 0) a1 hM1 hM2 with ⟨w, gw1, rfl, gw3, gw4⟩ | ⟨gw3, gw4⟩
  rotate_left
  · rw [gw3, gw4]; exact bad _
  rw [gw3, gw4]; simp only [obd_s]; rw [if_neg one0, if_neg one0]
  rcases isStall_both (F := F) (t := t) (u := uO_thrown u 0) a2 hM1 hM2 with ⟨i, gi1, rfl, gi3, gi4⟩ | ⟨gi3, gi4⟩
  rotate_left
  · rw [gi3, gi4]; exact bad _
  rw [gi3, gi4]; simp only [obd_s]; rw [if_neg one0, if_neg one0]
  rcases isSort_both (F := F) a3 with ⟨o, go1, rfl, go3, go4⟩ | ⟨go3, go4⟩
  rotate_left
  · rw [go3, go4]; exact bad _
  rw [go3, go4]; simp only [obd_s]; rw [if_neg one0, if_neg one0]
  rw [oft_c (nI o) a4 gw1 gi1 hM1, oft_m (u := uO_thrown u 0) a4 gw1 gi1 go1 hM1 hM2]
  exact ⟨_, _, rfl, rfl, Rel_thr hR0⟩
