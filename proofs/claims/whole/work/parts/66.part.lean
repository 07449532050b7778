/-! ===== powers, common divisors ===== -/
theorem power_c {F k : Nat} (a : Int64) (hF : k < F) (hk : k < 2 ^ 31) : f_X5_power F a (nI k) = some (pw a k) := by
  unfold f_X5_power
  refine run_fg (L := fun n (p : Int64 × Int32) => f_X5_power_L5 F a (nI k) n p.1 p.2) (st := fun j => (pw a j, nI j)) (N := k) ?_ ?_ F hF
  · intro n j hj
    show f_X5_power_L5 F a (nI k) (n + 1) (pw a j) (nI j) = f_X5_power_L5 F a (nI k) n (pw a j * a) (nI (j + 1))
    rw [f_X5_power_L5, if_neg (nI_ge hj hk), s1]
  · intro n
    show f_X5_power_L5 F a (nI k) (n + 1) (pw a k) (nI k) = _
    rw [f_X5_power_L5, if_pos (nI_le (Nat.le_refl _) hk)]
theorem power_m {F k : Nat} (a : Int64) (hF : k < F) (hk : k < 2 ^ 31) : f_X6_power F a (nI k) = some (pw a k) := by
  unfold f_X6_power
  refine run_fg (L := fun n (p : Int64 × Int32) => f_X6_power_L5 F a (nI k) n p.1 p.2) (st := fun j => (pw a j, nI j)) (N := k) ?_ ?_ F hF
  · intro n j hj
    show f_X6_power_L5 F a (nI k) (n + 1) (pw a j) (nI j) = f_X6_power_L5 F a (nI k) n (pw a j * a) (nI (j + 1))
    rw [f_X6_power_L5, if_neg (nI_ge hj hk), s1]
  · intro n
    show f_X6_power_L5 F a (nI k) (n + 1) (pw a k) (nI k) = _
    rw [f_X6_power_L5, if_pos (nI_le (Nat.le_refl _) hk)]
theorem pw_lN (b k : Nat) : pw (lN b) k = lN (b ^ k) := by
  induction k with
  | zero => rfl
  | succ k ih => show pw (lN b) k * lN b = _; rw [ih, lN_mul, Nat.pow_succ]
theorem l0 : (0 : Int64) = lN 0 := rfl
theorem lN0 {a : Nat} (h : a < 2 ^ 63) : lN a = 0 ↔ a = 0 := by
  rw [l0, pk_lEQ h (by omega)]
theorem half {a b : Nat} (hb : 0 < b) (hr : 0 < a % b) : 2 * (b % (a % b)) < b := by
  have h1 : a % b < b := Nat.mod_lt _ hb
  have h2 : b % (a % b) < a % b := Nat.mod_lt _ hr
  have h3 := Nat.div_add_mod b (a % b)
  have h4 : 1 ≤ b / (a % b) := Nat.div_pos (by omega) hr
  have h5 : a % b * 1 ≤ a % b * (b / (a % b)) := Nat.mul_le_mul_left _ h4
  omega
theorem gcd_both {F : Nat} (o1 o2 p1 p2 : Int64) : ∀ k a b : Nat, a < 2 ^ 63 → b < 2 ^ 63 → b < 2 ^ k → 0 < a + b → ∀ n n' t, 2 * k + 1 ≤ n → 2 * k + 1 ≤ n' → t + 2 * k + 1 ≤ 200 → ∃ g, 0 < g ∧ g < 2 ^ 63 ∧ f_X5_commonDivisor_L9 F o1 o2 n (lN a) (lN b) (nI t) = some (lN g) ∧ f_X6_gcd_L9 F p1 p2 n' (lN a) (lN b) = some (lN g) := by
  have base : ∀ a n n' t : Nat, a < 2 ^ 63 → 0 < a → 1 ≤ n → 1 ≤ n' → t < 200 → f_X5_commonDivisor_L9 F o1 o2 n (lN a) (lN 0) (nI t) = some (lN a) ∧ f_X6_gcd_L9 F p1 p2 n' (lN a) (lN 0) = some (lN a) := by
    intro a n n' t ha h0 hn hn' ht
    obtain ⟨n, rfl⟩ : ∃ q, n = q + 1 := ⟨n - 1, by omega⟩
    obtain ⟨n', rfl⟩ : ∃ q, n' = q + 1 := ⟨n' - 1, by omega⟩
    have c : ¬ (200 : Int32) ≤ nI t := nI_ge (b := 200) ht (by omega)
    have z : lg_cmp (lN 0) 0 = 0 := rfl
    rw [f_X5_commonDivisor_L9, f_X6_gcd_L9, if_neg c, if_pos z, if_pos z]
    exact ⟨rfl, rfl⟩
  have step : ∀ a b n n' t : Nat, a < 2 ^ 63 → b < 2 ^ 63 → 0 < b → t < 200 → f_X5_commonDivisor_L9 F o1 o2 (n + 1) (lN a) (lN b) (nI t) = f_X5_commonDivisor_L9 F o1 o2 n (lN b) (lN (a % b)) (nI (t + 1)) ∧ f_X6_gcd_L9 F p1 p2 (n' + 1) (lN a) (lN b) = f_X6_gcd_L9 F p1 p2 n' (lN b) (lN (a % b)) := by
    intro a b n n' t ha hb h0 ht
    have c : ¬ (200 : Int32) ≤ nI t := nI_ge (b := 200) ht (by omega)
    have nz : ¬ lN b = 0 := fun e => by have := (lN0 hb).mp e; omega
    have z : ¬ lg_cmp (lN b) 0 = 0 := fun e => nz ((lg_cmp_eq _ _).mp e)
    rw [f_X5_commonDivisor_L9, f_X6_gcd_L9, if_neg c, if_neg z, if_neg z, ochk_of nz, ochk_of nz, pk_lRem ha h0 hb, s1]
    exact ⟨rfl, rfl⟩
  intro k
  induction k with
  | zero =>
    intro a b ha hb hk h0 n n' t hn hn' ht
    have : b = 0 := by omega
    subst this
    obtain ⟨q1, q2⟩ := base a n n' t ha (by omega) (by omega) (by omega) (by omega)
    exact ⟨a, by omega, ha, q1, q2⟩
  | succ k ih =>
    intro a b ha hb hk h0 n n' t hn hn' ht
    rcases Nat.eq_zero_or_pos b with rfl | hb0
    · obtain ⟨q1, q2⟩ := base a n n' t ha (by omega) (by omega) (by omega) (by omega)
      exact ⟨a, by omega, ha, q1, q2⟩
    obtain ⟨n, rfl⟩ : ∃ q, n = q + 1 := ⟨n - 1, by omega⟩
    obtain ⟨n', rfl⟩ : ∃ q, n' = q + 1 := ⟨n' - 1, by omega⟩
    obtain ⟨q1, q2⟩ := step a b n n' t ha hb hb0 (by omega)
    rw [q1, q2]
    have hr : a % b < b := Nat.mod_lt _ hb0
    rcases Nat.eq_zero_or_pos (a % b) with e | hr0
    · rw [e]
      exact ih b 0 hb (by omega) (Nat.two_pow_pos k) (by omega) n n' (t + 1) (by omega) (by omega) (by omega)
    · obtain ⟨n, rfl⟩ : ∃ q, n = q + 1 := ⟨n - 1, by omega⟩
      obtain ⟨n', rfl⟩ : ∃ q, n' = q + 1 := ⟨n' - 1, by omega⟩
      obtain ⟨q3, q4⟩ := step b (a % b) n n' (t + 1) hb (by omega) hr0 (by omega)
      rw [q3, q4]
      have hh := half hb0 hr0
      have hk2 : 2 ^ (k + 1) = 2 * 2 ^ k := by rw [Nat.pow_succ, Nat.mul_comm]
      exact ih (a % b) (b % (a % b)) (by omega) (by omega) (by omega) (by omega) n n' (t + 1 + 1) (by omega) (by omega) (by omega)
theorem l_of {x : Int64} (h : 0 ≤ x.toInt) : x = lN x.toInt.toNat := by
  apply Int64.toInt_inj.mp
  have := Int64.toInt_lt x
  rw [pk_lT (by omega)]
  omega
theorem abs_both {F : Nat} {a : Int64} (ha : -9223372036854775808 < a.toInt) : (if 0 < a then a else -a) = lN a.toInt.natAbs ∧ f_X6_size F a = some (lN a.toInt.natAbs) ∧ a.toInt.natAbs < 2 ^ 63 := by
  have hl := Int64.toInt_lt a
  have hl' : a.toInt < 9223372036854775808 := hl
  have hN : a.toInt.natAbs < 2 ^ 63 := by omega
  have ng : -a = lN a.toInt.natAbs ∨ 0 < a.toInt := by
    by_cases h : 0 < a.toInt
    · exact Or.inr h
    · refine Or.inl (Int64.toInt_inj.mp ?_)
      rw [Int64.toInt_neg, pk_lT hN, Int.bmod_eq_of_le (by omega) (by omega)]
      omega
  have ps : 0 ≤ a.toInt → a = lN a.toInt.natAbs := by
    intro h
    apply Int64.toInt_inj.mp
    rw [pk_lT hN]
    omega
  have c1 : 0 < a ↔ 0 < a.toInt := Int64.lt_iff_toInt_lt
  have c2 : 0 ≤ lg_cmp a 0 ↔ 0 ≤ a.toInt := by rw [lg_cmp_ge, Int64.le_iff_toInt_le]; rfl
  refine ⟨?_, ?_, hN⟩
  · by_cases h : 0 < a
    · rw [if_pos h]; exact ps (by have := c1.mp h; omega)
    · rw [if_neg h]; exact ng.resolve_right (fun q => h (c1.mpr q))
  · unfold f_X6_size
    by_cases h : 0 ≤ lg_cmp a 0
    · rw [if_pos h]; exact congrArg some (ps (c2.mp h))
    · rw [if_neg h]; exact congrArg some (ng.resolve_right (fun q => h (c2.mpr (by omega))))
theorem part_both {F : Nat} (hF : 2000 ≤ F) {a b : Int64} (c : Int32) (ha : -9223372036854775808 < a.toInt) (hb : 0 < b.toInt) : ∃ r, f_X5_inLeastTerms F a b c = some r ∧ f_X6_part F a b c = some r := by
  obtain ⟨e1, e2, e3⟩ := abs_both (F := F) ha
  have hbl := Int64.toInt_lt b
  have hbN : b.toInt.toNat < 2 ^ 63 := by omega
  have eb : b = lN b.toInt.toNat := l_of (by omega)
  obtain ⟨g, g1, g2, g3, g4⟩ := gcd_both (F := F) (lN a.toInt.natAbs) b a b 63 a.toInt.natAbs b.toInt.toNat e3 hbN hbN (by omega) F F 0 (by omega) (by omega) (by omega)
  rw [← eb] at g3 g4
  have g5 : f_X5_commonDivisor F (if 0 < a then a else -a) b = some (lN g) := by rw [e1]; exact g3
  have g6 : f_X6_gcd F a b = some (lN g) := by unfold f_X6_gcd; rw [e2]; exact g4
  have nz : ¬ lN g = 0 := fun e => by have := (lN0 g2).mp e; omega
  have p : 0 < lg_cmp (lN g) 0 := by rw [lg_cmp_gt, l0, pk_lLT (by omega) g2]; exact g1
  unfold f_X5_inLeastTerms f_X6_part
  rw [g5, g6, obd_s, obd_s, if_pos p, ochk_of nz, ochk_of nz]
  by_cases h : c = 0
  · rw [if_pos h]; exact ⟨_, rfl, rfl⟩
  · rw [if_neg h]; exact ⟨_, rfl, rfl⟩
