/-! ===== Int32 within bounds, floor ===== -/
theorem tA {x y : Int32} (h1 : -2147483648 ≤ x.toInt + y.toInt) (h2 : x.toInt + y.toInt ≤ 2147483647) : (x + y).toInt = x.toInt + y.toInt := by
  rw [Int32.toInt_add]; exact Int.bmod_eq_of_le (by omega) (by omega)
theorem tS {x y : Int32} (h1 : -2147483648 ≤ x.toInt - y.toInt) (h2 : x.toInt - y.toInt ≤ 2147483647) : (x - y).toInt = x.toInt - y.toInt := by
  rw [Int32.toInt_sub]; exact Int.bmod_eq_of_le (by omega) (by omega)
theorem tM {x y : Int32} (h1 : -2147483648 ≤ x.toInt * y.toInt) (h2 : x.toInt * y.toInt ≤ 2147483647) : (x * y).toInt = x.toInt * y.toInt := by
  rw [Int32.toInt_mul]; exact Int.bmod_eq_of_le (by omega) (by omega)
theorem div_b {a b : Int} (hb : 0 < b) : (0 ≤ a → 0 ≤ a.tdiv b ∧ a.tdiv b ≤ a ∧ 0 ≤ b * a.tdiv b ∧ b * a.tdiv b ≤ a ∧ 0 ≤ a.tmod b) ∧ (a ≤ 0 → a.tdiv b ≤ 0 ∧ a ≤ a.tdiv b ∧ b * a.tdiv b ≤ 0 ∧ a ≤ b * a.tdiv b ∧ a.tmod b ≤ 0) := by
  have pos : ∀ c : Int, 0 ≤ c → 0 ≤ c.tdiv b ∧ c.tdiv b ≤ c ∧ 0 ≤ b * c.tdiv b ∧ b * c.tdiv b ≤ c ∧ 0 ≤ c.tmod b := by
    intro c hc
    have e := Int.mul_tdiv_add_tmod c b
    have h1 := Int.tdiv_nonneg hc (by omega : 0 ≤ b)
    have h2 := Int.tmod_nonneg b hc
    have h3 : 0 ≤ b * c.tdiv b := Int.mul_nonneg (by omega) h1
    exact ⟨h1, Int.tdiv_le_self b hc, h3, by omega, h2⟩
  refine ⟨pos a, fun ha => ?_⟩
  obtain ⟨h1, h2, h3, h4, h5⟩ := pos (-a) (by omega)
  rw [Int.neg_tdiv, Int.neg_tmod] at *
  rw [Int.mul_neg] at h3 h4
  omega
theorem tD {x y : Int32} (hy : 0 < y.toInt) : (x / y).toInt = x.toInt.tdiv y.toInt := by
  rw [Int32.toInt_div]
  have h1 := Int32.le_toInt x
  have h2 := Int32.toInt_lt x
  obtain ⟨p, n⟩ := div_b (a := x.toInt) hy
  refine Int.bmod_eq_of_le ?_ ?_
  · rcases Int.le_total 0 x.toInt with h | h
    · have := p h; omega
    · have := n h; omega
  · rcases Int.le_total 0 x.toInt with h | h
    · have := p h; omega
    · have := n h; omega
theorem tR {x y : Int32} (hy : 0 < y.toInt) : (x - x / y * y).toInt = x.toInt.tmod y.toInt := by
  have h1 := Int32.le_toInt x
  have h2 := Int32.toInt_lt x
  obtain ⟨p, n⟩ := div_b (a := x.toInt) hy
  have e := Int.mul_tdiv_add_tmod x.toInt y.toInt
  have d := tD (x := x) hy
  have c := Int.mul_comm y.toInt (x.toInt.tdiv y.toInt)
  have k : -2147483648 ≤ x.toInt.tdiv y.toInt * y.toInt ∧ x.toInt.tdiv y.toInt * y.toInt ≤ 2147483647 := by
    rcases Int.le_total 0 x.toInt with h | h
    · have := p h; omega
    · have := n h; omega
  have m : (x / y * y).toInt = x.toInt.tdiv y.toInt * y.toInt := by
    rw [tM (by rw [d]; exact k.1) (by rw [d]; exact k.2), d]
  have b : -2147483648 ≤ x.toInt - x.toInt.tdiv y.toInt * y.toInt ∧ x.toInt - x.toInt.tdiv y.toInt * y.toInt ≤ 2147483647 := by
    rcases Int.le_total 0 x.toInt with h | h
    · have := p h; omega
    · have := n h; omega
  rw [tS (by rw [m]; exact b.1) (by rw [m]; exact b.2), m]
  omega
theorem nn_msb (x : Int32) : 0 ≤ x ↔ x.toBitVec.msb = false := by
  rw [Int32.le_iff_toInt_le]
  show (0 : Int) ≤ x.toBitVec.toInt ↔ _
  rw [BitVec.msb_eq_toInt]
  simp
theorem xor_nn {a b : Int32} (hb : 0 ≤ b) : 0 ≤ a ^^^ b ↔ 0 ≤ a := by
  rw [nn_msb] at hb
  rw [nn_msb, nn_msb, Int32.toBitVec_xor, BitVec.msb_xor, hb, Bool.xor_false]
theorem floorDiv_eq {F : Nat} {a b : Int32} (hb : 0 < b.toInt) : f_J9_floorDiv_7cf53 F a b = some (flo a b) := by
  have hb0 : ¬ b = 0 := fun e => by rw [e] at hb; exact absurd hb (by decide)
  have hbn : 0 ≤ b := Int32.le_iff_toInt_le.mpr (show (0 : Int) ≤ b.toInt by omega)
  obtain ⟨p, n⟩ := div_b (a := a.toInt) hb
  have r := tR (x := a) hb
  have r0 : 0 ≤ a - a / b * b ↔ 0 ≤ a.toInt.tmod b.toInt := by rw [Int32.le_iff_toInt_le, r]; rfl
  have a0 : 0 ≤ a ↔ 0 ≤ a.toInt := by rw [Int32.le_iff_toInt_le]; rfl
  unfold f_J9_floorDiv_7cf53 flo
  rw [ochk_of hb0]
  by_cases h : 0 ≤ a
  · rw [if_pos ((xor_nn hbn).mpr h), if_pos (r0.mpr (p (a0.mp h)).2.2.2.2)]
  · rw [if_neg (fun z => h ((xor_nn hbn).mp z))]
    have hn := n (by have := mt a0.mpr h; omega)
    have q : 0 ≤ a - a / b * b ↔ a / b * b = a := by
      rw [r0]
      constructor
      · intro z
        apply Int32.toInt_inj.mp
        have z0 : (a - a / b * b).toInt = 0 := by rw [r]; omega
        have z1 : a - a / b * b = 0 := Int32.toInt_inj.mp (by rw [z0]; rfl)
        have z2 : a = a / b * b := by
          have := congrArg (fun q => q + a / b * b) z1
          simp only [Int32.sub_add_cancel, Int32.zero_add] at this
          exact this
        rw [← z2]
      · intro z
        have z1 : (a - a / b * b).toInt = 0 := by rw [z, Int32.sub_self]; rfl
        rw [r] at z1
        omega
    by_cases c : a / b * b = a
    · rw [if_pos c, if_pos (q.mpr c)]
    · rw [if_neg c, if_neg (fun z => c (q.mp z))]
theorem floor_eq {F : Nat} {a b : Int32} (hb : ¬ b = 0) : f_X6_floor F a b = some (flo a b) := by
  unfold f_X6_floor flo
  rw [ochk_of hb, ochk_of hb]
  split <;> rfl
