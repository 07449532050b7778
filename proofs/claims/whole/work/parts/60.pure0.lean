/-! ===== pure rows: Option words, loops, numbers ===== -/
theorem ochi_of {β : Type} {i : Int32} {n : Nat} {x : Option β} (h : vp_in i n) : ochi i n x = x := if_neg h
theorem ochi_n {β : Type} {k n : Nat} {x : Option β} (h : k < n) (hn : n < 2 ^ 31) : ochi (nI k) n x = x := ochi_of (vp_in_nI h hn)
theorem obd_s {α β : Type} (a : α) (f : α → Option β) : obd (some a) f = f a := rfl
theorem olt_s {α β : Type} (a : α) (f : α → Option β) : olt a f = f a := rfl
theorem ochk_of {β : Type} {c : Prop} [Decidable c] {x : Option β} (h : c) : ochk c x = x := if_pos h
theorem obd_e {α β : Type} {x : Option α} {a : α} {f : α → Option β} (h : x = some a) : obd x f = f a := by rw [h]; rfl
/-- f 0, f 1, .. f (k-1) one behind the other -/
def fo {α : Type} (f : Nat → α → α) : Nat → α → α
  | 0, a => a
  | k + 1, a => f k (fo f k a)
theorem loop_fo {α β : Type} {L : Nat → α → Int32 → Option β} {f : Nat → α → α} {K : Option β} {N : Nat} {a0 : α} (hs : ∀ n k, k < N → L (n + 1) (fo f k a0) (nI k) = L n (f k (fo f k a0)) (nI (k + 1))) (he : ∀ n, L (n + 1) (fo f N a0) (nI N) = K) : ∀ n, N < n → L n a0 (nI 0) = K := by
  have key : ∀ m k n, k + m = N → m < n → L n (fo f k a0) (nI k) = K := by
    intro m
    induction m with
    | zero =>
      intro k n hk hn
      obtain ⟨n, rfl⟩ : ∃ q, n = q + 1 := ⟨n - 1, by omega⟩
      have : k = N := by omega
      subst this
      exact he n
    | succ m ih =>
      intro k n hk hn
      obtain ⟨n, rfl⟩ : ∃ q, n = q + 1 := ⟨n - 1, by omega⟩
      rw [hs n k (by omega)]
      exact ih (k + 1) n (by omega) (by omega)
  intro n hn
  exact key N 0 n (by omega) hn
theorem fo_congr {α : Type} {f g : Nat → α → α} {N : Nat} (h : ∀ k, k < N → ∀ a, f k a = g k a) (a : α) : fo f N a = fo g N a := by
  induction N with
  | zero => rfl
  | succ N ih =>
    show f N (fo f N a) = g N (fo g N a)
    rw [ih (fun k hk => h k (by omega)), h N (by omega)]
theorem fo_ind {α : Type} {f : Nat → α → α} {P : Nat → α → Prop} {N : Nat} {a : α} (h0 : P 0 a) (hs : ∀ k b, k < N → P k b → P (k + 1) (f k b)) : P N (fo f N a) := by
  have : ∀ k, k ≤ N → P k (fo f k a) := by
    intro k
    induction k with
    | zero => intro _; exact h0
    | succ k ih => intro hk; exact hs k _ (by omega) (ih (by omega))
  exact this N (Nat.le_refl N)
/-- a number within bounds -/
def rg (x : Int32) (lo hi : Nat) : Prop := ∃ k : Nat, lo ≤ k ∧ k ≤ hi ∧ x = nI k
theorem rg_int {x : Int32} {lo hi : Nat} (h : rg x lo hi) (hh : hi < 2 ^ 31) : (lo : Int) ≤ x.toInt ∧ x.toInt ≤ hi := by
  obtain ⟨k, h1, h2, rfl⟩ := h
  rw [nI_toInt (by omega)]
  omega
theorem rg_of {x : Int32} {lo hi : Nat} (h1 : (lo : Int) ≤ x.toInt) (h2 : x.toInt ≤ hi) : rg x lo hi := by
  refine ⟨x.toInt.toNat, by omega, by omega, ?_⟩
  apply Int32.toInt_inj.mp
  have hx := Int32.toInt_lt x
  rw [nI_toInt (by omega)]
  omega
theorem i_le {a b : Nat} (ha : a < 2 ^ 31) (hb : b < 2 ^ 31) : (nI a ≤ nI b) = (a ≤ b) := propext (nI_leI ha hb)
theorem i_lt {a b : Nat} (ha : a < 2 ^ 31) (hb : b < 2 ^ 31) : (nI a < nI b) = (a < b) := propext (nI_ltI ha hb)
theorem i_eq {a b : Nat} (ha : a < 2 ^ 31) (hb : b < 2 ^ 31) : (nI a = nI b) = (a = b) := propext (nI_eq ha hb)
theorem nIl (n : Nat) : (OfNat.ofNat n : Int32) = nI n := rfl
theorem s1 (k : Nat) : nI k + 1 = nI (k + 1) := nI_1 k
theorem cl {k : Nat} (h : k < 2 ^ 31) : Int32.toNatClampNeg (nI k) = k := nI_clamp h
/-- the choice that within(), in() make -/
theorem within_eq (F : Nat) (v a b : Int32) : f_X5_within F v a b = some (if a ≤ v ∧ v ≤ b then 1 else 0) := by
  unfold f_X5_within
  by_cases h1 : v < a
  · rw [if_pos h1, if_neg (fun q => absurd q.1 (Int32.not_le.mpr h1))]
  · rw [if_neg h1]
    by_cases h2 : b < v
    · rw [if_pos h2, if_neg (fun q => absurd q.2 (Int32.not_le.mpr h2))]
    · rw [if_neg h2, if_pos ⟨Int32.not_lt.mp h1, Int32.not_lt.mp h2⟩]
theorem in_eq (F : Nat) (v a b : Int32) : f_X6_in F v a b = some (if a ≤ v ∧ v ≤ b then 1 else 0) := by
  unfold f_X6_in
  by_cases h1 : v < a
  · rw [if_pos h1, if_neg (fun q => absurd q.1 (Int32.not_le.mpr h1))]
  · rw [if_neg h1]
    by_cases h2 : b < v
    · rw [if_pos h2, if_neg (fun q => absurd q.2 (Int32.not_le.mpr h2))]
    · rw [if_neg h2, if_pos ⟨Int32.not_lt.mp h1, Int32.not_lt.mp h2⟩]
theorem ite01 {c : Prop} [Decidable c] : ((if c then (1 : Int32) else 0) = 0) = ¬ c := by
  by_cases h : c <;> simp [h]
theorem ite01' {c : Prop} [Decidable c] : ((if c then (1 : Int32) else 0) = 0 ∨ (if c then (1 : Int32) else 0) = 1) := by
  by_cases h : c <;> simp [h]
theorem rg_iff {v : Int32} {lo hi : Nat} (hl : lo < 2 ^ 31) (hh : hi < 2 ^ 31) : (nI lo ≤ v ∧ v ≤ nI hi) ↔ rg v lo hi := by
  rw [Int32.le_iff_toInt_le, Int32.le_iff_toInt_le, nI_toInt hl, nI_toInt hh]
  exact ⟨fun h => rg_of h.1 h.2, fun h => rg_int h hh⟩
/-- a loop of which every turn's state is known -/
theorem run_fg {α β : Type} {L : Nat → α → Option β} {st : Nat → α} {K : Option β} {N : Nat} (hs : ∀ n k, k < N → L (n + 1) (st k) = L n (st (k + 1))) (he : ∀ n, L (n + 1) (st N) = K) : ∀ n, N < n → L n (st 0) = K := by
  have key : ∀ m k n, k + m = N → m < n → L n (st k) = K := by
    intro m
    induction m with
    | zero =>
      intro k n hk hn
      obtain ⟨n, rfl⟩ : ∃ q, n = q + 1 := ⟨n - 1, by omega⟩
      have : k = N := by omega
      subst this
      exact he n
    | succ m ih =>
      intro k n hk hn
      obtain ⟨n, rfl⟩ : ∃ q, n = q + 1 := ⟨n - 1, by omega⟩
      rw [hs n k (by omega)]
      exact ih (k + 1) n (by omega) (by omega)
  intro n hn
  exact key N 0 n (by omega) hn
/-- a loop with an invariant -/
theorem run_ex {α β : Type} {L : Nat → α → Option β} {R : Nat → α → Prop} {N : Nat} (hs : ∀ n k a, k < N → R k a → ∃ b, R (k + 1) b ∧ L (n + 1) a = L n b) : ∀ n a, R 0 a → N < n → ∃ b m, R N b ∧ L n a = L (m + 1) b := by
  have key : ∀ m k n a, k + m = N → m < n → R k a → ∃ b q, R N b ∧ L n a = L (q + 1) b := by
    intro m
    induction m with
    | zero =>
      intro k n a hk hn hr
      obtain ⟨n, rfl⟩ : ∃ q, n = q + 1 := ⟨n - 1, by omega⟩
      have : k = N := by omega
      subst this
      exact ⟨a, n, hr, rfl⟩
    | succ m ih =>
      intro k n a hk hn hr
      obtain ⟨n, rfl⟩ : ∃ q, n = q + 1 := ⟨n - 1, by omega⟩
      obtain ⟨b, hb, e⟩ := hs n k a (by omega) hr
      obtain ⟨c, q, hc, e2⟩ := ih (k + 1) n b (by omega) (by omega) hb
      exact ⟨c, q, hc, e.trans e2⟩
  intro n a h0 hn
  exact key N 0 n a (by omega) hn h0
theorem and1 (x : Int32) : x &&& 1 = 0 ∨ x &&& 1 = 1 := by
  obtain ⟨j, hj, e⟩ := pk_andE x (m := 1) 1 rfl
  rw [e]
  have : j = 0 ∨ j = 1 := by omega
  rcases this with rfl | rfl
  · exact Or.inl rfl
  · exact Or.inr rfl
theorem isPart_both {F : Nat} (a : Int32) : ((a = 0 ∨ a = 1) ∧ f_X5_isPart F a = some 1 ∧ f_X6_in F a 0 1 = some 1) ∨ (f_X5_isPart F a = some 0 ∧ f_X6_in F a 0 1 = some 0) := by
  unfold f_X5_isPart
  by_cases h0 : a = 0
  · subst h0; exact Or.inl ⟨Or.inl rfl, rfl, rfl⟩
  by_cases h1 : a = 1
  · subst h1; exact Or.inl ⟨Or.inr rfl, rfl, rfl⟩
  refine Or.inr ⟨by rw [if_neg h0, if_neg h1], ?_⟩
  rw [in_eq, if_neg]
  intro q
  obtain ⟨k, k1, k2, rfl⟩ := (rg_iff (v := a) (lo := 0) (hi := 1) (by omega) (by omega)).mp q
  have : k = 0 ∨ k = 1 := by omega
  rcases this with rfl | rfl
  · exact h0 rfl
  · exact h1 rfl
