section
/-! ===== the text: bytes and words ===== -/
def lx_wl : Nat → List Nat
  | 0 => [107, 99, 117, 108]
  | 1 => [108, 108, 97, 116, 115]
  | 2 => [121, 97, 119]
  | 3 => [98, 109, 117, 104, 116]
  | 4 => [116, 115, 101, 110, 111, 104]
  | 5 => [100, 110, 117, 111, 114]
  | 6 => [101, 108, 97, 99, 115]
  | 7 => [110, 105]
  | 8 => [111, 116]
  | 9 => [100, 108, 111]
  | 10 => [103, 110, 117, 111, 121]
  | 11 => [100, 110, 101, 105, 114, 102]
  | 12 => [114, 101, 103, 110, 97, 114, 116, 115]
  | _ => []
def lx_rv : Nat → Nat
  | 3 => 5
  | 4 => 3
  | 5 => 6
  | 6 => 4
  | w => w
def lx_eR : List Nat → Nat
  | [] => 0
  | c :: l => 256 * lx_eR l + c
def lx_eD (ds : Nat → Nat) : Nat → Nat
  | 0 => 0
  | k + 1 => 256 * lx_eD ds k + ds k
def lx_mt (ds : Nat → Nat) : Nat → List Nat → Prop
  | 0, [] => True
  | _ + 1, [] => False
  | 0, _ :: _ => False
  | k + 1, c :: l => ds k = c ∧ lx_mt ds k l
theorem lx_en {ds : Nat → Nat} : ∀ (l : List Nat) (k : Nat), (∀ c, c ∈ l → 1 ≤ c ∧ c ≤ 255) → (∀ j, j < k → 1 ≤ ds j ∧ ds j ≤ 255) → (lx_eD ds k = lx_eR l ↔ lx_mt ds k l) := by
  intro l
  induction l with
  | nil =>
    intro k hl hd
    cases k with
    | zero => exact ⟨fun _ => trivial, fun _ => rfl⟩
    | succ k =>
      have h1 := hd k (by omega)
      refine ⟨fun h => ?_, fun h => h.elim⟩
      have h' : 256 * lx_eD ds k + ds k = 0 := h
      exfalso
      omega
  | cons c l ih =>
    intro k hl hd
    have h2 := hl c (List.Mem.head l)
    cases k with
    | zero =>
      refine ⟨fun h => ?_, fun h => h.elim⟩
      have h' : 0 = 256 * lx_eR l + c := h
      exfalso
      omega
    | succ k =>
      have h1 := hd k (by omega)
      have e := ih k (fun x hx => hl x (List.Mem.tail c hx)) (fun j hj => hd j (by omega))
      show 256 * lx_eD ds k + ds k = 256 * lx_eR l + c ↔ ds k = c ∧ lx_mt ds k l
      rw [← e]
      omega
theorem lx_len {ds : Nat → Nat} : ∀ (l : List Nat) (k : Nat), lx_mt ds k l → k = l.length := by
  intro l
  induction l with
  | nil =>
    intro k h
    cases k with
    | zero => rfl
    | succ k => exact h.elim
  | cons c l ih =>
    intro k h
    cases k with
    | zero => exact h.elim
    | succ k =>
      have h1 := ih k h.2
      show k + 1 = l.length + 1
      omega
theorem lx_all {ds : Nat → Nat} : ∀ (l : List Nat), (lx_mt ds l.length l ↔ ∀ j, j < l.length → ds j = l.getD (l.length - 1 - j) 0) := by
  intro l
  induction l with
  | nil => exact ⟨fun _ j hj => absurd hj (Nat.not_lt_zero j), fun _ => trivial⟩
  | cons c l ih =>
    show (ds l.length = c ∧ lx_mt ds l.length l) ↔ ∀ j, j < l.length + 1 → ds j = (c :: l).getD (l.length + 1 - 1 - j) 0
    rw [ih]
    have e0 : l.length + 1 - 1 - l.length = 0 := by omega
    constructor
    · intro h j hj
      by_cases e : j = l.length
      · subst e
        exact h.1.trans (congrArg (fun q => (c :: l).getD q 0) e0.symm)
      · have e2 : l.length + 1 - 1 - j = (l.length - 1 - j) + 1 := by omega
        exact (h.2 j (by omega)).trans (congrArg (fun q => (c :: l).getD q 0) e2.symm)
    · intro h
      refine ⟨(h l.length (by omega)).trans (congrArg (fun q => (c :: l).getD q 0) e0), fun j hj => ?_⟩
      have e2 : l.length + 1 - 1 - j = (l.length - 1 - j) + 1 := by omega
      exact (h j (by omega)).trans (congrArg (fun q => (c :: l).getD q 0) e2)
theorem lx_w1 : ∀ w, w < 13 → jlen w = nI (lx_wl w).length ∧ sLen.getD w 0 = (lx_wl w).length ∧ (∀ c, c ∈ lx_wl w → 1 ≤ c ∧ c ≤ 255) ∧ (lx_wl w).length ≤ 8 ∧ (lx_wl w).length ≠ 7 ∧ ((lx_wl w).length = 8 → w = 12) := by decide +kernel
theorem lx_w2 : ∀ w, w < 13 → ∀ j, j < 8 → j < (lx_wl w).length → jchr w j = nI ((lx_wl w).getD ((lx_wl w).length - 1 - j) 0) ∧ (lx_wl w).getD ((lx_wl w).length - 1 - j) 0 ≤ 255 := by decide +kernel
theorem lx_w3 : ∀ w, w < 13 → ∀ q, q < 13 → lx_eR (lx_wl w) = lx_eR (lx_wl q) → w = q := by decide +kernel
theorem lx_w4 : ∀ w, w < 13 → lx_rv w < 13 ∧ ∀ q, q < 13 → lx_rv w = lx_rv q → w = q := by decide +kernel
theorem lx_w5 : ∀ w, w < 13 → lx_eR (lx_wl w) < 2 ^ 63 := by decide +kernel
theorem lx_w6 : ∀ w, w < 13 → ∀ j, j < 8 → j < (lx_wl w).length → 1 ≤ (lx_wl w).getD ((lx_wl w).length - 1 - j) 0 ∧ (lx_wl w).getD ((lx_wl w).length - 1 - j) 0 ≤ 255 := by decide +kernel
/-! signs -/
def lx_sg (c : Nat) : Int32 := if 97 ≤ c ∧ c ≤ 122 then 1 else if 48 ≤ c ∧ c ≤ 57 then 2 else if c = 59 then 3 else 4
theorem lx_sg1 {c : Nat} (h : 97 ≤ c ∧ c ≤ 122) : lx_sg c = 1 := if_pos h
theorem lx_sg2 {c : Nat} (h : 48 ≤ c ∧ c ≤ 57) : lx_sg c = 2 := by
  unfold lx_sg
  rw [if_neg (by omega), if_pos h]
theorem lx_sg3 {c : Nat} (h1 : ¬ (97 ≤ c ∧ c ≤ 122)) (h2 : ¬ (48 ≤ c ∧ c ≤ 57)) : lx_sg c = if c = 59 then 3 else 4 := by
  unfold lx_sg
  rw [if_neg h1, if_neg h2]
theorem lx_sg34 {c : Nat} (h1 : ¬ (97 ≤ c ∧ c ≤ 122)) (h2 : ¬ (48 ≤ c ∧ c ≤ 57)) : (lx_sg c = 3 ∧ c = 59) ∨ (lx_sg c = 4 ∧ c ≠ 59) := by
  rw [lx_sg3 h1 h2]
  by_cases h : c = 59
  · exact Or.inl ⟨if_pos h, h⟩
  · exact Or.inr ⟨if_neg h, h⟩
theorem lx_sg1n {c : Nat} (h : ¬ (97 ≤ c ∧ c ≤ 122)) : lx_sg c ≠ 1 := by
  by_cases h2 : 48 ≤ c ∧ c ≤ 57
  · rw [lx_sg2 h2]; decide
  · rcases lx_sg34 h h2 with e | e
    · rw [e.1]; decide
    · rw [e.1]; decide
theorem lx_sg2n {c : Nat} (h : ¬ (48 ≤ c ∧ c ≤ 57)) : lx_sg c ≠ 2 := by
  by_cases h2 : 97 ≤ c ∧ c ≤ 122
  · rw [lx_sg1 h2]; decide
  · rcases lx_sg34 h2 h with e | e
    · rw [e.1]; decide
    · rw [e.1]; decide
theorem lx_signAt {F j n c : Nat} (s : SR) (hl : R_length s = nI n) (hj : j < n) (hn : n ≤ 400) (ht : R_text s j = nI c) (hc : c ≤ 255) : f_X3_signAt F s (nI j) = some (lx_sg c) := by
  unfold f_X3_signAt
  rw [if_neg (nI_pos (by omega)), hl, if_pos (nI_lt hj (by omega)), ochi_n (by omega) (by omega), cl (by omega), ht]
  simp only [olt_s]
  have c1 : (nI c < (97 : Int32)) = (c < 97) := i_lt (a := c) (b := 97) (by omega) (by omega)
  have c2 : ((122 : Int32) < nI c) = (122 < c) := i_lt (a := 122) (b := c) (by omega) (by omega)
  have c3 : (nI c < (48 : Int32)) = (c < 48) := i_lt (a := c) (b := 48) (by omega) (by omega)
  have c4 : ((57 : Int32) < nI c) = (57 < c) := i_lt (a := 57) (b := c) (by omega) (by omega)
  have c5 : (nI c = (59 : Int32)) = (c = 59) := i_eq (a := c) (b := 59) (by omega) (by omega)
  simp only [c1, c2, c3, c4, c5]
  unfold lx_sg
  repeat' split
  all_goals first | rfl | (exfalso; omega)
theorem lx_signE {F n : Nat} (s : SR) (hl : R_length s = nI n) (hn : n ≤ 400) : f_X3_signAt F s (nI n) = some 0 := by
  unfold f_X3_signAt
  rw [if_neg (nI_pos (by omega)), hl, if_neg (nI_nlt (Nat.le_refl _) (by omega))]
/-! is the TOKEN this word? -/
theorem lx_isWord {F n P A w : Nat} {tx : Nat → Int32} {b : Nat → Nat} {m : SM} {lt vl tk : Int32} (hF : 2000 ≤ F) (hb : ∀ j, tx j = nI (b j) ∧ b j ≤ 255) (hn : n ≤ 400) (hP : P ≤ A) (hA : A ≤ n) (hw : w < 13) : (lx_mt (fun j => b (P + j)) (A - P) (lx_wl w) ∧ f_X3_isWord F (sR tx m n lt 1 P A vl tk) w = some 1) ∨ (¬ lx_mt (fun j => b (P + j)) (A - P) (lx_wl w) ∧ f_X3_isWord F (sR tx m n lt 1 P A vl tk) w = some 0) := by
  obtain ⟨e1, e2, _, e4, _, _⟩ := lx_w1 w hw
  unfold f_X3_isWord
  simp only [yR_text, yR_into, yR_length, yR_luckTold, yR_sign, yR_place, yR_after, yR_value, yR_taken, vR_into, vR_luckTold, vR_sign, vR_value, vR_taken, vR_place, vR_after, ↓reduceIte]
  rw [pk_sub hP, e1]
  by_cases hl : A - P = (lx_wl w).length
  · rw [if_pos (congrArg nI hl), hl]
    have key : ∀ d j nf, j + d = (lx_wl w).length → d < nf → (∀ i, i < j → b (P + i) = (lx_wl w).getD ((lx_wl w).length - 1 - i) 0) → (lx_mt (fun j => b (P + j)) (lx_wl w).length (lx_wl w) ∧ f_X3_isWord_L28 F (sR tx m n lt 1 P A vl tk) w nf (nI j) = some 1) ∨ (¬ lx_mt (fun j => b (P + j)) (lx_wl w).length (lx_wl w) ∧ f_X3_isWord_L28 F (sR tx m n lt 1 P A vl tk) w nf (nI j) = some 0) := by
      intro d
      induction d with
      | zero =>
        intro j nf hj hnf h
        obtain ⟨nf, rfl⟩ : ∃ q, nf = q + 1 := ⟨nf - 1, by omega⟩
        rw [f_X3_isWord_L28, e1, if_pos (nI_le (by omega) (by omega))]
        exact Or.inl ⟨(lx_all (lx_wl w)).mpr (fun i hi => h i (by omega)), rfl⟩
      | succ d ih =>
        intro j nf hj hnf h
        obtain ⟨nf, rfl⟩ : ∃ q, nf = q + 1 := ⟨nf - 1, by omega⟩
        obtain ⟨g1, g2⟩ := lx_w2 w hw j (by omega) (by omega)
        rw [f_X3_isWord_L28, e1, if_neg (nI_ge (by omega) (by omega)), e2]
        simp only [yR_text, yR_into, yR_length, yR_luckTold, yR_sign, yR_place, yR_after, yR_value, yR_taken, vR_into, vR_luckTold, vR_sign, vR_value, vR_taken, vR_place, vR_after]
        rw [nI_add, ochi_n (show P + j < 400 by omega) (by omega), ochi_n (show j < (lx_wl w).length by omega) (by omega), cl (show P + j < 2 ^ 31 by omega), cl (show j < 2 ^ 31 by omega), g1, (hb (P + j)).1]
        have hbj := (hb (P + j)).2
        by_cases c : b (P + j) = (lx_wl w).getD ((lx_wl w).length - 1 - j) 0
        · rw [if_pos (congrArg nI c), s1]
          refine ih (j + 1) nf (by omega) (by omega) (fun i hi => ?_)
          by_cases e : i = j
          · subst e; exact c
          · exact h i (by omega)
        · rw [if_neg (fun h => c ((nI_eq (by omega) (by omega)).mp h))]
          exact Or.inr ⟨fun z => c ((lx_all (lx_wl w)).mp z j (by omega)), rfl⟩
    exact key (lx_wl w).length 0 F (by omega) (by omega) (fun i hi => absurd hi (Nat.not_lt_zero i))
  · rw [if_neg (fun h => hl ((nI_eq (by omega) (by omega)).mp h))]
    exact Or.inr ⟨fun z => hl (lx_len _ _ z), rfl⟩
/-! a word's number -/
theorem lx_add {F e c : Nat} (h1 : 1 ≤ c) (h2 : c ≤ 255) : f_X6_add F (lN e) (nI c) = some (lN (256 * e + c)) := by
  unfold f_X6_add
  rw [if_neg (nI_ne0 (by omega) (by omega)), nI_l (by omega), show (256 : Int64) = lN 256 from rfl, lN_mul, lN_add]
theorem ite_so {α : Type} {c : Prop} [Decidable c] {x y : α} : (if c then some x else some y) = some (if c then x else y) := by
  by_cases h : c <;> simp [h]
theorem lx_wd0 (F : Nat) : f_X6_word F 108 117 99 107 0 0 = some (lN (lx_eR (lx_wl 0))) := rfl
theorem lx_wd1 (F : Nat) : f_X6_word F 115 116 97 108 108 0 = some (lN (lx_eR (lx_wl 1))) := rfl
theorem lx_wd2 (F : Nat) : f_X6_word F 119 97 121 0 0 0 = some (lN (lx_eR (lx_wl 2))) := rfl
theorem lx_wd3 (F : Nat) : f_X6_word F 116 104 117 109 98 0 = some (lN (lx_eR (lx_wl 3))) := rfl
theorem lx_wd4 (F : Nat) : f_X6_word F 104 111 110 101 115 116 = some (lN (lx_eR (lx_wl 4))) := rfl
theorem lx_wd5 (F : Nat) : f_X6_word F 114 111 117 110 100 0 = some (lN (lx_eR (lx_wl 5))) := rfl
theorem lx_wd6 (F : Nat) : f_X6_word F 115 99 97 108 101 0 = some (lN (lx_eR (lx_wl 6))) := rfl
theorem lx_wd7 (F : Nat) : f_X6_word F 105 110 0 0 0 0 = some (lN (lx_eR (lx_wl 7))) := rfl
theorem lx_wd8 (F : Nat) : f_X6_word F 116 111 0 0 0 0 = some (lN (lx_eR (lx_wl 8))) := rfl
theorem lx_wd9 (F : Nat) : f_X6_word F 111 108 100 0 0 0 = some (lN (lx_eR (lx_wl 9))) := rfl
theorem lx_wd10 (F : Nat) : f_X6_word F 121 111 117 110 103 0 = some (lN (lx_eR (lx_wl 10))) := rfl
theorem lx_wd11 (F : Nat) : f_X6_word F 102 114 105 101 110 100 = some (lN (lx_eR (lx_wl 11))) := rfl
theorem lx_wd12 (F : Nat) : ∃ z, f_X6_word F 115 116 114 97 110 103 = some z ∧ (256 : Int64) * ((256 : Int64) * z + (101 : Int64)) + (114 : Int64) = lN (lx_eR (lx_wl 12)) := ⟨_, rfl, rfl⟩
theorem lx_of8 {F v : Nat} (hv : v < 2 ^ 63) : (v = lx_eR (lx_wl 12) ∧ f_X6_wordOf F (lN v) (nI 8) = some 12) ∨ (v ≠ lx_eR (lx_wl 12) ∧ f_X6_wordOf F (lN v) (nI 8) = some (-9)) := by
  obtain ⟨z, z1, z2⟩ := lx_wd12 F
  have h5 := lx_w5 12 (by omega)
  unfold f_X6_wordOf
  rw [if_pos (show nI 8 = (8 : Int32) from rfl), z1, obd_s, z2]
  by_cases h : v = lx_eR (lx_wl 12)
  · exact Or.inl ⟨h, by rw [if_pos ((lg_cmp_eq _ _).mpr (by rw [h]))]⟩
  · exact Or.inr ⟨h, by rw [if_neg (fun e => h ((pk_lEQ hv h5).mp ((lg_cmp_eq _ _).mp e)))]⟩
theorem lx_of9 {F v k : Nat} (h8 : k ≠ 8) (h6 : 6 < k) (hk : k ≤ 400) : f_X6_wordOf F (lN v) (nI k) = some (-9) := by
  unfold f_X6_wordOf
  rw [if_neg (show ¬ nI k = (8 : Int32) from fun e => h8 ((nI_eq (a := k) (b := 8) (by omega) (by omega)).mp e))]
  simp only [lx_wd0, lx_wd1, lx_wd2, lx_wd3, lx_wd4, lx_wd5, lx_wd6, lx_wd7, lx_wd8, lx_wd9, lx_wd10, lx_wd11, obd_s, ite_so]
  rw [if_neg (show ¬ nI k ≤ (6 : Int32) from nI_ge (a := 6) h6 (by omega))]
theorem lx_of6 {F v k : Nat} (hv : v < 2 ^ 63) (hk : k ≤ 6) : (∃ w, w < 12 ∧ v = lx_eR (lx_wl w) ∧ f_X6_wordOf F (lN v) (nI k) = some (nI (lx_rv w))) ∨ ((∀ w, w < 12 → v ≠ lx_eR (lx_wl w)) ∧ f_X6_wordOf F (lN v) (nI k) = some (-9)) := by
  have q : ∀ w, w < 13 → ((lg_cmp (lN v) (lN (lx_eR (lx_wl w))) = 0) = (v = lx_eR (lx_wl w))) := fun w hw => propext ((lg_cmp_eq _ _).trans (pk_lEQ hv (lx_w5 w hw)))
  unfold f_X6_wordOf
  rw [if_neg (show ¬ nI k = (8 : Int32) from fun e => absurd ((nI_eq (a := k) (b := 8) (by omega) (by omega)).mp e) (by omega))]
  simp only [lx_wd0, lx_wd1, lx_wd2, lx_wd3, lx_wd4, lx_wd5, lx_wd6, lx_wd7, lx_wd8, lx_wd9, lx_wd10, lx_wd11, obd_s, ite_so, q 0 (by omega), q 1 (by omega), q 2 (by omega), q 3 (by omega), q 4 (by omega), q 5 (by omega), q 6 (by omega), q 7 (by omega), q 8 (by omega), q 9 (by omega), q 10 (by omega), q 11 (by omega)]
  rw [if_pos (show nI k ≤ (6 : Int32) from nI_le (b := 6) hk (by omega))]
  clear q
  by_cases h0 : v = lx_eR (lx_wl 0)
  · exact Or.inl ⟨0, by omega, h0, by simp only [if_pos h0]; rfl⟩
  by_cases h1 : v = lx_eR (lx_wl 1)
  · exact Or.inl ⟨1, by omega, h1, by simp only [if_neg h0, if_pos h1]; rfl⟩
  by_cases h2 : v = lx_eR (lx_wl 2)
  · exact Or.inl ⟨2, by omega, h2, by simp only [if_neg h0, if_neg h1, if_pos h2]; rfl⟩
  by_cases h4 : v = lx_eR (lx_wl 4)
  · exact Or.inl ⟨4, by omega, h4, by simp only [if_neg h0, if_neg h1, if_neg h2, if_pos h4]; rfl⟩
  by_cases h6 : v = lx_eR (lx_wl 6)
  · exact Or.inl ⟨6, by omega, h6, by simp only [if_neg h0, if_neg h1, if_neg h2, if_neg h4, if_pos h6]; rfl⟩
  by_cases h3 : v = lx_eR (lx_wl 3)
  · exact Or.inl ⟨3, by omega, h3, by simp only [if_neg h0, if_neg h1, if_neg h2, if_neg h4, if_neg h6, if_pos h3]; rfl⟩
  by_cases h5 : v = lx_eR (lx_wl 5)
  · exact Or.inl ⟨5, by omega, h5, by simp only [if_neg h0, if_neg h1, if_neg h2, if_neg h4, if_neg h6, if_neg h3, if_pos h5]; rfl⟩
  by_cases h7 : v = lx_eR (lx_wl 7)
  · exact Or.inl ⟨7, by omega, h7, by simp only [if_neg h0, if_neg h1, if_neg h2, if_neg h4, if_neg h6, if_neg h3, if_neg h5, if_pos h7]; rfl⟩
  by_cases h8 : v = lx_eR (lx_wl 8)
  · exact Or.inl ⟨8, by omega, h8, by simp only [if_neg h0, if_neg h1, if_neg h2, if_neg h4, if_neg h6, if_neg h3, if_neg h5, if_neg h7, if_pos h8]; rfl⟩
  by_cases h9 : v = lx_eR (lx_wl 9)
  · exact Or.inl ⟨9, by omega, h9, by simp only [if_neg h0, if_neg h1, if_neg h2, if_neg h4, if_neg h6, if_neg h3, if_neg h5, if_neg h7, if_neg h8, if_pos h9]; rfl⟩
  by_cases h10 : v = lx_eR (lx_wl 10)
  · exact Or.inl ⟨10, by omega, h10, by simp only [if_neg h0, if_neg h1, if_neg h2, if_neg h4, if_neg h6, if_neg h3, if_neg h5, if_neg h7, if_neg h8, if_neg h9, if_pos h10]; rfl⟩
  by_cases h11 : v = lx_eR (lx_wl 11)
  · exact Or.inl ⟨11, by omega, h11, by simp only [if_neg h0, if_neg h1, if_neg h2, if_neg h4, if_neg h6, if_neg h3, if_neg h5, if_neg h7, if_neg h8, if_neg h9, if_neg h10, if_pos h11]; rfl⟩
  refine Or.inr ⟨fun w hw => ?_, by simp only [if_neg h0, if_neg h1, if_neg h2, if_neg h4, if_neg h6, if_neg h3, if_neg h5, if_neg h7, if_neg h8, if_neg h9, if_neg h10, if_neg h11]; rfl⟩
  have hc : w = 0 ∨ w = 1 ∨ w = 2 ∨ w = 3 ∨ w = 4 ∨ w = 5 ∨ w = 6 ∨ w = 7 ∨ w = 8 ∨ w = 9 ∨ w = 10 ∨ w = 11 := by omega
  rcases hc with rfl | rfl | rfl | rfl | rfl | rfl | rfl | rfl | rfl | rfl | rfl | rfl <;> assumption
theorem lx_eDlt {ds : Nat → Nat} {k : Nat} (hk : k ≤ 8) (hd : ∀ j, j < k → ds j ≤ 122) : lx_eD ds k < 2 ^ 63 := by
  have key : ∀ k, (∀ j, j < k → ds j ≤ 122) → lx_eD ds k * 2 < 256 ^ k := by
    intro k
    induction k with
    | zero =>
      intro _
      show 0 * 2 < 1
      omega
    | succ k ih =>
      intro h
      have h1 := ih (fun j hj => h j (by omega))
      have h2 := h k (by omega)
      show (256 * lx_eD ds k + ds k) * 2 < 256 ^ k * 256
      omega
  have h1 := key k hd
  have h2 : 256 ^ k ≤ 256 ^ 8 := Nat.pow_le_pow_right (by omega) hk
  omega
end
