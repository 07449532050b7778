/-! ===== look, seldom, even ===== -/
theorem b_or {p q : Prop} [Decidable p] [Decidable q] : (if p then some (1 : Int32) else if q then some 1 else some 0) = some (if p ∨ q then 1 else 0) := by
  by_cases h1 : p <;> by_cases h2 : q <;> simp [h1, h2]
theorem b_nn {p q : Prop} [Decidable p] [Decidable q] : (if p then some (0 : Int32) else if q then some 0 else some 1) = some (if ¬ p ∧ ¬ q then 1 else 0) := by
  by_cases h1 : p <;> by_cases h2 : q <;> simp [h1, h2]
theorem b_is {p : Prop} [Decidable p] : (if p then some (1 : Int32) else some 0) = some (if p then 1 else 0) := by
  by_cases h1 : p <;> simp [h1]
theorem b4 {α : Type} {p q r s : Prop} [Decidable p] [Decidable q] [Decidable r] [Decidable s] {A B : α} : (if ¬ p then A else if ¬ q then A else if ¬ r then A else if s then A else B) = if (p ∧ q ∧ r) ∧ ¬ s then B else A := by
  by_cases h1 : p <;> by_cases h2 : q <;> by_cases h3 : r <;> by_cases h4 : s <;> simp [h1, h2, h3, h4]
theorem b_m {p q r p' : Prop} [Decidable p] [Decidable q] [Decidable r] [Decidable p'] : (if p then (if ¬ q then some (0 : Int32) else if r then some 1 else some 0) else if p' then (if ¬ q then some (0 : Int32) else if r then some 1 else some 0) else some 0) = some (if (p ∨ p') ∧ q ∧ r then 1 else 0) := by
  by_cases h1 : p <;> by_cases h2 : q <;> by_cases h3 : r <;> by_cases h4 : p' <;> simp [h1, h2, h3, h4]
abbrev lkq (b : SB) (a1 a2 a3 a4 : Int32) (k : Nat) : Prop := (a1 = -1 ∨ B_bagStall b k = a1) ∧ (a2 ≤ B_bagHour b k ∧ B_bagHour b k ≤ a3) ∧ (a4 >>> (B_bagSort b k &&& 31)) &&& (1 : Int32) = 1
abbrev lkx (b : SB) (a1 a2 a3 a4 a5 : Int32) (k : Nat) : Prop := lkq b a1 a2 a3 a4 k ∧ ¬ B_bagSteps b k < a5
theorem seen_c {F nb : Nat} {t : ST} (a1 a2 a3 a4 a5 : Int32) (hF : nb < F) (hn : nb ≤ 30) (hb : B_bags (T_book t) = nI nb) : f_X5_seen F t a1 a2 a3 a4 a5 = some (nI (cnt (lkx (T_book t) a1 a2 a3 a4 a5) nb)) := by
  unfold f_X5_seen
  refine loop_fo (L := fun n x i => f_X5_seen_L6 F t a1 a2 a3 a4 a5 n x i) (f := cst (lkx (T_book t) a1 a2 a3 a4 a5)) (a0 := nI 0) ?_ ?_ F hF
  · intro n k hk
    show f_X5_seen_L6 F t a1 a2 a3 a4 a5 (n + 1) _ (nI k) = f_X5_seen_L6 F t a1 a2 a3 a4 a5 n _ _
    rw [f_X5_seen_L6, hb, if_neg (nI_ge hk (by omega))]
    simp only [ochi_n (show k < 30 by omega) (show 30 < 2 ^ 31 by omega), cl (show k < 2 ^ 31 by omega), s1]
    simp only [b_or, b_nn]
    simp only [b_is, obd_s, ite01, b4, Int32.not_lt]
    by_cases h : lkx (T_book t) a1 a2 a3 a4 a5 k
    · rw [cst_pos (p := lkx (T_book t) a1 a2 a3 a4 a5) h, if_pos ⟨h.1, Int32.not_lt.mp h.2⟩]
    · rw [cst_neg (p := lkx (T_book t) a1 a2 a3 a4 a5) h, if_neg (fun z => h ⟨z.1, Int32.not_lt.mpr z.2⟩)]
  · intro n
    show f_X5_seen_L6 F t a1 a2 a3 a4 a5 (n + 1) _ (nI nb) = _
    rw [f_X5_seen_L6, hb, if_pos (nI_le (Nat.le_refl _) (by omega)), fo_cst]
theorem looked1 {F nb ns nw : Nat} {m : SM} {b : SB} {u : SO} (a1 a2 a3 a4 a5 : Int32) (hF : nb < F) (hn : nb ≤ 30) (hO : okM m ns nw) (hM : reM m u ns nw) (hb : O_s u 0 = nI nb) (hs : ∀ k, k < nb → okBag m ns b (O_s u) k) : f_X6_looked F u a1 a2 a3 a4 a5 1 = some (nI (cnt (lkx b a1 a2 a3 a4 a5) nb)) := by
  unfold f_X6_looked
  refine loop_fo (L := fun n x i => f_X6_looked_L6 F u a1 a2 a3 a4 a5 1 n x i) (f := cst (lkx b a1 a2 a3 a4 a5)) (a0 := nI 0) ?_ ?_ F hF
  · intro n k hk
    show f_X6_looked_L6 F u a1 a2 a3 a4 a5 1 (n + 1) _ (nI k) = f_X6_looked_L6 F u a1 a2 a3 a4 a5 1 n _ _
    have hst := stepsOf_m (F := F) (show k < 30 by omega) hO hM (hs k hk)
    obtain ⟨i', h', o, td, fd, mn, q1, q2, q3, q4, q5⟩ := hs k hk
    rw [f_X6_looked_L6, c264, k0i, hb, if_neg (nI_ge hk (by omega)), bag_0 (show k < 30 by omega), bag_1 (show k < 30 by omega), bag_2 (show k < 30 by omega), hst, q2.2, q3.2, q4.2, ← q2.1, ← q3.1, ← q4.1]
    simp only [olt_s, obd_s, in_eq, ite01, b_m, s1, a0, if_neg one0]
    by_cases h : lkx b a1 a2 a3 a4 a5 k
    · rw [cst_pos (p := lkx b a1 a2 a3 a4 a5) h, if_neg (fun z => z h.1), if_neg h.2]
    · rw [cst_neg (p := lkx b a1 a2 a3 a4 a5) h]
      by_cases z : lkq b a1 a2 a3 a4 k
      · rw [if_neg (fun y => y z), if_pos (Int32.not_le.mp (fun y => h ⟨z, Int32.not_lt.mpr y⟩))]
      · rw [if_pos z]
  · intro n
    show f_X6_looked_L6 F u a1 a2 a3 a4 a5 1 (n + 1) _ (nI nb) = _
    rw [f_X6_looked_L6, c264, k0i, hb, if_pos (nI_le (Nat.le_refl _) (by omega)), fo_cst]
theorem looked0 {F nb ns : Nat} {m : SM} {b : SB} {u : SO} (a1 a2 a3 a4 a5 : Int32) (hF : nb < F) (hn : nb ≤ 30) (hb : O_s u 0 = nI nb) (hs : ∀ k, k < nb → okBag m ns b (O_s u) k) : f_X6_looked F u a1 a2 a3 a4 a5 0 = some (nI (cnt (lkq b a1 a2 a3 a4) nb)) := by
  unfold f_X6_looked
  refine loop_fo (L := fun n x i => f_X6_looked_L6 F u a1 a2 a3 a4 a5 0 n x i) (f := cst (lkq b a1 a2 a3 a4)) (a0 := nI 0) ?_ ?_ F hF
  · intro n k hk
    show f_X6_looked_L6 F u a1 a2 a3 a4 a5 0 (n + 1) _ (nI k) = f_X6_looked_L6 F u a1 a2 a3 a4 a5 0 n _ _
    obtain ⟨i', h', o, td, fd, mn, q1, q2, q3, q4, q5⟩ := hs k hk
    rw [f_X6_looked_L6, c264, k0i, hb, if_neg (nI_ge hk (by omega)), bag_0 (show k < 30 by omega), bag_1 (show k < 30 by omega), bag_2 (show k < 30 by omega), q2.2, q3.2, q4.2, ← q2.1, ← q3.1, ← q4.1]
    simp only [olt_s, obd_s, in_eq, ite01, b_m, s1, a0, ↓reduceIte]
    by_cases h : lkq b a1 a2 a3 a4 k
    · rw [cst_pos (p := lkq b a1 a2 a3 a4) h, if_neg (fun z => z h)]
    · rw [cst_neg (p := lkq b a1 a2 a3 a4) h, if_pos h]
  · intro n
    show f_X6_looked_L6 F u a1 a2 a3 a4 a5 0 (n + 1) _ (nI nb) = _
    rw [f_X6_looked_L6, c264, k0i, hb, if_pos (nI_le (Nat.le_refl _) (by omega)), fo_cst]
theorem not_lt_min (x : Int32) : ¬ x < (-2147483648 : Int32) := by
  rw [Int32.lt_iff_toInt_lt]
  have := Int32.le_toInt x
  have e : (-2147483648 : Int32).toInt = -2147483648 := rfl
  rw [e]
  omega
theorem cnt_min (b : SB) (a1 a2 a3 a4 : Int32) (n : Nat) : cnt (lkx b a1 a2 a3 a4 (-2147483648 : Int32)) n = cnt (lkq b a1 a2 a3 a4) n :=
  cnt_congr (fun _ _ => ⟨fun z => z.1, fun z => ⟨z, not_lt_min _⟩⟩)
theorem cnt_mono {p q : Nat → Prop} [DecidablePred p] [DecidablePred q] (h : ∀ k, p k → q k) (n : Nat) : cnt p n ≤ cnt q n := by
  induction n with
  | zero => exact Nat.le_refl _
  | succ n ih =>
    show cnt p n + _ ≤ cnt q n + _
    by_cases hp : p n
    · rw [if_pos hp, if_pos (h n hp)]; omega
    · rw [if_neg hp]; omega
theorem isLook_both {F ns nw : Nat} {t : ST} {u : SO} (a1 a2 a3 a4 : Int32) (h1 : okM (T_market t) ns nw) (h2 : reM (T_market t) u ns nw) : (f_X5_isLook F t a1 a2 a3 a4 = some 1 ∧ f_X6_isLook F u a1 a2 a3 a4 = some 1) ∨ (f_X5_isLook F t a1 a2 a3 a4 = some 0 ∧ f_X6_isLook F u a1 a2 a3 a4 = some 0) := by
  unfold f_X5_isLook f_X6_isLook
  simp only [olt_s]
  have k : ∃ v : Int32, (v = 1 ∨ v = 0) ∧ obd (f_X5_within F a2 (0 : Int32) (11 : Int32)) (fun v1 => (if v1 = 0 then some (0 : Int32) else obd (f_X5_within F a3 (0 : Int32) (11 : Int32)) (fun v4 => (if v4 = 0 then some (0 : Int32) else obd (f_X5_within F a4 (0 : Int32) (15 : Int32)) (fun v7 => (if v7 = 0 then some (0 : Int32) else some (1 : Int32))))))) = some v ∧ obd (f_X6_in F a2 (0 : Int32) (11 : Int32)) (fun v1 => (if v1 = 0 then some (0 : Int32) else obd (f_X6_in F a3 (0 : Int32) (11 : Int32)) (fun v4 => (if v4 = 0 then some (0 : Int32) else obd (f_X6_in F a4 (0 : Int32) (15 : Int32)) (fun v7 => (if v7 = 0 then some (0 : Int32) else some (1 : Int32))))))) = some v := by
    rcases g_rg (F := F) a2 (lo := 0) (hi := 11) 0 11 rfl rfl (by omega) (by omega) with ⟨_, x3, x4⟩ | ⟨_, x3, x4⟩
    rotate_left
    · rw [x3, x4]; exact ⟨0, Or.inr rfl, rfl, rfl⟩
    rw [x3, x4]; simp only [obd_s]; rw [if_neg one0, if_neg one0]
    rcases g_rg (F := F) a3 (lo := 0) (hi := 11) 0 11 rfl rfl (by omega) (by omega) with ⟨_, y3, y4⟩ | ⟨_, y3, y4⟩
    rotate_left
    · rw [y3, y4]; exact ⟨0, Or.inr rfl, rfl, rfl⟩
    rw [y3, y4]; simp only [obd_s]; rw [if_neg one0, if_neg one0]
    rcases g_rg (F := F) a4 (lo := 0) (hi := 15) 0 15 rfl rfl (by omega) (by omega) with ⟨_, z3, z4⟩ | ⟨_, z3, z4⟩
    rotate_left
    · rw [z3, z4]; exact ⟨0, Or.inr rfl, rfl, rfl⟩
    rw [z3, z4]; simp only [obd_s]; rw [if_neg one0]
    exact ⟨1, Or.inl rfl, rfl, rfl⟩
  obtain ⟨v, hv, k1, k2⟩ := k
  rw [k1, k2]
  by_cases c : a1 = -1
  · rw [if_pos c, if_pos c]
    rcases hv with rfl | rfl
    · exact Or.inl ⟨rfl, rfl⟩
    · exact Or.inr ⟨rfl, rfl⟩
  · rw [if_neg c, if_neg c]
    rcases isStall_both (F := F) (t := t) (u := u) a1 h1 h2 with ⟨i, _, _, g3, g4⟩ | ⟨g3, g4⟩
    · rw [g3, g4, obd_s, obd_s, if_neg one0, if_neg one0]
      rcases hv with rfl | rfl
      · exact Or.inl ⟨rfl, rfl⟩
      · exact Or.inr ⟨rfl, rfl⟩
    · rw [g3, g4]
      exact Or.inr ⟨rfl, rfl⟩
theorem sim_look (F : Nat) (hF : 2000 ≤ F) : ∀ (t : ST) (u : SO) (a1 : Int32) (a2 : Int32) (a3 : Int32) (a4 : Int32) (a5 : Int32) (a6 : Int32), Rel t u → ∃ (r : Int32) (u2 : SO), f_X5_look F t a1 a2 a3 a4 a5 a6 = some r ∧ f_X6_look F u a1 a2 a3 a4 a5 a6 = some (r, u2) ∧ Rel t u2 := by
  intro t u a1 a2 a3 a4 a5 a6 hR
  have bad : ∀ r : Int32, ∃ (r_ : Int32) (u2 : SO), (some r : Option Int32) = some r_ ∧ (some (r, uO_thrown u 0) : Option (Int32 × SO)) = some (r_, u2) ∧ Rel t u2 := fun r => ⟨r, _, rfl, rfl, Rel_thr hR⟩
  have hR0 := hR
  obtain ⟨ns, nw, nx, ⟨hM1, hM2⟩, hX, hB, hK, hI, hV, hS, hT⟩ := hR
  have hK0 := hK
  obtain ⟨nb, nt, lk, hn, ⟨h1, h2, h3, h4, h5, h6, h7, h8, h9⟩, hb, ht⟩ := hK
  have hns := hM1.1.1
  have hnw := hM1.1.2.1
  unfold f_X5_look f_X6_look
  simp only [olt_s (uO_thrown u 0)]
  rcases isLook_both (F := F) (t := t) (u := uO_thrown u 0) a1 a2 a3 a4 hM1 hM2 with ⟨gg3, gg4⟩ | ⟨gg3, gg4⟩
  rotate_left
  · rw [gg3, gg4]; exact bad _
  rw [gg3, gg4]; simp only [obd_s]; rw [if_neg one0, if_neg one0]
  rcases g_rg (F := F) a6 (lo := 0) (hi := 1) 0 1 rfl rfl (by omega) (by omega) with ⟨⟨c, gc1, gc2, rfl⟩, gc3, gc4⟩ | ⟨_, gc3, gc4⟩
  rotate_left
  · rw [gc3, gc4]; exact bad _
  rw [gc3, gc4]; simp only [obd_s]; rw [if_neg one0, if_neg one0]
  have s0 := seen_c (F := F) (t := t) a1 a2 a3 a4 (-2147483648 : Int32) (by omega) hn.1 h1
  have s1' := seen_c (F := F) (t := t) a1 a2 a3 a4 a5 (by omega) hn.1 h1
  have m0 := looked0 (F := F) (u := uO_thrown u 0) a1 a2 a3 a4 a5 (by omega) hn.1 h2 hb
  have m1 := looked1 (F := F) (u := uO_thrown u 0) a1 a2 a3 a4 a5 (by omega) hn.1 hM1 hM2 h2 hb
  have hc : c = 0 ∨ c = 1 := by omega
  rcases hc with rfl | rfl
  · rw [if_pos (show nI 0 = 0 from rfl), if_neg (show ¬ nI 0 = 1 by decide), obd_s, s0, m0, cnt_min]
    exact ⟨_, _, rfl, rfl, Rel_thr hR0⟩
  · rw [if_neg (show ¬ nI 1 = 0 by decide), if_pos (show nI 1 = 1 from rfl), obd_s, s1', m1]
    exact ⟨_, _, rfl, rfl, Rel_thr hR0⟩
/-! rows of honest weighings -/
def bn (T Z : Int64) (w j : Nat) : Int64 := bino w j * pw T j * pw Z (w - j)
theorem bino_gt : ∀ w j, w < j → bino w j = 0 := by
  intro w
  induction w with
  | zero => intro j h; obtain ⟨j, rfl⟩ : ∃ q, j = q + 1 := ⟨j - 1, by omega⟩; rfl
  | succ w ih =>
    intro j h
    obtain ⟨j, rfl⟩ : ∃ q, j = q + 1 := ⟨j - 1, by omega⟩
    show bino w j + bino w (j + 1) = 0
    rw [ih j (by omega), ih (j + 1) (by omega)]
    rfl
theorem bino_0 (w : Nat) : bino w 0 = 1 := by cases w <;> rfl
theorem bn_gt (T Z : Int64) {w j : Nat} (h : w < j) : bn T Z w j = 0 := by
  unfold bn
  rw [bino_gt w j h, Int64.zero_mul, Int64.zero_mul]
theorem bn_z (T Z : Int64) (w : Nat) : bn T Z (w + 1) 0 = bn T Z w 0 * Z := by
  unfold bn
  rw [bino_0, bino_0]
  show 1 * pw T 0 * (pw Z w * Z) = 1 * pw T 0 * pw Z w * Z
  rw [Int64.mul_assoc (1 * pw T 0)]
theorem ring1 (b c p T z Z : Int64) : (b + c) * (p * T) * (z * Z) = c * (p * T) * z * Z + b * p * (z * Z) * T := by grind
theorem ring2 (b p T z Z z' : Int64) : (b + 0) * (p * T) * z = 0 * (p * T) * z' * Z + b * p * z * T := by grind
theorem bn_s (T Z : Int64) {w j : Nat} (h : j ≤ w) : bn T Z (w + 1) (j + 1) = bn T Z w (j + 1) * Z + bn T Z w j * T := by
  unfold bn
  show (bino w j + bino w (j + 1)) * (pw T j * T) * pw Z (w + 1 - (j + 1)) = bino w (j + 1) * (pw T j * T) * pw Z (w - (j + 1)) * Z + bino w j * pw T j * pw Z (w - j) * T
  rw [Nat.add_sub_add_right]
  rcases Nat.eq_or_lt_of_le h with e | e
  · subst e
    rw [bino_gt j (j + 1) (by omega)]
    exact ring2 _ _ _ _ _ _
  · have e2 : w - j = (w - (j + 1)) + 1 := by omega
    rw [e2]
    exact ring1 _ _ _ _ _ _
theorem c19 {β : Type} {x : Option β} : ochi (0 : Int32) 19 x = x := ochi_of (vp_in_iff.mpr (by decide))
theorem fill_in {F N w : Nat} {a1 a2 : Int32} (K : Int32 → SH → Option SH) (hN : N ≤ 18) (hw : w + 1 ≤ N) : ∀ i nf (s : SH), i ≤ w + 1 → i < nf → (∀ j, j ≤ N → s j = if i < j then bn (Int32.toInt64 a2) (Int32.toInt64 ((10 : Int32) - a2)) (w + 1) j else bn (Int32.toInt64 a2) (Int32.toInt64 ((10 : Int32) - a2)) w j) → ∃ s' : SH, f_X1_fill_L37 F a1 a2 K nf (nI (w + 1)) (nI i) s = K (nI (w + 2)) s' ∧ ∀ j, j ≤ N → s' j = bn (Int32.toInt64 a2) (Int32.toInt64 ((10 : Int32) - a2)) (w + 1) j := by
  intro i
  induction i with
  | zero =>
    intro nf s hi hnf h
    obtain ⟨nf, rfl⟩ : ∃ q, nf = q + 1 := ⟨nf - 1, by omega⟩
    rw [f_X1_fill_L37, if_pos (show nI 0 < 1 by decide), c19, c19, s1]
    simp only [olt_s, k0i]
    refine ⟨_, rfl, fun j hj => ?_⟩
    show vp_updL s 0 (s 0 * _) j = _
    by_cases e : j = 0
    · subst e
      rw [pk_uLs, h 0 (by omega), if_neg (by omega), bn_z]
    · rw [pk_uLn e, h j hj, if_pos (by omega)]
  | succ i ih =>
    intro nf s hi hnf h
    obtain ⟨nf, rfl⟩ : ∃ q, nf = q + 1 := ⟨nf - 1, by omega⟩
    rw [f_X1_fill_L37, if_neg (show ¬ nI (i + 1) < 1 from nI_nlt (b := 1) (by omega) (by omega)), nI_pred, pk_m1]
    simp only [olt_s, ochi_n (show i + 1 < 19 by omega) (show 19 < 2 ^ 31 by omega), ochi_n (show i < 19 by omega) (show 19 < 2 ^ 31 by omega), cl (show i < 2 ^ 31 by omega), cl (show i + 1 < 2 ^ 31 by omega)]
    refine ih nf _ (by omega) (by omega) (fun j hj => ?_)
    show vp_updL s (i + 1) (s (i + 1) * _ + s i * _) j = _
    by_cases e : j = i + 1
    · subst e
      rw [pk_uLs, if_pos (by omega), h (i + 1) hj, h i (by omega), if_neg (by omega), if_neg (by omega), bn_s _ _ (by omega)]
    · rw [pk_uLn e, h j hj]
      by_cases c : i + 1 < j
      · rw [if_pos c, if_pos (by omega)]
      · rw [if_neg c, if_neg (by omega)]
theorem fill_out {F N : Nat} {a2 : Int32} (hF : 2000 ≤ F) (hN : N ≤ 18) : ∀ d w nf (s : SH), w + d = N → d < nf → (∀ j, j ≤ N → s j = bn (Int32.toInt64 a2) (Int32.toInt64 ((10 : Int32) - a2)) w j) → ∃ s' : SH, f_X1_fill_L29 F (nI N) a2 nf (nI (w + 1)) s = some s' ∧ ∀ j, j ≤ N → s' j = bn (Int32.toInt64 a2) (Int32.toInt64 ((10 : Int32) - a2)) N j := by
  intro d
  induction d with
  | zero =>
    intro w nf s hw hnf h
    obtain ⟨nf, rfl⟩ : ∃ q, nf = q + 1 := ⟨nf - 1, by omega⟩
    have e : w = N := by omega
    subst e
    rw [f_X1_fill_L29, if_pos (nI_lt (by omega) (by omega))]
    exact ⟨s, rfl, h⟩
  | succ d ih =>
    intro w nf s hw hnf h
    obtain ⟨nf, rfl⟩ : ∃ q, nf = q + 1 := ⟨nf - 1, by omega⟩
    rw [f_X1_fill_L29, if_neg (nI_nlt (by omega) (by omega))]
    obtain ⟨s2, e1, e2⟩ := fill_in (F := F) (N := N) (w := w) (a1 := nI N) (a2 := a2) (f_X1_fill_L29 F (nI N) a2 nf) hN (by omega) (w + 1) F s (Nat.le_refl _) (by omega) (fun j hj => by
      rw [h j hj]
      by_cases c : w + 1 < j
      · rw [if_pos c, bn_gt _ _ c, bn_gt _ _ (by omega)]
      · rw [if_neg c])
    rw [e1]
    exact ih (w + 1) nf s2 (by omega) (by omega) e2
theorem fill_9 {F N : Nat} {a2 : Int32} (hF : 2000 ≤ F) (hN : N ≤ 18) : ∀ d k nf (s : SH), k + d = N → d < nf → (s 0 = 1 ∧ ∀ j, 1 ≤ j → j ≤ k → s j = 0) → ∃ s' : SH, f_X1_fill_L9 F (nI N) a2 nf (nI (k + 1)) s = some s' ∧ ∀ j, j ≤ N → s' j = bn (Int32.toInt64 a2) (Int32.toInt64 ((10 : Int32) - a2)) N j := by
  intro d
  induction d with
  | zero =>
    intro k nf s hk hnf h
    obtain ⟨nf, rfl⟩ : ∃ q, nf = q + 1 := ⟨nf - 1, by omega⟩
    have e : k = N := by omega
    subst e
    rw [f_X1_fill_L9, if_pos (nI_lt (by omega) (by omega))]
    refine fill_out hF hN k 0 F s (by omega) (by omega) (fun j hj => ?_)
    rcases Nat.eq_zero_or_pos j with e | e
    · subst e
      rw [h.1]
      rfl
    · rw [h.2 j e hj, bn_gt _ _ e]
  | succ d ih =>
    intro k nf s hk hnf h
    obtain ⟨nf, rfl⟩ : ∃ q, nf = q + 1 := ⟨nf - 1, by omega⟩
    rw [f_X1_fill_L9, if_neg (nI_nlt (by omega) (by omega)), ochi_n (by omega) (by omega), cl (by omega), s1]
    simp only [olt_s]
    refine ih (k + 1) nf _ (by omega) (by omega) ⟨?_, fun j j1 j2 => ?_⟩
    · show vp_updL s (k + 1) 0 0 = 1
      rw [pk_uLn (by omega), h.1]
    · show vp_updL s (k + 1) 0 j = 0
      by_cases e : j = k + 1
      · subst e; rw [pk_uLs]
      · rw [pk_uLn e]; exact h.2 j j1 (by omega)
theorem fill_c {F N : Nat} {a2 : Int32} (s : SH) (hF : 2000 ≤ F) (hN : N ≤ 18) : ∃ s' : SH, f_X1_fill F s (nI N) a2 = some s' ∧ ∀ j, j ≤ N → s' j = bn (Int32.toInt64 a2) (Int32.toInt64 ((10 : Int32) - a2)) N j := by
  unfold f_X1_fill
  rw [c19, olt_s, k0i]
  exact fill_9 hF hN N 0 F _ (by omega) (by omega) ⟨pk_uLs, fun j j1 j2 => absurd j2 (by omega)⟩
def rsum (a : Int32) (n k : Nat) : Nat → Int64
  | 0 => 0
  | d + 1 => rsum a n k d + bn (Int32.toInt64 a) (Int32.toInt64 ((10 : Int32) - a)) n (k + d)
theorem rows_c {F n k : Nat} (a : Int32) (s : SH) (hF : 2000 ≤ F) (hn : n ≤ 18) (hk : k ≤ n) : ∃ s' : SH, f_X1_withAtLeast F s (nI k) (nI n) a = some (rsum a n k (n + 1 - k), s') := by
  obtain ⟨s', e1, e2⟩ := fill_c (F := F) (N := n) (a2 := a) s hF hn
  refine ⟨s', ?_⟩
  unfold f_X1_withAtLeast
  rw [if_neg (nI_pos (by omega)), if_neg (show ¬ (18 : Int32) < nI n from nI_nlt (a := 18) hn (by omega)), if_pos (nI_pos' (by omega)), e1, obd_s]
  refine run_fg (L := fun m (p : Int64 × Int32) => f_X1_withAtLeast_L28 F (nI k) (nI n) a s' m p.1 p.2) (st := fun d => (rsum a n k d, nI (k + d))) (N := n + 1 - k) ?_ ?_ F (by omega)
  · intro m d hd
    show f_X1_withAtLeast_L28 F (nI k) (nI n) a s' (m + 1) (rsum a n k d) (nI (k + d)) = f_X1_withAtLeast_L28 F (nI k) (nI n) a s' m (rsum a n k d + bn _ _ n (k + d)) (nI (k + d + 1))
    rw [f_X1_withAtLeast_L28, if_neg (nI_nlt (by omega) (by omega)), ochi_n (by omega) (by omega), olt_s, cl (by omega), s1, ← e2 (k + d) (by omega)]
    rfl
  · intro m
    show f_X1_withAtLeast_L28 F (nI k) (nI n) a s' (m + 1) _ (nI (k + (n + 1 - k))) = _
    rw [f_X1_withAtLeast_L28, if_pos (nI_lt (by omega) (by omega))]
theorem rows_m {F n k : Nat} (a : Int32) {u : SO} (hF : 2000 ≤ F) (hn : n ≤ 18) (hk : k ≤ n) (hT : ∀ n k, n < 20 → k ≤ n → O_triangle u (20 * n + k) = bino n k) : f_X6_rows F u (nI n) (nI k) a = some (rsum a n k (n + 1 - k)) := by
  unfold f_X6_rows
  refine run_fg (L := fun m (p : Int64 × Int32) => f_X6_rows_L6 F u (nI n) (nI k) a m p.1 p.2) (st := fun d => (rsum a n k d, nI (k + d))) (N := n + 1 - k) ?_ ?_ F (by omega)
  · intro m d hd
    show f_X6_rows_L6 F u (nI n) (nI k) a (m + 1) (rsum a n k d) (nI (k + d)) = f_X6_rows_L6 F u (nI n) (nI k) a m (rsum a n k d + bn _ _ n (k + d)) (nI (k + d + 1))
    have i1 : (20 : Int32) * nI n + nI (k + d) = nI (20 * n + (k + d)) := by rw [show (20 : Int32) = nI 20 from rfl, pk_mul, nI_add]
    rw [f_X6_rows_L6, if_neg (nI_nlt (by omega) (by omega)), i1, ochi_n (by omega) (by omega), cl (by omega), pk_sub (by omega), power_m _ (by omega) (by omega), power_m _ (by omega) (by omega), obd_s, obd_s, olt_s, s1, hT n (k + d) (by omega) (by omega)]
    rfl
  · intro m
    show f_X6_rows_L6 F u (nI n) (nI k) a (m + 1) _ (nI (k + (n + 1 - k))) = _
    rw [f_X6_rows_L6, if_pos (nI_lt (by omega) (by omega))]
theorem reB_look {m : SM} {ns lk : Nat} {b : SB} {s : Nat → Int32} {l0 l1 : Int64} (r a : Int64) (hl : lk ≤ 999) (h : reB m ns b s l0 l1) : reB m ns (uB_looks (uB_lookAll (uB_lookRows b r) a) (nI lk)) (upd s 262 (nI lk)) r a := by
  obtain ⟨nb, nt, lk', hn, ⟨h1, h2, h3, h4, h5, h6, h7, h8, h9⟩, hb, ht⟩ := h
  have e : ∀ j, j ≠ 262 → upd s 262 (nI lk) j = s j := fun j hj => upd_n hj
  refine ⟨nb, nt, lk, ⟨hn.1, hn.2.1, hl⟩, ⟨h1, by rw [e 0 (by omega)]; exact h2, h3, by rw [e 181 (by omega)]; exact h4, rfl, upd_s, rfl, rfl, by rw [e 263 (by omega)]; exact h9⟩, fun k hk => ?_, fun k hk => ?_⟩
  · obtain ⟨i, h, o, td, fd, mn, q1, q2, q3, q4, q5, q6, q7, q8, q9⟩ := hb k hk
    exact ⟨i, h, o, td, fd, mn, q1, by rw [e _ (by omega)]; exact q2, by rw [e _ (by omega)]; exact q3, by rw [e _ (by omega)]; exact q4, by rw [e _ (by omega)]; exact q5, by rw [e _ (by omega)]; exact q6, by rw [e _ (by omega)]; exact q7, q8, q9⟩
  · obtain ⟨i, d, le, rd, q1, q2, q3, q4, q5, q6⟩ := ht k hk
    exact ⟨i, d, le, rd, q1, by rw [e _ (by omega)]; exact q2, by rw [e _ (by omega)]; exact q3, by rw [e _ (by omega)]; exact q4, by rw [e _ (by omega)]; exact q5, q6⟩
theorem tenths_both {F ns nw : Nat} {m : SM} {u : SO} (x : Int32) (hO : okM m ns nw) (hM : reM m u ns nw) : ∃ v, f_X2_tenthsFrom F m x = some v ∧ (if 0 ≤ x then (if x = 0 then ochi (1 : Int32) 6 (ochi (2 : Int32) 6 (some (O_luck u (Int32.toNatClampNeg (1 : Int32)) + O_luck u (Int32.toNatClampNeg (2 : Int32))))) else (if x = (1 : Int32) then ochi (2 : Int32) 6 (some (O_luck u (Int32.toNatClampNeg (2 : Int32)))) else some (0 : Int32))) else some (10 : Int32)) = some v := by
  obtain ⟨a, b, c, h, ha, hb, hc⟩ := hO.2.1
  unfold f_X2_tenthsFrom
  simp only [c6_1, c6_2, k1i, k2i, hM.2.1.2.1, hM.2.1.2.2]
  have e : ((-1 : Int32) < x) ↔ 0 ≤ x := by
    rw [Int32.lt_iff_toInt_lt, Int32.le_iff_toInt_le]
    show (-1 : Int) < x.toInt ↔ (0 : Int) ≤ x.toInt
    omega
  by_cases h0 : 0 ≤ x
  · rw [if_pos (e.mpr h0), if_pos h0]
    by_cases z0 : x = 0
    · rw [if_pos z0, if_pos z0]; exact ⟨_, rfl, rfl⟩
    · rw [if_neg z0, if_neg z0]
      by_cases z1 : x = 1
      · rw [if_pos z1, if_pos z1]; exact ⟨_, rfl, rfl⟩
      · rw [if_neg z1, if_neg z1]; exact ⟨_, rfl, rfl⟩
  · rw [if_neg (fun z => h0 (e.mp z)), if_neg h0]
    refine ⟨10, ?_, rfl⟩
    rw [ha, hb, hc, nI_add, nI_add, h]
    rfl
theorem sim_seldom (F : Nat) (hF : 2000 ≤ F) : ∀ (t : ST) (u : SO) (a1 : Int32) (a2 : Int32) (a3 : Int32) (a4 : Int32) (a5 : Int32), Rel t u → ∃ (r : Int64) (t2 : ST) (u2 : SO), f_X5_seldom F t a1 a2 a3 a4 a5 = some (r, t2) ∧ f_X6_seldom F u a1 a2 a3 a4 a5 = some (r, u2) ∧ Rel t2 u2 := by
  intro t u a1 a2 a3 a4 a5 hR
  have bad : ∀ r : Int64, ∃ (r_ : Int64) (t2 : ST) (u2 : SO), (some (r, t) : Option (Int64 × ST)) = some (r_, t2) ∧ (some (r, uO_thrown u 0) : Option (Int64 × SO)) = some (r_, u2) ∧ Rel t2 u2 := fun r => ⟨r, t, _, rfl, rfl, Rel_thr hR⟩
  have hR0 := hR
  obtain ⟨ns, nw, nx, ⟨hM1, hM2⟩, hX, hB, hK, hI, hV, hS, hT⟩ := hR
  have hK0 := hK
  obtain ⟨nb, nt, lk, hn, ⟨h1, h2, h3, h4, h5, h6, h7, h8, h9⟩, hb, ht⟩ := hK
  have hns := hM1.1.1
  have hnw := hM1.1.2.1
  unfold f_X5_seldom f_X6_seldom
  simp only [olt_s (uO_thrown u 0)]
  rcases isLook_both (F := F) (t := t) (u := uO_thrown u 0) a1 a2 a3 a4 hM1 hM2 with ⟨gg3, gg4⟩ | ⟨gg3, gg4⟩
  rotate_left
  · rw [gg3, gg4]; exact bad _
  rw [gg3, gg4]; simp only [obd_s]; rw [if_neg one0, if_neg one0]
  have s0 := seen_c (F := F) (t := t) a1 a2 a3 a4 (-2147483648 : Int32) (by omega) hn.1 h1
  have s1' := seen_c (F := F) (t := t) a1 a2 a3 a4 a5 (by omega) hn.1 h1
  have m0 := looked0 (F := F) (u := uO_thrown u 0) a1 a2 a3 a4 a5 (by omega) hn.1 h2 hb
  have m1 := looked1 (F := F) (u := uO_thrown u 0) a1 a2 a3 a4 a5 (by omega) hn.1 hM1 hM2 h2 hb
  obtain ⟨v, v1, v2⟩ := tenths_both (F := F) (u := uO_thrown u 0) a5 hM1 hM2
  have hle := cnt_mono (p := lkx (T_book t) a1 a2 a3 a4 a5) (q := lkq (T_book t) a1 a2 a3 a4) (fun k z => z.1) nb
  have hcl := cnt_le (lkq (T_book t) a1 a2 a3 a4) nb
  rw [s0, s1', m0, m1, cnt_min, v1, v2]
  simp only [obd_s]
  generalize hn0 : cnt (lkq (T_book t) a1 a2 a3 a4) nb = n0 at *
  generalize hk0 : cnt (lkx (T_book t) a1 a2 a3 a4 a5) nb = k0 at *
  by_cases h18 : n0 ≤ 18
  · rw [if_pos (show nI n0 ≤ 18 from nI_le (b := 18) h18 (by omega)), if_pos (show nI n0 ≤ 18 from nI_le (b := 18) h18 (by omega))]
    obtain ⟨s', e1⟩ := rows_c (F := F) v (T_honestRows t) hF h18 hle
    have e2 := rows_m (F := F) (u := uO_thrown u 0) v hF h18 hle hT
    rw [e1, e2, power_c (F := F) _ (by omega) (by omega)]
    simp only [olt_s, obd_s, c6_0, c6_1, c264l, k0i, k1i, k262, xT_textLength_textLength, xT_reader_textLength, xT_market_textLength, xT_beliefs_textLength, xT_book_textLength, xT_img0_textLength, xT_img1_textLength, xT_kept_textLength, xT_honestRows_textLength, xT_verdict_textLength, xT_sortedOffs_textLength, xT_chanceSteps_textLength, xT_chanceOften_textLength, xT_stepsSold_textLength, xT_traced_textLength, zT_textLength, xT_textLength_reader, xT_reader_reader, xT_market_reader, xT_beliefs_reader, xT_book_reader, xT_img0_reader, xT_img1_reader, xT_kept_reader, xT_honestRows_reader, xT_verdict_reader, xT_sortedOffs_reader, xT_chanceSteps_reader, xT_chanceOften_reader, xT_stepsSold_reader, xT_traced_reader, zT_reader, xT_textLength_market, xT_reader_market, xT_market_market, xT_beliefs_market, xT_book_market, xT_img0_market, xT_img1_market, xT_kept_market, xT_honestRows_market, xT_verdict_market, xT_sortedOffs_market, xT_chanceSteps_market, xT_chanceOften_market, xT_stepsSold_market, xT_traced_market, zT_market, xT_textLength_beliefs, xT_reader_beliefs, xT_market_beliefs, xT_beliefs_beliefs, xT_book_beliefs, xT_img0_beliefs, xT_img1_beliefs, xT_kept_beliefs, xT_honestRows_beliefs, xT_verdict_beliefs, xT_sortedOffs_beliefs, xT_chanceSteps_beliefs, xT_chanceOften_beliefs, xT_stepsSold_beliefs, xT_traced_beliefs, zT_beliefs, xT_textLength_book, xT_reader_book, xT_market_book, xT_beliefs_book, xT_book_book, xT_img0_book, xT_img1_book, xT_kept_book, xT_honestRows_book, xT_verdict_book, xT_sortedOffs_book, xT_chanceSteps_book, xT_chanceOften_book, xT_stepsSold_book, xT_traced_book, zT_book, xT_textLength_img0, xT_reader_img0, xT_market_img0, xT_beliefs_img0, xT_book_img0, xT_img0_img0, xT_img1_img0, xT_kept_img0, xT_honestRows_img0, xT_verdict_img0, xT_sortedOffs_img0, xT_chanceSteps_img0, xT_chanceOften_img0, xT_stepsSold_img0, xT_traced_img0, zT_img0, xT_textLength_img1, xT_reader_img1, xT_market_img1, xT_beliefs_img1, xT_book_img1, xT_img0_img1, xT_img1_img1, xT_kept_img1, xT_honestRows_img1, xT_verdict_img1, xT_sortedOffs_img1, xT_chanceSteps_img1, xT_chanceOften_img1, xT_stepsSold_img1, xT_traced_img1, zT_img1, xT_textLength_kept, xT_reader_kept, xT_market_kept, xT_beliefs_kept, xT_book_kept, xT_img0_kept, xT_img1_kept, xT_kept_kept, xT_honestRows_kept, xT_verdict_kept, xT_sortedOffs_kept, xT_chanceSteps_kept, xT_chanceOften_kept, xT_stepsSold_kept, xT_traced_kept, zT_kept, xT_textLength_honestRows, xT_reader_honestRows, xT_market_honestRows, xT_beliefs_honestRows, xT_book_honestRows, xT_img0_honestRows, xT_img1_honestRows, xT_kept_honestRows, xT_honestRows_honestRows, xT_verdict_honestRows, xT_sortedOffs_honestRows, xT_chanceSteps_honestRows, xT_chanceOften_honestRows, xT_stepsSold_honestRows, xT_traced_honestRows, zT_honestRows, xT_textLength_verdict, xT_reader_verdict, xT_market_verdict, xT_beliefs_verdict, xT_book_verdict, xT_img0_verdict, xT_img1_verdict, xT_kept_verdict, xT_honestRows_verdict, xT_verdict_verdict, xT_sortedOffs_verdict, xT_chanceSteps_verdict, xT_chanceOften_verdict, xT_stepsSold_verdict, xT_traced_verdict, zT_verdict, xT_textLength_sortedOffs, xT_reader_sortedOffs, xT_market_sortedOffs, xT_beliefs_sortedOffs, xT_book_sortedOffs, xT_img0_sortedOffs, xT_img1_sortedOffs, xT_kept_sortedOffs, xT_honestRows_sortedOffs, xT_verdict_sortedOffs, xT_sortedOffs_sortedOffs, xT_chanceSteps_sortedOffs, xT_chanceOften_sortedOffs, xT_stepsSold_sortedOffs, xT_traced_sortedOffs, zT_sortedOffs, xT_textLength_chanceSteps, xT_reader_chanceSteps, xT_market_chanceSteps, xT_beliefs_chanceSteps, xT_book_chanceSteps, xT_img0_chanceSteps, xT_img1_chanceSteps, xT_kept_chanceSteps, xT_honestRows_chanceSteps, xT_verdict_chanceSteps, xT_sortedOffs_chanceSteps, xT_chanceSteps_chanceSteps, xT_chanceOften_chanceSteps, xT_stepsSold_chanceSteps, xT_traced_chanceSteps, zT_chanceSteps, xT_textLength_chanceOften, xT_reader_chanceOften, xT_market_chanceOften, xT_beliefs_chanceOften, xT_book_chanceOften, xT_img0_chanceOften, xT_img1_chanceOften, xT_kept_chanceOften, xT_honestRows_chanceOften, xT_verdict_chanceOften, xT_sortedOffs_chanceOften, xT_chanceSteps_chanceOften, xT_chanceOften_chanceOften, xT_stepsSold_chanceOften, xT_traced_chanceOften, zT_chanceOften, xT_textLength_stepsSold, xT_reader_stepsSold, xT_market_stepsSold, xT_beliefs_stepsSold, xT_book_stepsSold, xT_img0_stepsSold, xT_img1_stepsSold, xT_kept_stepsSold, xT_honestRows_stepsSold, xT_verdict_stepsSold, xT_sortedOffs_stepsSold, xT_chanceSteps_stepsSold, xT_chanceOften_stepsSold, xT_stepsSold_stepsSold, xT_traced_stepsSold, zT_stepsSold, xT_textLength_traced, xT_reader_traced, xT_market_traced, xT_beliefs_traced, xT_book_traced, xT_img0_traced, xT_img1_traced, xT_kept_traced, xT_honestRows_traced, xT_verdict_traced, xT_sortedOffs_traced, xT_chanceSteps_traced, xT_chanceOften_traced, xT_stepsSold_traced, xT_traced_traced, zT_traced, xB_bags_bags, xB_bagStall_bags, xB_bagHour_bags, xB_bagSort_bags, xB_bagTold_bags, xB_bagShort_bags, xB_bagSteps_bags, xB_trials_bags, xB_trialStall_bags, xB_trialDay_bags, xB_trialOff_bags, xB_looks_bags, xB_lookRows_bags, xB_lookAll_bags, xB_lot_bags, zB_bags, xB_bags_bagStall, xB_bagStall_bagStall, xB_bagHour_bagStall, xB_bagSort_bagStall, xB_bagTold_bagStall, xB_bagShort_bagStall, xB_bagSteps_bagStall, xB_trials_bagStall, xB_trialStall_bagStall, xB_trialDay_bagStall, xB_trialOff_bagStall, xB_looks_bagStall, xB_lookRows_bagStall, xB_lookAll_bagStall, xB_lot_bagStall, zB_bagStall, xB_bags_bagHour, xB_bagStall_bagHour, xB_bagHour_bagHour, xB_bagSort_bagHour, xB_bagTold_bagHour, xB_bagShort_bagHour, xB_bagSteps_bagHour, xB_trials_bagHour, xB_trialStall_bagHour, xB_trialDay_bagHour, xB_trialOff_bagHour, xB_looks_bagHour, xB_lookRows_bagHour, xB_lookAll_bagHour, xB_lot_bagHour, zB_bagHour, xB_bags_bagSort, xB_bagStall_bagSort, xB_bagHour_bagSort, xB_bagSort_bagSort, xB_bagTold_bagSort, xB_bagShort_bagSort, xB_bagSteps_bagSort, xB_trials_bagSort, xB_trialStall_bagSort, xB_trialDay_bagSort, xB_trialOff_bagSort, xB_looks_bagSort, xB_lookRows_bagSort, xB_lookAll_bagSort, xB_lot_bagSort, zB_bagSort, xB_bags_bagTold, xB_bagStall_bagTold, xB_bagHour_bagTold, xB_bagSort_bagTold, xB_bagTold_bagTold, xB_bagShort_bagTold, xB_bagSteps_bagTold, xB_trials_bagTold, xB_trialStall_bagTold, xB_trialDay_bagTold, xB_trialOff_bagTold, xB_looks_bagTold, xB_lookRows_bagTold, xB_lookAll_bagTold, xB_lot_bagTold, zB_bagTold, xB_bags_bagShort, xB_bagStall_bagShort, xB_bagHour_bagShort, xB_bagSort_bagShort, xB_bagTold_bagShort, xB_bagShort_bagShort, xB_bagSteps_bagShort, xB_trials_bagShort, xB_trialStall_bagShort, xB_trialDay_bagShort, xB_trialOff_bagShort, xB_looks_bagShort, xB_lookRows_bagShort, xB_lookAll_bagShort, xB_lot_bagShort, zB_bagShort, xB_bags_bagSteps, xB_bagStall_bagSteps, xB_bagHour_bagSteps, xB_bagSort_bagSteps, xB_bagTold_bagSteps, xB_bagShort_bagSteps, xB_bagSteps_bagSteps, xB_trials_bagSteps, xB_trialStall_bagSteps, xB_trialDay_bagSteps, xB_trialOff_bagSteps, xB_looks_bagSteps, xB_lookRows_bagSteps, xB_lookAll_bagSteps, xB_lot_bagSteps, zB_bagSteps, xB_bags_trials, xB_bagStall_trials, xB_bagHour_trials, xB_bagSort_trials, xB_bagTold_trials, xB_bagShort_trials, xB_bagSteps_trials, xB_trials_trials, xB_trialStall_trials, xB_trialDay_trials, xB_trialOff_trials, xB_looks_trials, xB_lookRows_trials, xB_lookAll_trials, xB_lot_trials, zB_trials, xB_bags_trialStall, xB_bagStall_trialStall, xB_bagHour_trialStall, xB_bagSort_trialStall, xB_bagTold_trialStall, xB_bagShort_trialStall, xB_bagSteps_trialStall, xB_trials_trialStall, xB_trialStall_trialStall, xB_trialDay_trialStall, xB_trialOff_trialStall, xB_looks_trialStall, xB_lookRows_trialStall, xB_lookAll_trialStall, xB_lot_trialStall, zB_trialStall, xB_bags_trialDay, xB_bagStall_trialDay, xB_bagHour_trialDay, xB_bagSort_trialDay, xB_bagTold_trialDay, xB_bagShort_trialDay, xB_bagSteps_trialDay, xB_trials_trialDay, xB_trialStall_trialDay, xB_trialDay_trialDay, xB_trialOff_trialDay, xB_looks_trialDay, xB_lookRows_trialDay, xB_lookAll_trialDay, xB_lot_trialDay, zB_trialDay, xB_bags_trialOff, xB_bagStall_trialOff, xB_bagHour_trialOff, xB_bagSort_trialOff, xB_bagTold_trialOff, xB_bagShort_trialOff, xB_bagSteps_trialOff, xB_trials_trialOff, xB_trialStall_trialOff, xB_trialDay_trialOff, xB_trialOff_trialOff, xB_looks_trialOff, xB_lookRows_trialOff, xB_lookAll_trialOff, xB_lot_trialOff, zB_trialOff, xB_bags_looks, xB_bagStall_looks, xB_bagHour_looks, xB_bagSort_looks, xB_bagTold_looks, xB_bagShort_looks, xB_bagSteps_looks, xB_trials_looks, xB_trialStall_looks, xB_trialDay_looks, xB_trialOff_looks, xB_looks_looks, xB_lookRows_looks, xB_lookAll_looks, xB_lot_looks, zB_looks, xB_bags_lookRows, xB_bagStall_lookRows, xB_bagHour_lookRows, xB_bagSort_lookRows, xB_bagTold_lookRows, xB_bagShort_lookRows, xB_bagSteps_lookRows, xB_trials_lookRows, xB_trialStall_lookRows, xB_trialDay_lookRows, xB_trialOff_lookRows, xB_looks_lookRows, xB_lookRows_lookRows, xB_lookAll_lookRows, xB_lot_lookRows, zB_lookRows, xB_bags_lookAll, xB_bagStall_lookAll, xB_bagHour_lookAll, xB_bagSort_lookAll, xB_bagTold_lookAll, xB_bagShort_lookAll, xB_bagSteps_lookAll, xB_trials_lookAll, xB_trialStall_lookAll, xB_trialDay_lookAll, xB_trialOff_lookAll, xB_looks_lookAll, xB_lookRows_lookAll, xB_lookAll_lookAll, xB_lot_lookAll, zB_lookAll, xB_bags_lot, xB_bagStall_lot, xB_bagHour_lot, xB_bagSort_lot, xB_bagTold_lot, xB_bagShort_lot, xB_bagSteps_lot, xB_trials_lot, xB_trialStall_lot, xB_trialDay_lot, xB_trialOff_lot, xB_looks_lot, xB_lookRows_lot, xB_lookAll_lot, xB_lot_lot, zB_lot, xO_thrown_thrown, xO_trace_thrown, xO_s_thrown, xO_kept_thrown, xO_isKept_thrown, xO_latest_thrown, xO_text_thrown, xO_typed_thrown, xO_next_thrown, xO_token_thrown, xO_place_thrown, xO_value_thrown, xO_fault_thrown, xO_luck_thrown, xO_stall_thrown, xO_way_thrown, xO_stalls_thrown, xO_ways_thrown, xO_draftStalls_thrown, xO_draftWays_thrown, xO_beliefs_thrown, xO_bars_thrown, xO_triangle_thrown, xO_costs_thrown, xO_dones_thrown, xO_row_thrown, xO_up_thrown, xO_down_thrown, xO_soldSteps_thrown, zO_thrown, xO_thrown_trace, xO_trace_trace, xO_s_trace, xO_kept_trace, xO_isKept_trace, xO_latest_trace, xO_text_trace, xO_typed_trace, xO_next_trace, xO_token_trace, xO_place_trace, xO_value_trace, xO_fault_trace, xO_luck_trace, xO_stall_trace, xO_way_trace, xO_stalls_trace, xO_ways_trace, xO_draftStalls_trace, xO_draftWays_trace, xO_beliefs_trace, xO_bars_trace, xO_triangle_trace, xO_costs_trace, xO_dones_trace, xO_row_trace, xO_up_trace, xO_down_trace, xO_soldSteps_trace, zO_trace, xO_thrown_s, xO_trace_s, xO_s_s, xO_kept_s, xO_isKept_s, xO_latest_s, xO_text_s, xO_typed_s, xO_next_s, xO_token_s, xO_place_s, xO_value_s, xO_fault_s, xO_luck_s, xO_stall_s, xO_way_s, xO_stalls_s, xO_ways_s, xO_draftStalls_s, xO_draftWays_s, xO_beliefs_s, xO_bars_s, xO_triangle_s, xO_costs_s, xO_dones_s, xO_row_s, xO_up_s, xO_down_s, xO_soldSteps_s, zO_s, xO_thrown_kept, xO_trace_kept, xO_s_kept, xO_kept_kept, xO_isKept_kept, xO_latest_kept, xO_text_kept, xO_typed_kept, xO_next_kept, xO_token_kept, xO_place_kept, xO_value_kept, xO_fault_kept, xO_luck_kept, xO_stall_kept, xO_way_kept, xO_stalls_kept, xO_ways_kept, xO_draftStalls_kept, xO_draftWays_kept, xO_beliefs_kept, xO_bars_kept, xO_triangle_kept, xO_costs_kept, xO_dones_kept, xO_row_kept, xO_up_kept, xO_down_kept, xO_soldSteps_kept, zO_kept, xO_thrown_isKept, xO_trace_isKept, xO_s_isKept, xO_kept_isKept, xO_isKept_isKept, xO_latest_isKept, xO_text_isKept, xO_typed_isKept, xO_next_isKept, xO_token_isKept, xO_place_isKept, xO_value_isKept, xO_fault_isKept, xO_luck_isKept, xO_stall_isKept, xO_way_isKept, xO_stalls_isKept, xO_ways_isKept, xO_draftStalls_isKept, xO_draftWays_isKept, xO_beliefs_isKept, xO_bars_isKept, xO_triangle_isKept, xO_costs_isKept, xO_dones_isKept, xO_row_isKept, xO_up_isKept, xO_down_isKept, xO_soldSteps_isKept, zO_isKept, xO_thrown_latest, xO_trace_latest, xO_s_latest, xO_kept_latest, xO_isKept_latest, xO_latest_latest, xO_text_latest, xO_typed_latest, xO_next_latest, xO_token_latest, xO_place_latest, xO_value_latest, xO_fault_latest, xO_luck_latest, xO_stall_latest, xO_way_latest, xO_stalls_latest, xO_ways_latest, xO_draftStalls_latest, xO_draftWays_latest, xO_beliefs_latest, xO_bars_latest, xO_triangle_latest, xO_costs_latest, xO_dones_latest, xO_row_latest, xO_up_latest, xO_down_latest, xO_soldSteps_latest, zO_latest, xO_thrown_text, xO_trace_text, xO_s_text, xO_kept_text, xO_isKept_text, xO_latest_text, xO_text_text, xO_typed_text, xO_next_text, xO_token_text, xO_place_text, xO_value_text, xO_fault_text, xO_luck_text, xO_stall_text, xO_way_text, xO_stalls_text, xO_ways_text, xO_draftStalls_text, xO_draftWays_text, xO_beliefs_text, xO_bars_text, xO_triangle_text, xO_costs_text, xO_dones_text, xO_row_text, xO_up_text, xO_down_text, xO_soldSteps_text, zO_text, xO_thrown_typed, xO_trace_typed, xO_s_typed, xO_kept_typed, xO_isKept_typed, xO_latest_typed, xO_text_typed, xO_typed_typed, xO_next_typed, xO_token_typed, xO_place_typed, xO_value_typed, xO_fault_typed, xO_luck_typed, xO_stall_typed, xO_way_typed, xO_stalls_typed, xO_ways_typed, xO_draftStalls_typed, xO_draftWays_typed, xO_beliefs_typed, xO_bars_typed, xO_triangle_typed, xO_costs_typed, xO_dones_typed, xO_row_typed, xO_up_typed, xO_down_typed, xO_soldSteps_typed, zO_typed, xO_thrown_next, xO_trace_next, xO_s_next, xO_kept_next, xO_isKept_next, xO_latest_next, xO_text_next, xO_typed_next, xO_next_next, xO_token_next, xO_place_next, xO_value_next, xO_fault_next, xO_luck_next, xO_stall_next, xO_way_next, xO_stalls_next, xO_ways_next, xO_draftStalls_next, xO_draftWays_next, xO_beliefs_next, xO_bars_next, xO_triangle_next, xO_costs_next, xO_dones_next, xO_row_next, xO_up_next, xO_down_next, xO_soldSteps_next, zO_next, xO_thrown_token, xO_trace_token, xO_s_token, xO_kept_token, xO_isKept_token, xO_latest_token, xO_text_token, xO_typed_token, xO_next_token, xO_token_token, xO_place_token, xO_value_token, xO_fault_token, xO_luck_token, xO_stall_token, xO_way_token, xO_stalls_token, xO_ways_token, xO_draftStalls_token, xO_draftWays_token, xO_beliefs_token, xO_bars_token, xO_triangle_token, xO_costs_token, xO_dones_token, xO_row_token, xO_up_token, xO_down_token, xO_soldSteps_token, zO_token, xO_thrown_place, xO_trace_place, xO_s_place, xO_kept_place, xO_isKept_place, xO_latest_place, xO_text_place, xO_typed_place, xO_next_place, xO_token_place, xO_place_place, xO_value_place, xO_fault_place, xO_luck_place, xO_stall_place, xO_way_place, xO_stalls_place, xO_ways_place, xO_draftStalls_place, xO_draftWays_place, xO_beliefs_place, xO_bars_place, xO_triangle_place, xO_costs_place, xO_dones_place, xO_row_place, xO_up_place, xO_down_place, xO_soldSteps_place, zO_place, xO_thrown_value, xO_trace_value, xO_s_value, xO_kept_value, xO_isKept_value, xO_latest_value, xO_text_value, xO_typed_value, xO_next_value, xO_token_value, xO_place_value, xO_value_value, xO_fault_value, xO_luck_value, xO_stall_value, xO_way_value, xO_stalls_value, xO_ways_value, xO_draftStalls_value, xO_draftWays_value, xO_beliefs_value, xO_bars_value, xO_triangle_value, xO_costs_value, xO_dones_value, xO_row_value, xO_up_value, xO_down_value, xO_soldSteps_value, zO_value, xO_thrown_fault, xO_trace_fault, xO_s_fault, xO_kept_fault, xO_isKept_fault, xO_latest_fault, xO_text_fault, xO_typed_fault, xO_next_fault, xO_token_fault, xO_place_fault, xO_value_fault, xO_fault_fault, xO_luck_fault, xO_stall_fault, xO_way_fault, xO_stalls_fault, xO_ways_fault, xO_draftStalls_fault, xO_draftWays_fault, xO_beliefs_fault, xO_bars_fault, xO_triangle_fault, xO_costs_fault, xO_dones_fault, xO_row_fault, xO_up_fault, xO_down_fault, xO_soldSteps_fault, zO_fault, xO_thrown_luck, xO_trace_luck, xO_s_luck, xO_kept_luck, xO_isKept_luck, xO_latest_luck, xO_text_luck, xO_typed_luck, xO_next_luck, xO_token_luck, xO_place_luck, xO_value_luck, xO_fault_luck, xO_luck_luck, xO_stall_luck, xO_way_luck, xO_stalls_luck, xO_ways_luck, xO_draftStalls_luck, xO_draftWays_luck, xO_beliefs_luck, xO_bars_luck, xO_triangle_luck, xO_costs_luck, xO_dones_luck, xO_row_luck, xO_up_luck, xO_down_luck, xO_soldSteps_luck, zO_luck, xO_thrown_stall, xO_trace_stall, xO_s_stall, xO_kept_stall, xO_isKept_stall, xO_latest_stall, xO_text_stall, xO_typed_stall, xO_next_stall, xO_token_stall, xO_place_stall, xO_value_stall, xO_fault_stall, xO_luck_stall, xO_stall_stall, xO_way_stall, xO_stalls_stall, xO_ways_stall, xO_draftStalls_stall, xO_draftWays_stall, xO_beliefs_stall, xO_bars_stall, xO_triangle_stall, xO_costs_stall, xO_dones_stall, xO_row_stall, xO_up_stall, xO_down_stall, xO_soldSteps_stall, zO_stall, xO_thrown_way, xO_trace_way, xO_s_way, xO_kept_way, xO_isKept_way, xO_latest_way, xO_text_way, xO_typed_way, xO_next_way, xO_token_way, xO_place_way, xO_value_way, xO_fault_way, xO_luck_way, xO_stall_way, xO_way_way, xO_stalls_way, xO_ways_way, xO_draftStalls_way, xO_draftWays_way, xO_beliefs_way, xO_bars_way, xO_triangle_way, xO_costs_way, xO_dones_way, xO_row_way, xO_up_way, xO_down_way, xO_soldSteps_way, zO_way, xO_thrown_stalls, xO_trace_stalls, xO_s_stalls, xO_kept_stalls, xO_isKept_stalls, xO_latest_stalls, xO_text_stalls, xO_typed_stalls, xO_next_stalls, xO_token_stalls, xO_place_stalls, xO_value_stalls, xO_fault_stalls, xO_luck_stalls, xO_stall_stalls, xO_way_stalls, xO_stalls_stalls, xO_ways_stalls, xO_draftStalls_stalls, xO_draftWays_stalls, xO_beliefs_stalls, xO_bars_stalls, xO_triangle_stalls, xO_costs_stalls, xO_dones_stalls, xO_row_stalls, xO_up_stalls, xO_down_stalls, xO_soldSteps_stalls, zO_stalls, xO_thrown_ways, xO_trace_ways, xO_s_ways, xO_kept_ways, xO_isKept_ways, xO_latest_ways, xO_text_ways, xO_typed_ways, xO_next_ways, xO_token_ways, xO_place_ways, xO_value_ways, xO_fault_ways, xO_luck_ways, xO_stall_ways, xO_way_ways, xO_stalls_ways, xO_ways_ways, xO_draftStalls_ways, xO_draftWays_ways, xO_beliefs_ways, xO_bars_ways, xO_triangle_ways, xO_costs_ways, xO_dones_ways, xO_row_ways, xO_up_ways, xO_down_ways, xO_soldSteps_ways, zO_ways, xO_thrown_draftStalls, xO_trace_draftStalls, xO_s_draftStalls, xO_kept_draftStalls, xO_isKept_draftStalls, xO_latest_draftStalls, xO_text_draftStalls, xO_typed_draftStalls, xO_next_draftStalls, xO_token_draftStalls, xO_place_draftStalls, xO_value_draftStalls, xO_fault_draftStalls, xO_luck_draftStalls, xO_stall_draftStalls, xO_way_draftStalls, xO_stalls_draftStalls, xO_ways_draftStalls, xO_draftStalls_draftStalls, xO_draftWays_draftStalls, xO_beliefs_draftStalls, xO_bars_draftStalls, xO_triangle_draftStalls, xO_costs_draftStalls, xO_dones_draftStalls, xO_row_draftStalls, xO_up_draftStalls, xO_down_draftStalls, xO_soldSteps_draftStalls, zO_draftStalls, xO_thrown_draftWays, xO_trace_draftWays, xO_s_draftWays, xO_kept_draftWays, xO_isKept_draftWays, xO_latest_draftWays, xO_text_draftWays, xO_typed_draftWays, xO_next_draftWays, xO_token_draftWays, xO_place_draftWays, xO_value_draftWays, xO_fault_draftWays, xO_luck_draftWays, xO_stall_draftWays, xO_way_draftWays, xO_stalls_draftWays, xO_ways_draftWays, xO_draftStalls_draftWays, xO_draftWays_draftWays, xO_beliefs_draftWays, xO_bars_draftWays, xO_triangle_draftWays, xO_costs_draftWays, xO_dones_draftWays, xO_row_draftWays, xO_up_draftWays, xO_down_draftWays, xO_soldSteps_draftWays, zO_draftWays, xO_thrown_beliefs, xO_trace_beliefs, xO_s_beliefs, xO_kept_beliefs, xO_isKept_beliefs, xO_latest_beliefs, xO_text_beliefs, xO_typed_beliefs, xO_next_beliefs, xO_token_beliefs, xO_place_beliefs, xO_value_beliefs, xO_fault_beliefs, xO_luck_beliefs, xO_stall_beliefs, xO_way_beliefs, xO_stalls_beliefs, xO_ways_beliefs, xO_draftStalls_beliefs, xO_draftWays_beliefs, xO_beliefs_beliefs, xO_bars_beliefs, xO_triangle_beliefs, xO_costs_beliefs, xO_dones_beliefs, xO_row_beliefs, xO_up_beliefs, xO_down_beliefs, xO_soldSteps_beliefs, zO_beliefs, xO_thrown_bars, xO_trace_bars, xO_s_bars, xO_kept_bars, xO_isKept_bars, xO_latest_bars, xO_text_bars, xO_typed_bars, xO_next_bars, xO_token_bars, xO_place_bars, xO_value_bars, xO_fault_bars, xO_luck_bars, xO_stall_bars, xO_way_bars, xO_stalls_bars, xO_ways_bars, xO_draftStalls_bars, xO_draftWays_bars, xO_beliefs_bars, xO_bars_bars, xO_triangle_bars, xO_costs_bars, xO_dones_bars, xO_row_bars, xO_up_bars, xO_down_bars, xO_soldSteps_bars, zO_bars, xO_thrown_triangle, xO_trace_triangle, xO_s_triangle, xO_kept_triangle, xO_isKept_triangle, xO_latest_triangle, xO_text_triangle, xO_typed_triangle, xO_next_triangle, xO_token_triangle, xO_place_triangle, xO_value_triangle, xO_fault_triangle, xO_luck_triangle, xO_stall_triangle, xO_way_triangle, xO_stalls_triangle, xO_ways_triangle, xO_draftStalls_triangle, xO_draftWays_triangle, xO_beliefs_triangle, xO_bars_triangle, xO_triangle_triangle, xO_costs_triangle, xO_dones_triangle, xO_row_triangle, xO_up_triangle, xO_down_triangle, xO_soldSteps_triangle, zO_triangle, xO_thrown_costs, xO_trace_costs, xO_s_costs, xO_kept_costs, xO_isKept_costs, xO_latest_costs, xO_text_costs, xO_typed_costs, xO_next_costs, xO_token_costs, xO_place_costs, xO_value_costs, xO_fault_costs, xO_luck_costs, xO_stall_costs, xO_way_costs, xO_stalls_costs, xO_ways_costs, xO_draftStalls_costs, xO_draftWays_costs, xO_beliefs_costs, xO_bars_costs, xO_triangle_costs, xO_costs_costs, xO_dones_costs, xO_row_costs, xO_up_costs, xO_down_costs, xO_soldSteps_costs, zO_costs, xO_thrown_dones, xO_trace_dones, xO_s_dones, xO_kept_dones, xO_isKept_dones, xO_latest_dones, xO_text_dones, xO_typed_dones, xO_next_dones, xO_token_dones, xO_place_dones, xO_value_dones, xO_fault_dones, xO_luck_dones, xO_stall_dones, xO_way_dones, xO_stalls_dones, xO_ways_dones, xO_draftStalls_dones, xO_draftWays_dones, xO_beliefs_dones, xO_bars_dones, xO_triangle_dones, xO_costs_dones, xO_dones_dones, xO_row_dones, xO_up_dones, xO_down_dones, xO_soldSteps_dones, zO_dones, xO_thrown_row, xO_trace_row, xO_s_row, xO_kept_row, xO_isKept_row, xO_latest_row, xO_text_row, xO_typed_row, xO_next_row, xO_token_row, xO_place_row, xO_value_row, xO_fault_row, xO_luck_row, xO_stall_row, xO_way_row, xO_stalls_row, xO_ways_row, xO_draftStalls_row, xO_draftWays_row, xO_beliefs_row, xO_bars_row, xO_triangle_row, xO_costs_row, xO_dones_row, xO_row_row, xO_up_row, xO_down_row, xO_soldSteps_row, zO_row, xO_thrown_up, xO_trace_up, xO_s_up, xO_kept_up, xO_isKept_up, xO_latest_up, xO_text_up, xO_typed_up, xO_next_up, xO_token_up, xO_place_up, xO_value_up, xO_fault_up, xO_luck_up, xO_stall_up, xO_way_up, xO_stalls_up, xO_ways_up, xO_draftStalls_up, xO_draftWays_up, xO_beliefs_up, xO_bars_up, xO_triangle_up, xO_costs_up, xO_dones_up, xO_row_up, xO_up_up, xO_down_up, xO_soldSteps_up, zO_up, xO_thrown_down, xO_trace_down, xO_s_down, xO_kept_down, xO_isKept_down, xO_latest_down, xO_text_down, xO_typed_down, xO_next_down, xO_token_down, xO_place_down, xO_value_down, xO_fault_down, xO_luck_down, xO_stall_down, xO_way_down, xO_stalls_down, xO_ways_down, xO_draftStalls_down, xO_draftWays_down, xO_beliefs_down, xO_bars_down, xO_triangle_down, xO_costs_down, xO_dones_down, xO_row_down, xO_up_down, xO_down_down, xO_soldSteps_down, zO_down, xO_thrown_soldSteps, xO_trace_soldSteps, xO_s_soldSteps, xO_kept_soldSteps, xO_isKept_soldSteps, xO_latest_soldSteps, xO_text_soldSteps, xO_typed_soldSteps, xO_next_soldSteps, xO_token_soldSteps, xO_place_soldSteps, xO_value_soldSteps, xO_fault_soldSteps, xO_luck_soldSteps, xO_stall_soldSteps, xO_way_soldSteps, xO_stalls_soldSteps, xO_ways_soldSteps, xO_draftStalls_soldSteps, xO_draftWays_soldSteps, xO_beliefs_soldSteps, xO_bars_soldSteps, xO_triangle_soldSteps, xO_costs_soldSteps, xO_dones_soldSteps, xO_row_soldSteps, xO_up_soldSteps, xO_down_soldSteps, xO_soldSteps_soldSteps, zO_soldSteps]
    rw [power_m (F := F) _ (by omega) (by omega)]
    simp only [olt_s, obd_s, c6_0, c6_1, c264l, k0i, k1i, k262, xT_textLength_textLength, xT_reader_textLength, xT_market_textLength, xT_beliefs_textLength, xT_book_textLength, xT_img0_textLength, xT_img1_textLength, xT_kept_textLength, xT_honestRows_textLength, xT_verdict_textLength, xT_sortedOffs_textLength, xT_chanceSteps_textLength, xT_chanceOften_textLength, xT_stepsSold_textLength, xT_traced_textLength, zT_textLength, xT_textLength_reader, xT_reader_reader, xT_market_reader, xT_beliefs_reader, xT_book_reader, xT_img0_reader, xT_img1_reader, xT_kept_reader, xT_honestRows_reader, xT_verdict_reader, xT_sortedOffs_reader, xT_chanceSteps_reader, xT_chanceOften_reader, xT_stepsSold_reader, xT_traced_reader, zT_reader, xT_textLength_market, xT_reader_market, xT_market_market, xT_beliefs_market, xT_book_market, xT_img0_market, xT_img1_market, xT_kept_market, xT_honestRows_market, xT_verdict_market, xT_sortedOffs_market, xT_chanceSteps_market, xT_chanceOften_market, xT_stepsSold_market, xT_traced_market, zT_market, xT_textLength_beliefs, xT_reader_beliefs, xT_market_beliefs, xT_beliefs_beliefs, xT_book_beliefs, xT_img0_beliefs, xT_img1_beliefs, xT_kept_beliefs, xT_honestRows_beliefs, xT_verdict_beliefs, xT_sortedOffs_beliefs, xT_chanceSteps_beliefs, xT_chanceOften_beliefs, xT_stepsSold_beliefs, xT_traced_beliefs, zT_beliefs, xT_textLength_book, xT_reader_book, xT_market_book, xT_beliefs_book, xT_book_book, xT_img0_book, xT_img1_book, xT_kept_book, xT_honestRows_book, xT_verdict_book, xT_sortedOffs_book, xT_chanceSteps_book, xT_chanceOften_book, xT_stepsSold_book, xT_traced_book, zT_book, xT_textLength_img0, xT_reader_img0, xT_market_img0, xT_beliefs_img0, xT_book_img0, xT_img0_img0, xT_img1_img0, xT_kept_img0, xT_honestRows_img0, xT_verdict_img0, xT_sortedOffs_img0, xT_chanceSteps_img0, xT_chanceOften_img0, xT_stepsSold_img0, xT_traced_img0, zT_img0, xT_textLength_img1, xT_reader_img1, xT_market_img1, xT_beliefs_img1, xT_book_img1, xT_img0_img1, xT_img1_img1, xT_kept_img1, xT_honestRows_img1, xT_verdict_img1, xT_sortedOffs_img1, xT_chanceSteps_img1, xT_chanceOften_img1, xT_stepsSold_img1, xT_traced_img1, zT_img1, xT_textLength_kept, xT_reader_kept, xT_market_kept, xT_beliefs_kept, xT_book_kept, xT_img0_kept, xT_img1_kept, xT_kept_kept, xT_honestRows_kept, xT_verdict_kept, xT_sortedOffs_kept, xT_chanceSteps_kept, xT_chanceOften_kept, xT_stepsSold_kept, xT_traced_kept, zT_kept, xT_textLength_honestRows, xT_reader_honestRows, xT_market_honestRows, xT_beliefs_honestRows, xT_book_honestRows, xT_img0_honestRows, xT_img1_honestRows, xT_kept_honestRows, xT_honestRows_honestRows, xT_verdict_honestRows, xT_sortedOffs_honestRows, xT_chanceSteps_honestRows, xT_chanceOften_honestRows, xT_stepsSold_honestRows, xT_traced_honestRows, zT_honestRows, xT_textLength_verdict, xT_reader_verdict, xT_market_verdict, xT_beliefs_verdict, xT_book_verdict, xT_img0_verdict, xT_img1_verdict, xT_kept_verdict, xT_honestRows_verdict, xT_verdict_verdict, xT_sortedOffs_verdict, xT_chanceSteps_verdict, xT_chanceOften_verdict, xT_stepsSold_verdict, xT_traced_verdict, zT_verdict, xT_textLength_sortedOffs, xT_reader_sortedOffs, xT_market_sortedOffs, xT_beliefs_sortedOffs, xT_book_sortedOffs, xT_img0_sortedOffs, xT_img1_sortedOffs, xT_kept_sortedOffs, xT_honestRows_sortedOffs, xT_verdict_sortedOffs, xT_sortedOffs_sortedOffs, xT_chanceSteps_sortedOffs, xT_chanceOften_sortedOffs, xT_stepsSold_sortedOffs, xT_traced_sortedOffs, zT_sortedOffs, xT_textLength_chanceSteps, xT_reader_chanceSteps, xT_market_chanceSteps, xT_beliefs_chanceSteps, xT_book_chanceSteps, xT_img0_chanceSteps, xT_img1_chanceSteps, xT_kept_chanceSteps, xT_honestRows_chanceSteps, xT_verdict_chanceSteps, xT_sortedOffs_chanceSteps, xT_chanceSteps_chanceSteps, xT_chanceOften_chanceSteps, xT_stepsSold_chanceSteps, xT_traced_chanceSteps, zT_chanceSteps, xT_textLength_chanceOften, xT_reader_chanceOften, xT_market_chanceOften, xT_beliefs_chanceOften, xT_book_chanceOften, xT_img0_chanceOften, xT_img1_chanceOften, xT_kept_chanceOften, xT_honestRows_chanceOften, xT_verdict_chanceOften, xT_sortedOffs_chanceOften, xT_chanceSteps_chanceOften, xT_chanceOften_chanceOften, xT_stepsSold_chanceOften, xT_traced_chanceOften, zT_chanceOften, xT_textLength_stepsSold, xT_reader_stepsSold, xT_market_stepsSold, xT_beliefs_stepsSold, xT_book_stepsSold, xT_img0_stepsSold, xT_img1_stepsSold, xT_kept_stepsSold, xT_honestRows_stepsSold, xT_verdict_stepsSold, xT_sortedOffs_stepsSold, xT_chanceSteps_stepsSold, xT_chanceOften_stepsSold, xT_stepsSold_stepsSold, xT_traced_stepsSold, zT_stepsSold, xT_textLength_traced, xT_reader_traced, xT_market_traced, xT_beliefs_traced, xT_book_traced, xT_img0_traced, xT_img1_traced, xT_kept_traced, xT_honestRows_traced, xT_verdict_traced, xT_sortedOffs_traced, xT_chanceSteps_traced, xT_chanceOften_traced, xT_stepsSold_traced, xT_traced_traced, zT_traced, xB_bags_bags, xB_bagStall_bags, xB_bagHour_bags, xB_bagSort_bags, xB_bagTold_bags, xB_bagShort_bags, xB_bagSteps_bags, xB_trials_bags, xB_trialStall_bags, xB_trialDay_bags, xB_trialOff_bags, xB_looks_bags, xB_lookRows_bags, xB_lookAll_bags, xB_lot_bags, zB_bags, xB_bags_bagStall, xB_bagStall_bagStall, xB_bagHour_bagStall, xB_bagSort_bagStall, xB_bagTold_bagStall, xB_bagShort_bagStall, xB_bagSteps_bagStall, xB_trials_bagStall, xB_trialStall_bagStall, xB_trialDay_bagStall, xB_trialOff_bagStall, xB_looks_bagStall, xB_lookRows_bagStall, xB_lookAll_bagStall, xB_lot_bagStall, zB_bagStall, xB_bags_bagHour, xB_bagStall_bagHour, xB_bagHour_bagHour, xB_bagSort_bagHour, xB_bagTold_bagHour, xB_bagShort_bagHour, xB_bagSteps_bagHour, xB_trials_bagHour, xB_trialStall_bagHour, xB_trialDay_bagHour, xB_trialOff_bagHour, xB_looks_bagHour, xB_lookRows_bagHour, xB_lookAll_bagHour, xB_lot_bagHour, zB_bagHour, xB_bags_bagSort, xB_bagStall_bagSort, xB_bagHour_bagSort, xB_bagSort_bagSort, xB_bagTold_bagSort, xB_bagShort_bagSort, xB_bagSteps_bagSort, xB_trials_bagSort, xB_trialStall_bagSort, xB_trialDay_bagSort, xB_trialOff_bagSort, xB_looks_bagSort, xB_lookRows_bagSort, xB_lookAll_bagSort, xB_lot_bagSort, zB_bagSort, xB_bags_bagTold, xB_bagStall_bagTold, xB_bagHour_bagTold, xB_bagSort_bagTold, xB_bagTold_bagTold, xB_bagShort_bagTold, xB_bagSteps_bagTold, xB_trials_bagTold, xB_trialStall_bagTold, xB_trialDay_bagTold, xB_trialOff_bagTold, xB_looks_bagTold, xB_lookRows_bagTold, xB_lookAll_bagTold, xB_lot_bagTold, zB_bagTold, xB_bags_bagShort, xB_bagStall_bagShort, xB_bagHour_bagShort, xB_bagSort_bagShort, xB_bagTold_bagShort, xB_bagShort_bagShort, xB_bagSteps_bagShort, xB_trials_bagShort, xB_trialStall_bagShort, xB_trialDay_bagShort, xB_trialOff_bagShort, xB_looks_bagShort, xB_lookRows_bagShort, xB_lookAll_bagShort, xB_lot_bagShort, zB_bagShort, xB_bags_bagSteps, xB_bagStall_bagSteps, xB_bagHour_bagSteps, xB_bagSort_bagSteps, xB_bagTold_bagSteps, xB_bagShort_bagSteps, xB_bagSteps_bagSteps, xB_trials_bagSteps, xB_trialStall_bagSteps, xB_trialDay_bagSteps, xB_trialOff_bagSteps, xB_looks_bagSteps, xB_lookRows_bagSteps, xB_lookAll_bagSteps, xB_lot_bagSteps, zB_bagSteps, xB_bags_trials, xB_bagStall_trials, xB_bagHour_trials, xB_bagSort_trials, xB_bagTold_trials, xB_bagShort_trials, xB_bagSteps_trials, xB_trials_trials, xB_trialStall_trials, xB_trialDay_trials, xB_trialOff_trials, xB_looks_trials, xB_lookRows_trials, xB_lookAll_trials, xB_lot_trials, zB_trials, xB_bags_trialStall, xB_bagStall_trialStall, xB_bagHour_trialStall, xB_bagSort_trialStall, xB_bagTold_trialStall, xB_bagShort_trialStall, xB_bagSteps_trialStall, xB_trials_trialStall, xB_trialStall_trialStall, xB_trialDay_trialStall, xB_trialOff_trialStall, xB_looks_trialStall, xB_lookRows_trialStall, xB_lookAll_trialStall, xB_lot_trialStall, zB_trialStall, xB_bags_trialDay, xB_bagStall_trialDay, xB_bagHour_trialDay, xB_bagSort_trialDay, xB_bagTold_trialDay, xB_bagShort_trialDay, xB_bagSteps_trialDay, xB_trials_trialDay, xB_trialStall_trialDay, xB_trialDay_trialDay, xB_trialOff_trialDay, xB_looks_trialDay, xB_lookRows_trialDay, xB_lookAll_trialDay, xB_lot_trialDay, zB_trialDay, xB_bags_trialOff, xB_bagStall_trialOff, xB_bagHour_trialOff, xB_bagSort_trialOff, xB_bagTold_trialOff, xB_bagShort_trialOff, xB_bagSteps_trialOff, xB_trials_trialOff, xB_trialStall_trialOff, xB_trialDay_trialOff, xB_trialOff_trialOff, xB_looks_trialOff, xB_lookRows_trialOff, xB_lookAll_trialOff, xB_lot_trialOff, zB_trialOff, xB_bags_looks, xB_bagStall_looks, xB_bagHour_looks, xB_bagSort_looks, xB_bagTold_looks, xB_bagShort_looks, xB_bagSteps_looks, xB_trials_looks, xB_trialStall_looks, xB_trialDay_looks, xB_trialOff_looks, xB_looks_looks, xB_lookRows_looks, xB_lookAll_looks, xB_lot_looks, zB_looks, xB_bags_lookRows, xB_bagStall_lookRows, xB_bagHour_lookRows, xB_bagSort_lookRows, xB_bagTold_lookRows, xB_bagShort_lookRows, xB_bagSteps_lookRows, xB_trials_lookRows, xB_trialStall_lookRows, xB_trialDay_lookRows, xB_trialOff_lookRows, xB_looks_lookRows, xB_lookRows_lookRows, xB_lookAll_lookRows, xB_lot_lookRows, zB_lookRows, xB_bags_lookAll, xB_bagStall_lookAll, xB_bagHour_lookAll, xB_bagSort_lookAll, xB_bagTold_lookAll, xB_bagShort_lookAll, xB_bagSteps_lookAll, xB_trials_lookAll, xB_trialStall_lookAll, xB_trialDay_lookAll, xB_trialOff_lookAll, xB_looks_lookAll, xB_lookRows_lookAll, xB_lookAll_lookAll, xB_lot_lookAll, zB_lookAll, xB_bags_lot, xB_bagStall_lot, xB_bagHour_lot, xB_bagSort_lot, xB_bagTold_lot, xB_bagShort_lot, xB_bagSteps_lot, xB_trials_lot, xB_trialStall_lot, xB_trialDay_lot, xB_trialOff_lot, xB_looks_lot, xB_lookRows_lot, xB_lookAll_lot, xB_lot_lot, zB_lot, xO_thrown_thrown, xO_trace_thrown, xO_s_thrown, xO_kept_thrown, xO_isKept_thrown, xO_latest_thrown, xO_text_thrown, xO_typed_thrown, xO_next_thrown, xO_token_thrown, xO_place_thrown, xO_value_thrown, xO_fault_thrown, xO_luck_thrown, xO_stall_thrown, xO_way_thrown, xO_stalls_thrown, xO_ways_thrown, xO_draftStalls_thrown, xO_draftWays_thrown, xO_beliefs_thrown, xO_bars_thrown, xO_triangle_thrown, xO_costs_thrown, xO_dones_thrown, xO_row_thrown, xO_up_thrown, xO_down_thrown, xO_soldSteps_thrown, zO_thrown, xO_thrown_trace, xO_trace_trace, xO_s_trace, xO_kept_trace, xO_isKept_trace, xO_latest_trace, xO_text_trace, xO_typed_trace, xO_next_trace, xO_token_trace, xO_place_trace, xO_value_trace, xO_fault_trace, xO_luck_trace, xO_stall_trace, xO_way_trace, xO_stalls_trace, xO_ways_trace, xO_draftStalls_trace, xO_draftWays_trace, xO_beliefs_trace, xO_bars_trace, xO_triangle_trace, xO_costs_trace, xO_dones_trace, xO_row_trace, xO_up_trace, xO_down_trace, xO_soldSteps_trace, zO_trace, xO_thrown_s, xO_trace_s, xO_s_s, xO_kept_s, xO_isKept_s, xO_latest_s, xO_text_s, xO_typed_s, xO_next_s, xO_token_s, xO_place_s, xO_value_s, xO_fault_s, xO_luck_s, xO_stall_s, xO_way_s, xO_stalls_s, xO_ways_s, xO_draftStalls_s, xO_draftWays_s, xO_beliefs_s, xO_bars_s, xO_triangle_s, xO_costs_s, xO_dones_s, xO_row_s, xO_up_s, xO_down_s, xO_soldSteps_s, zO_s, xO_thrown_kept, xO_trace_kept, xO_s_kept, xO_kept_kept, xO_isKept_kept, xO_latest_kept, xO_text_kept, xO_typed_kept, xO_next_kept, xO_token_kept, xO_place_kept, xO_value_kept, xO_fault_kept, xO_luck_kept, xO_stall_kept, xO_way_kept, xO_stalls_kept, xO_ways_kept, xO_draftStalls_kept, xO_draftWays_kept, xO_beliefs_kept, xO_bars_kept, xO_triangle_kept, xO_costs_kept, xO_dones_kept, xO_row_kept, xO_up_kept, xO_down_kept, xO_soldSteps_kept, zO_kept, xO_thrown_isKept, xO_trace_isKept, xO_s_isKept, xO_kept_isKept, xO_isKept_isKept, xO_latest_isKept, xO_text_isKept, xO_typed_isKept, xO_next_isKept, xO_token_isKept, xO_place_isKept, xO_value_isKept, xO_fault_isKept, xO_luck_isKept, xO_stall_isKept, xO_way_isKept, xO_stalls_isKept, xO_ways_isKept, xO_draftStalls_isKept, xO_draftWays_isKept, xO_beliefs_isKept, xO_bars_isKept, xO_triangle_isKept, xO_costs_isKept, xO_dones_isKept, xO_row_isKept, xO_up_isKept, xO_down_isKept, xO_soldSteps_isKept, zO_isKept, xO_thrown_latest, xO_trace_latest, xO_s_latest, xO_kept_latest, xO_isKept_latest, xO_latest_latest, xO_text_latest, xO_typed_latest, xO_next_latest, xO_token_latest, xO_place_latest, xO_value_latest, xO_fault_latest, xO_luck_latest, xO_stall_latest, xO_way_latest, xO_stalls_latest, xO_ways_latest, xO_draftStalls_latest, xO_draftWays_latest, xO_beliefs_latest, xO_bars_latest, xO_triangle_latest, xO_costs_latest, xO_dones_latest, xO_row_latest, xO_up_latest, xO_down_latest, xO_soldSteps_latest, zO_latest, xO_thrown_text, xO_trace_text, xO_s_text, xO_kept_text, xO_isKept_text, xO_latest_text, xO_text_text, xO_typed_text, xO_next_text, xO_token_text, xO_place_text, xO_value_text, xO_fault_text, xO_luck_text, xO_stall_text, xO_way_text, xO_stalls_text, xO_ways_text, xO_draftStalls_text, xO_draftWays_text, xO_beliefs_text, xO_bars_text, xO_triangle_text, xO_costs_text, xO_dones_text, xO_row_text, xO_up_text, xO_down_text, xO_soldSteps_text, zO_text, xO_thrown_typed, xO_trace_typed, xO_s_typed, xO_kept_typed, xO_isKept_typed, xO_latest_typed, xO_text_typed, xO_typed_typed, xO_next_typed, xO_token_typed, xO_place_typed, xO_value_typed, xO_fault_typed, xO_luck_typed, xO_stall_typed, xO_way_typed, xO_stalls_typed, xO_ways_typed, xO_draftStalls_typed, xO_draftWays_typed, xO_beliefs_typed, xO_bars_typed, xO_triangle_typed, xO_costs_typed, xO_dones_typed, xO_row_typed, xO_up_typed, xO_down_typed, xO_soldSteps_typed, zO_typed, xO_thrown_next, xO_trace_next, xO_s_next, xO_kept_next, xO_isKept_next, xO_latest_next, xO_text_next, xO_typed_next, xO_next_next, xO_token_next, xO_place_next, xO_value_next, xO_fault_next, xO_luck_next, xO_stall_next, xO_way_next, xO_stalls_next, xO_ways_next, xO_draftStalls_next, xO_draftWays_next, xO_beliefs_next, xO_bars_next, xO_triangle_next, xO_costs_next, xO_dones_next, xO_row_next, xO_up_next, xO_down_next, xO_soldSteps_next, zO_next, xO_thrown_token, xO_trace_token, xO_s_token, xO_kept_token, xO_isKept_token, xO_latest_token, xO_text_token, xO_typed_token, xO_next_token, xO_token_token, xO_place_token, xO_value_token, xO_fault_token, xO_luck_token, xO_stall_token, xO_way_token, xO_stalls_token, xO_ways_token, xO_draftStalls_token, xO_draftWays_token, xO_beliefs_token, xO_bars_token, xO_triangle_token, xO_costs_token, xO_dones_token, xO_row_token, xO_up_token, xO_down_token, xO_soldSteps_token, zO_token, xO_thrown_place, xO_trace_place, xO_s_place, xO_kept_place, xO_isKept_place, xO_latest_place, xO_text_place, xO_typed_place, xO_next_place, xO_token_place, xO_place_place, xO_value_place, xO_fault_place, xO_luck_place, xO_stall_place, xO_way_place, xO_stalls_place, xO_ways_place, xO_draftStalls_place, xO_draftWays_place, xO_beliefs_place, xO_bars_place, xO_triangle_place, xO_costs_place, xO_dones_place, xO_row_place, xO_up_place, xO_down_place, xO_soldSteps_place, zO_place, xO_thrown_value, xO_trace_value, xO_s_value, xO_kept_value, xO_isKept_value, xO_latest_value, xO_text_value, xO_typed_value, xO_next_value, xO_token_value, xO_place_value, xO_value_value, xO_fault_value, xO_luck_value, xO_stall_value, xO_way_value, xO_stalls_value, xO_ways_value, xO_draftStalls_value, xO_draftWays_value, xO_beliefs_value, xO_bars_value, xO_triangle_value, xO_costs_value, xO_dones_value, xO_row_value, xO_up_value, xO_down_value, xO_soldSteps_value, zO_value, xO_thrown_fault, xO_trace_fault, xO_s_fault, xO_kept_fault, xO_isKept_fault, xO_latest_fault, xO_text_fault, xO_typed_fault, xO_next_fault, xO_token_fault, xO_place_fault, xO_value_fault, xO_fault_fault, xO_luck_fault, xO_stall_fault, xO_way_fault, xO_stalls_fault, xO_ways_fault, xO_draftStalls_fault, xO_draftWays_fault, xO_beliefs_fault, xO_bars_fault, xO_triangle_fault, xO_costs_fault, xO_dones_fault, xO_row_fault, xO_up_fault, xO_down_fault, xO_soldSteps_fault, zO_fault, xO_thrown_luck, xO_trace_luck, xO_s_luck, xO_kept_luck, xO_isKept_luck, xO_latest_luck, xO_text_luck, xO_typed_luck, xO_next_luck, xO_token_luck, xO_place_luck, xO_value_luck, xO_fault_luck, xO_luck_luck, xO_stall_luck, xO_way_luck, xO_stalls_luck, xO_ways_luck, xO_draftStalls_luck, xO_draftWays_luck, xO_beliefs_luck, xO_bars_luck, xO_triangle_luck, xO_costs_luck, xO_dones_luck, xO_row_luck, xO_up_luck, xO_down_luck, xO_soldSteps_luck, zO_luck, xO_thrown_stall, xO_trace_stall, xO_s_stall, xO_kept_stall, xO_isKept_stall, xO_latest_stall, xO_text_stall, xO_typed_stall, xO_next_stall, xO_token_stall, xO_place_stall, xO_value_stall, xO_fault_stall, xO_luck_stall, xO_stall_stall, xO_way_stall, xO_stalls_stall, xO_ways_stall, xO_draftStalls_stall, xO_draftWays_stall, xO_beliefs_stall, xO_bars_stall, xO_triangle_stall, xO_costs_stall, xO_dones_stall, xO_row_stall, xO_up_stall, xO_down_stall, xO_soldSteps_stall, zO_stall, xO_thrown_way, xO_trace_way, xO_s_way, xO_kept_way, xO_isKept_way, xO_latest_way, xO_text_way, xO_typed_way, xO_next_way, xO_token_way, xO_place_way, xO_value_way, xO_fault_way, xO_luck_way, xO_stall_way, xO_way_way, xO_stalls_way, xO_ways_way, xO_draftStalls_way, xO_draftWays_way, xO_beliefs_way, xO_bars_way, xO_triangle_way, xO_costs_way, xO_dones_way, xO_row_way, xO_up_way, xO_down_way, xO_soldSteps_way, zO_way, xO_thrown_stalls, xO_trace_stalls, xO_s_stalls, xO_kept_stalls, xO_isKept_stalls, xO_latest_stalls, xO_text_stalls, xO_typed_stalls, xO_next_stalls, xO_token_stalls, xO_place_stalls, xO_value_stalls, xO_fault_stalls, xO_luck_stalls, xO_stall_stalls, xO_way_stalls, xO_stalls_stalls, xO_ways_stalls, xO_draftStalls_stalls, xO_draftWays_stalls, xO_beliefs_stalls, xO_bars_stalls, xO_triangle_stalls, xO_costs_stalls, xO_dones_stalls, xO_row_stalls, xO_up_stalls, xO_down_stalls, xO_soldSteps_stalls, zO_stalls, xO_thrown_ways, xO_trace_ways, xO_s_ways, xO_kept_ways, xO_isKept_ways, xO_latest_ways, xO_text_ways, xO_typed_ways, xO_next_ways, xO_token_ways, xO_place_ways, xO_value_ways, xO_fault_ways, xO_luck_ways, xO_stall_ways, xO_way_ways, xO_stalls_ways, xO_ways_ways, xO_draftStalls_ways, xO_draftWays_ways, xO_beliefs_ways, xO_bars_ways, xO_triangle_ways, xO_costs_ways, xO_dones_ways, xO_row_ways, xO_up_ways, xO_down_ways, xO_soldSteps_ways, zO_ways, xO_thrown_draftStalls, xO_trace_draftStalls, xO_s_draftStalls, xO_kept_draftStalls, xO_isKept_draftStalls, xO_latest_draftStalls, xO_text_draftStalls, xO_typed_draftStalls, xO_next_draftStalls, xO_token_draftStalls, xO_place_draftStalls, xO_value_draftStalls, xO_fault_draftStalls, xO_luck_draftStalls, xO_stall_draftStalls, xO_way_draftStalls, xO_stalls_draftStalls, xO_ways_draftStalls, xO_draftStalls_draftStalls, xO_draftWays_draftStalls, xO_beliefs_draftStalls, xO_bars_draftStalls, xO_triangle_draftStalls, xO_costs_draftStalls, xO_dones_draftStalls, xO_row_draftStalls, xO_up_draftStalls, xO_down_draftStalls, xO_soldSteps_draftStalls, zO_draftStalls, xO_thrown_draftWays, xO_trace_draftWays, xO_s_draftWays, xO_kept_draftWays, xO_isKept_draftWays, xO_latest_draftWays, xO_text_draftWays, xO_typed_draftWays, xO_next_draftWays, xO_token_draftWays, xO_place_draftWays, xO_value_draftWays, xO_fault_draftWays, xO_luck_draftWays, xO_stall_draftWays, xO_way_draftWays, xO_stalls_draftWays, xO_ways_draftWays, xO_draftStalls_draftWays, xO_draftWays_draftWays, xO_beliefs_draftWays, xO_bars_draftWays, xO_triangle_draftWays, xO_costs_draftWays, xO_dones_draftWays, xO_row_draftWays, xO_up_draftWays, xO_down_draftWays, xO_soldSteps_draftWays, zO_draftWays, xO_thrown_beliefs, xO_trace_beliefs, xO_s_beliefs, xO_kept_beliefs, xO_isKept_beliefs, xO_latest_beliefs, xO_text_beliefs, xO_typed_beliefs, xO_next_beliefs, xO_token_beliefs, xO_place_beliefs, xO_value_beliefs, xO_fault_beliefs, xO_luck_beliefs, xO_stall_beliefs, xO_way_beliefs, xO_stalls_beliefs, xO_ways_beliefs, xO_draftStalls_beliefs, xO_draftWays_beliefs, xO_beliefs_beliefs, xO_bars_beliefs, xO_triangle_beliefs, xO_costs_beliefs, xO_dones_beliefs, xO_row_beliefs, xO_up_beliefs, xO_down_beliefs, xO_soldSteps_beliefs, zO_beliefs, xO_thrown_bars, xO_trace_bars, xO_s_bars, xO_kept_bars, xO_isKept_bars, xO_latest_bars, xO_text_bars, xO_typed_bars, xO_next_bars, xO_token_bars, xO_place_bars, xO_value_bars, xO_fault_bars, xO_luck_bars, xO_stall_bars, xO_way_bars, xO_stalls_bars, xO_ways_bars, xO_draftStalls_bars, xO_draftWays_bars, xO_beliefs_bars, xO_bars_bars, xO_triangle_bars, xO_costs_bars, xO_dones_bars, xO_row_bars, xO_up_bars, xO_down_bars, xO_soldSteps_bars, zO_bars, xO_thrown_triangle, xO_trace_triangle, xO_s_triangle, xO_kept_triangle, xO_isKept_triangle, xO_latest_triangle, xO_text_triangle, xO_typed_triangle, xO_next_triangle, xO_token_triangle, xO_place_triangle, xO_value_triangle, xO_fault_triangle, xO_luck_triangle, xO_stall_triangle, xO_way_triangle, xO_stalls_triangle, xO_ways_triangle, xO_draftStalls_triangle, xO_draftWays_triangle, xO_beliefs_triangle, xO_bars_triangle, xO_triangle_triangle, xO_costs_triangle, xO_dones_triangle, xO_row_triangle, xO_up_triangle, xO_down_triangle, xO_soldSteps_triangle, zO_triangle, xO_thrown_costs, xO_trace_costs, xO_s_costs, xO_kept_costs, xO_isKept_costs, xO_latest_costs, xO_text_costs, xO_typed_costs, xO_next_costs, xO_token_costs, xO_place_costs, xO_value_costs, xO_fault_costs, xO_luck_costs, xO_stall_costs, xO_way_costs, xO_stalls_costs, xO_ways_costs, xO_draftStalls_costs, xO_draftWays_costs, xO_beliefs_costs, xO_bars_costs, xO_triangle_costs, xO_costs_costs, xO_dones_costs, xO_row_costs, xO_up_costs, xO_down_costs, xO_soldSteps_costs, zO_costs, xO_thrown_dones, xO_trace_dones, xO_s_dones, xO_kept_dones, xO_isKept_dones, xO_latest_dones, xO_text_dones, xO_typed_dones, xO_next_dones, xO_token_dones, xO_place_dones, xO_value_dones, xO_fault_dones, xO_luck_dones, xO_stall_dones, xO_way_dones, xO_stalls_dones, xO_ways_dones, xO_draftStalls_dones, xO_draftWays_dones, xO_beliefs_dones, xO_bars_dones, xO_triangle_dones, xO_costs_dones, xO_dones_dones, xO_row_dones, xO_up_dones, xO_down_dones, xO_soldSteps_dones, zO_dones, xO_thrown_row, xO_trace_row, xO_s_row, xO_kept_row, xO_isKept_row, xO_latest_row, xO_text_row, xO_typed_row, xO_next_row, xO_token_row, xO_place_row, xO_value_row, xO_fault_row, xO_luck_row, xO_stall_row, xO_way_row, xO_stalls_row, xO_ways_row, xO_draftStalls_row, xO_draftWays_row, xO_beliefs_row, xO_bars_row, xO_triangle_row, xO_costs_row, xO_dones_row, xO_row_row, xO_up_row, xO_down_row, xO_soldSteps_row, zO_row, xO_thrown_up, xO_trace_up, xO_s_up, xO_kept_up, xO_isKept_up, xO_latest_up, xO_text_up, xO_typed_up, xO_next_up, xO_token_up, xO_place_up, xO_value_up, xO_fault_up, xO_luck_up, xO_stall_up, xO_way_up, xO_stalls_up, xO_ways_up, xO_draftStalls_up, xO_draftWays_up, xO_beliefs_up, xO_bars_up, xO_triangle_up, xO_costs_up, xO_dones_up, xO_row_up, xO_up_up, xO_down_up, xO_soldSteps_up, zO_up, xO_thrown_down, xO_trace_down, xO_s_down, xO_kept_down, xO_isKept_down, xO_latest_down, xO_text_down, xO_typed_down, xO_next_down, xO_token_down, xO_place_down, xO_value_down, xO_fault_down, xO_luck_down, xO_stall_down, xO_way_down, xO_stalls_down, xO_ways_down, xO_draftStalls_down, xO_draftWays_down, xO_beliefs_down, xO_bars_down, xO_triangle_down, xO_costs_down, xO_dones_down, xO_row_down, xO_up_down, xO_down_down, xO_soldSteps_down, zO_down, xO_thrown_soldSteps, xO_trace_soldSteps, xO_s_soldSteps, xO_kept_soldSteps, xO_isKept_soldSteps, xO_latest_soldSteps, xO_text_soldSteps, xO_typed_soldSteps, xO_next_soldSteps, xO_token_soldSteps, xO_place_soldSteps, xO_value_soldSteps, xO_fault_soldSteps, xO_luck_soldSteps, xO_stall_soldSteps, xO_way_soldSteps, xO_stalls_soldSteps, xO_ways_soldSteps, xO_draftStalls_soldSteps, xO_draftWays_soldSteps, xO_beliefs_soldSteps, xO_bars_soldSteps, xO_triangle_soldSteps, xO_costs_soldSteps, xO_dones_soldSteps, xO_row_soldSteps, xO_up_soldSteps, xO_down_soldSteps, xO_soldSteps_soldSteps, zO_soldSteps]
    have e262 : O_s u 262 = nI lk := h6
    rw [h5, e262]
    by_cases c : lk = 999
    · subst c
      rw [if_pos (show (999 : Int32) < nI 999 + 1 by decide), if_pos (show (999 : Int32) ≤ nI 999 by decide), obd_s, a0]
      refine ⟨_, _, _, rfl, rfl, ?_⟩
      exact Rel_i ns nw nx ⟨hM1, hM2⟩ hX hB (reB_look (lk := 999) _ _ (by omega) hK0) hI hV hS hT
    · rw [if_neg (show ¬ (999 : Int32) < nI lk + 1 by rw [s1]; exact nI_nlt (a := 999) (by omega) (by omega)), if_neg (show ¬ (999 : Int32) ≤ nI lk from nI_ge (b := 999) (by omega) (by omega)), obd_s, s1]
      refine ⟨_, _, _, rfl, rfl, ?_⟩
      exact Rel_i ns nw nx ⟨hM1, hM2⟩ hX hB (reB_look (lk := lk + 1) _ _ (by omega) hK0) hI hV hS hT
  · rw [if_neg (show ¬ nI n0 ≤ 18 from nI_ge (a := 18) (by omega) (by omega)), if_neg (show ¬ nI n0 ≤ 18 from nI_ge (a := 18) (by omega) (by omega))]
    exact bad _
/-! even -/
abbrev jst (b : SB) (a : Int32) (k : Nat) : Prop := B_bagStall b k = a ∧ B_bagSteps b k = 0
theorem just_c {F nb ns : Nat} {m : SM} {b : SB} {s : Nat → Int32} (a : Int32) (hF : nb < F) (hn : nb ≤ 30) (hb : B_bags b = nI nb) (hs : ∀ k, k < nb → okBag m ns b s k) : f_X0_justBagsOf F b a = some (nI (cnt (jst b a) nb)) := by
  unfold f_X0_justBagsOf
  refine loop_fo (L := fun n x i => f_X0_justBagsOf_L4 F b a n x i) (f := cst (jst b a)) (a0 := nI 0) ?_ ?_ F hF
  · intro n k hk
    show f_X0_justBagsOf_L4 F b a (n + 1) _ (nI k) = f_X0_justBagsOf_L4 F b a n _ _
    rw [f_X0_justBagsOf_L4, hb, if_neg (nI_ge hk (by omega)), isOf_eq (by omega)]
    obtain ⟨i, h, o, td, fd, mn, q1, q2, q3, q4, q5⟩ := hs k hk
    rw [q4.1]
    simp only [obd_s, ite01, bit15 q1.2.2.1, and_true, ochi_n (show k < 30 by omega) (show 30 < 2 ^ 31 by omega), cl (show k < 2 ^ 31 by omega), s1, a0]
    by_cases h1 : B_bagStall b k = a
    · rw [if_neg (fun z => z h1)]
      by_cases h2 : B_bagSteps b k = 0
      · rw [if_pos h2, cst_pos (p := jst b a) ⟨h1, h2⟩]
      · rw [if_neg h2, cst_neg (p := jst b a) (fun z => h2 z.2)]
    · rw [if_pos h1, cst_neg (p := jst b a) (fun z => h1 z.1)]
  · intro n
    show f_X0_justBagsOf_L4 F b a (n + 1) _ (nI nb) = _
    rw [f_X0_justBagsOf_L4, hb, if_pos (nI_le (Nat.le_refl _) (by omega)), fo_cst]
theorem Rel_hr {t : ST} {u : SO} (x : SH) (h : Rel t u) : Rel (uT_honestRows t x) u := h
theorem sim_even (F : Nat) (hF : 2000 ≤ F) : ∀ (t : ST) (u : SO) (a1 : Int32) (a2 : Int32), Rel t u → ∃ (r : Int64) (t2 : ST) (u2 : SO), f_X5_even F t a1 a2 = some (r, t2) ∧ f_X6_even F u a1 a2 = some (r, u2) ∧ Rel t2 u2 := by
  intro t u a1 a2 hR
  have bad : ∀ r : Int64, ∃ (r_ : Int64) (t2 : ST) (u2 : SO), (some (r, t) : Option (Int64 × ST)) = some (r_, t2) ∧ (some (r, uO_thrown u 0) : Option (Int64 × SO)) = some (r_, u2) ∧ Rel t2 u2 := fun r => ⟨r, t, _, rfl, rfl, Rel_thr hR⟩
  have hR0 := hR
  obtain ⟨ns, nw, nx, ⟨hM1, hM2⟩, hX, hB, hK, hI, hV, hS, hT⟩ := hR
  have hK0 := hK
  obtain ⟨nb, nt, lk, hn, ⟨h1, h2, h3, h4, h5, h6, h7, h8, h9⟩, hb, ht⟩ := hK
  have hns := hM1.1.1
  have hnw := hM1.1.2.1
  unfold f_X5_even f_X6_even
  simp only [olt_s (uO_thrown u 0)]
  rcases isStall_both (F := F) (t := t) (u := uO_thrown u 0) a1 hM1 hM2 with ⟨i, gi1, rfl, gi3, gi4⟩ | ⟨gi3, gi4⟩
  rotate_left
  · rw [gi3, gi4]; exact bad _
  rw [gi3, gi4]; simp only [obd_s]; rw [if_neg one0, if_neg one0]
  rcases g_rg (F := F) a2 (lo := 0) (hi := 2) 0 2 rfl rfl (by omega) (by omega) with ⟨⟨c, gc1, gc2, rfl⟩, gc3, gc4⟩ | ⟨_, gc3, gc4⟩
  rotate_left
  · rw [gc3, gc4]; exact bad _
  rw [gc3, gc4]; simp only [obd_s]; rw [if_neg one0, if_neg one0]
  have eb := bagsOf_c (F := F) (nI i) (by omega) hn.1 h1 hb
  have eb2 := bagsOf_m (F := F) (u := uO_thrown u 0) (nI i) (by omega) hn.1 h2 hb
  have ej := just_c (F := F) (nI i) (by omega) hn.1 h1 hb
  have hcl := cnt_le (fun k => B_bagStall (T_book t) k = nI i) nb
  have hle := cnt_mono (p := jst (T_book t) (nI i)) (q := fun k => B_bagStall (T_book t) k = nI i) (fun k z => z.1) nb
  rw [eb, eb2, ej]
  simp only [obd_s]
  generalize hn0 : cnt (fun k => B_bagStall (T_book t) k = nI i) nb = n0 at *
  by_cases h18 : n0 ≤ 18
  · rw [if_pos (show nI n0 ≤ 18 from nI_le (b := 18) h18 (by omega)), if_pos (show nI n0 ≤ 18 from nI_le (b := 18) h18 (by omega))]
    have L2 : f_X6_even_L48 F (nI i) (nI c) (nI n0) (uO_thrown u 0) F (0 : Int32) (0 : Int32) = (if nI c = 0 then ochi (1 : Int32) 6 (obd (f_X6_rows F (uO_thrown u 0) (nI n0) (nI (cnt (jst (T_book t) (nI i)) nb)) (O_luck (uO_thrown u 0) (Int32.toNatClampNeg (1 : Int32)))) (fun v22 => some (v22, uO_thrown u 0))) else (if nI c = (1 : Int32) then obd (f_X6_power F (10 : Int64) (nI n0)) (fun v19 => some (v19, uO_thrown u 0)) else some (Int32.toInt64 (nI (cnt (jst (T_book t) (nI i)) nb)), uO_thrown u 0))) := by
      refine loop_fo (L := fun n x k => f_X6_even_L48 F (nI i) (nI c) (nI n0) (uO_thrown u 0) n x k) (f := cst (jst (T_book t) (nI i))) (a0 := nI 0) (N := nb) ?_ ?_ F (by omega)
      · intro n k hk
        show f_X6_even_L48 F (nI i) (nI c) (nI n0) (uO_thrown u 0) (n + 1) _ (nI k) = f_X6_even_L48 F (nI i) (nI c) (nI n0) (uO_thrown u 0) n _ _
        have hst := stepsOf_m (F := F) (u := uO_thrown u 0) (show k < 30 by omega) hM1 hM2 (hb k hk)
        obtain ⟨i', h', o, td, fd, mn, q1, q2, q3, q4, q5⟩ := hb k hk
        rw [f_X6_even_L48, c264, k0i, show O_s (uO_thrown u 0) 0 = nI nb from h2, if_neg (nI_ge hk (by omega)), bag_0 (show k < 30 by omega), hst, show O_s (uO_thrown u 0) (1 + 6 * k) = B_bagStall (T_book t) k from q2.2.trans q2.1.symm]
        simp only [obd_s, s1, a0]
        by_cases z1 : B_bagStall (T_book t) k = nI i
        · rw [if_pos z1]
          by_cases z2 : B_bagSteps (T_book t) k = 0
          · rw [if_pos z2, cst_pos (p := jst (T_book t) (nI i)) ⟨z1, z2⟩]
          · rw [if_neg z2, cst_neg (p := jst (T_book t) (nI i)) (fun z => z2 z.2)]
        · rw [if_neg z1, cst_neg (p := jst (T_book t) (nI i)) (fun z => z1 z.1)]
      · intro n
        show f_X6_even_L48 F (nI i) (nI c) (nI n0) (uO_thrown u 0) (n + 1) _ (nI nb) = _
        rw [f_X6_even_L48, c264, k0i, show O_s (uO_thrown u 0) 0 = nI nb from h2, if_pos (nI_le (Nat.le_refl _) (by omega)), fo_cst]
    rw [L2]
    generalize hk0 : cnt (jst (T_book t) (nI i)) nb = k0 at *
    have hc : c = 0 ∨ c = 1 ∨ c = 2 := by omega
    rcases hc with rfl | rfl | rfl
    · have el : O_luck (uO_thrown u 0) (Int32.toNatClampNeg (1 : Int32)) = M_just (T_market t) := hM2.2.1.2.1
      rw [if_pos (show nI 0 = 0 from rfl), if_pos (show nI 0 = 0 from rfl), c6_1, el]
      obtain ⟨s', e1⟩ := rows_c (F := F) (M_just (T_market t)) (T_honestRows t) hF h18 hle
      have e2 := rows_m (F := F) (u := uO_thrown u 0) (M_just (T_market t)) hF h18 hle hT
      rw [e1, e2]
      exact ⟨_, _, _, rfl, rfl, Rel_hr _ (Rel_thr hR0)⟩
    · rw [if_neg (show ¬ nI 1 = 0 by decide), if_pos (show nI 1 = 1 from rfl), if_neg (show ¬ nI 1 = 0 by decide), if_pos (show nI 1 = 1 from rfl), power_c (F := F) _ (by omega) (by omega), power_m (F := F) _ (by omega) (by omega)]
      exact ⟨_, _, _, rfl, rfl, Rel_thr hR0⟩
    · rw [if_neg (show ¬ nI 2 = 0 by decide), if_neg (show ¬ nI 2 = 1 by decide), if_neg (show ¬ nI 2 = 0 by decide), if_neg (show ¬ nI 2 = 1 by decide)]
      exact bad _
  · rw [if_neg (show ¬ nI n0 ≤ 18 from nI_ge (a := 18) (by omega) (by omega)), if_neg (show ¬ nI n0 ≤ 18 from nI_ge (a := 18) (by omega) (by omega))]
    exact bad _
