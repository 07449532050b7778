/-! ===== middle: the same insertion on both sides ===== -/
def ins (v : Int32) : Nat → (Nat → Int32) → (Nat → Int32)
  | 0, f => upd f 0 v
  | a + 1, f => if f a ≤ v then upd f (a + 1) v else ins v a (upd f (a + 1) (f a))
theorem ins_agree (v : Int32) (m : Nat) : ∀ (a : Nat) (f g : Nat → Int32), a ≤ m → (∀ j, j ≤ m → j ≠ a → f j = g j) → ∀ j, j ≤ m → ins v a f j = ins v a g j := by
  intro a
  induction a with
  | zero =>
    intro f g _ h j hj
    show upd f 0 v j = upd g 0 v j
    by_cases e : j = 0
    · subst e; rw [upd_s, upd_s]
    · rw [upd_n e, upd_n e]; exact h j hj e
  | succ a ih =>
    intro f g ha h j hj
    show (if f a ≤ v then upd f (a + 1) v else ins v a (upd f (a + 1) (f a))) j = (if g a ≤ v then upd g (a + 1) v else ins v a (upd g (a + 1) (g a))) j
    have e := h a (by omega) (by omega)
    rw [e]
    by_cases c : g a ≤ v
    · rw [if_pos c, if_pos c]
      by_cases q : j = a + 1
      · subst q; rw [upd_s, upd_s]
      · rw [upd_n q, upd_n q]; exact h j hj q
    · rw [if_neg c, if_neg c]
      refine ih _ _ (by omega) (fun j' hj' hn => ?_) j hj
      by_cases q : j' = a + 1
      · subst q; rw [upd_s, upd_s]
      · rw [upd_n q, upd_n q]; exact h j' hj' q
theorem ins_c {F k m : Nat} {a1 : Int32} (K : Int32 → Int32 → ST → Option (Int32 × ST)) (hk : k < 20) : ∀ (a n : Nat) (s : ST), a < 20 → a < n → f_X5_sortOffs_L31 F a1 (nI k) K n (nI m) (nI a) s = K (nI (m + 1)) (nI (k + 1)) (uT_sortedOffs s (ins (B_trialOff (T_book s) k) a (T_sortedOffs s))) := by
  intro a
  induction a with
  | zero =>
    intro n s ha hn
    obtain ⟨n, rfl⟩ : ∃ q, n = q + 1 := ⟨n - 1, by omega⟩
    rw [f_X5_sortOffs_L31]
    simp only [olt_s]
    rw [if_pos (show nI 0 ≤ 0 by decide), ochi_n hk (by omega), ochi_n (by omega) (by omega), cl (by omega), cl (by omega), s1, s1]
    rfl
  | succ a ih =>
    intro n s ha hn
    obtain ⟨n, rfl⟩ : ∃ q, n = q + 1 := ⟨n - 1, by omega⟩
    rw [f_X5_sortOffs_L31]
    simp only [olt_s]
    rw [if_neg (nI_nle (by omega) (by omega)), nI_pred, pk_m1]
    simp only [ochi_n hk (show 20 < 2 ^ 31 by omega), ochi_n (show a < 20 by omega) (show 20 < 2 ^ 31 by omega), ochi_n ha (show 20 < 2 ^ 31 by omega), cl (show a < 2 ^ 31 by omega), cl (show k < 2 ^ 31 by omega), cl (show a + 1 < 2 ^ 31 by omega), s1]
    show _ = K _ _ (uT_sortedOffs s (if T_sortedOffs s a ≤ B_trialOff (T_book s) k then _ else _))
    by_cases c : T_sortedOffs s a ≤ B_trialOff (T_book s) k
    · rw [if_pos c, if_pos c]
    · rw [if_neg c, if_neg c, ih n _ (by omega) (by omega)]
      rfl
theorem ins_m {F k m : Nat} {a1 v : Int32} (K : Int32 → Int32 → SO → Option (Int64 × SO)) : ∀ (a n : Nat) (s : SO), a < 20 → a < n → f_X6_middle_L67 F a1 (nI k) v K n (nI m) (nI a) s = K (nI (m + 1)) (nI (k + 1)) (uO_row s (ins v a (O_row s))) := by
  intro a
  induction a with
  | zero =>
    intro n s ha hn
    obtain ⟨n, rfl⟩ : ∃ q, n = q + 1 := ⟨n - 1, by omega⟩
    rw [f_X6_middle_L67]
    simp only [olt_s]
    rw [if_pos (show nI 0 ≤ 0 by decide), ochi_n (by omega) (by omega), cl (by omega), s1, s1]
    rfl
  | succ a ih =>
    intro n s ha hn
    obtain ⟨n, rfl⟩ : ∃ q, n = q + 1 := ⟨n - 1, by omega⟩
    rw [f_X6_middle_L67]
    simp only [olt_s]
    rw [if_neg (nI_nle (by omega) (by omega)), nI_pred, pk_m1]
    simp only [ochi_n (show a < 20 by omega) (show 20 < 2 ^ 31 by omega), ochi_n ha (show 20 < 2 ^ 31 by omega), cl (show a < 2 ^ 31 by omega), cl (show a + 1 < 2 ^ 31 by omega), s1]
    show _ = K _ _ (uO_row s (if O_row s a ≤ v then _ else _))
    by_cases c : O_row s a ≤ v
    · rw [if_pos c, if_pos c]
    · rw [if_neg c, if_neg c, ih n _ (by omega) (by omega)]
      rfl
def srt (b : SB) (i : Nat) : Nat → (Nat → Int32) → (Nat → Int32)
  | 0, f => f
  | k + 1, f => if isT b i k then ins (B_trialOff b k) (cnt (isT b i) k) (srt b i k f) else srt b i k f
theorem srt_agree (b : SB) (i : Nat) (f g : Nat → Int32) (k : Nat) : ∀ j, j < cnt (isT b i) k → srt b i k f j = srt b i k g j := by
  induction k with
  | zero => intro j hj; exact absurd hj (Nat.not_lt_zero _)
  | succ k ih =>
    intro j hj
    show (if isT b i k then ins (B_trialOff b k) (cnt (isT b i) k) (srt b i k f) else srt b i k f) j = (if isT b i k then ins (B_trialOff b k) (cnt (isT b i) k) (srt b i k g) else srt b i k g) j
    by_cases h : isT b i k
    · rw [cnt_p h] at hj
      rw [if_pos h, if_pos h]
      exact ins_agree _ (cnt (isT b i) k) _ _ _ (Nat.le_refl _) (fun j' h1 h2 => ih j' (by omega)) j (by omega)
    · rw [cnt_np h] at hj
      rw [if_neg h, if_neg h]
      exact ih j hj
theorem Rel_so {t : ST} {u : SO} (x y : Nat → Int32) (h : Rel t u) : Rel (uT_sortedOffs t x) (uO_row u y) := h
theorem sim_middle (F : Nat) (hF : 2000 ≤ F) : ∀ (t : ST) (u : SO) (a1 : Int32), Rel t u → ∃ (r : Int64) (t2 : ST) (u2 : SO), f_X5_middle F t a1 = some (r, t2) ∧ f_X6_middle F u a1 = some (r, u2) ∧ Rel t2 u2 := by
  intro t u a1 hR
  have bad : ∀ r : Int64, ∃ (r_ : Int64) (t2 : ST) (u2 : SO), (some (r, t) : Option (Int64 × ST)) = some (r_, t2) ∧ (some (r, uO_thrown u 0) : Option (Int64 × SO)) = some (r_, u2) ∧ Rel t2 u2 := fun r => ⟨r, t, _, rfl, rfl, Rel_thr hR⟩
  have hR0 := hR
  obtain ⟨ns, nw, nx, ⟨hM1, hM2⟩, hX, hB, hK, hI, hV, hS, hT⟩ := hR
  have hK0 := hK
  obtain ⟨nb, nt, lk, hn, ⟨h1, h2, h3, h4, h5, h6, h7, h8, h9⟩, hb, ht⟩ := hK
  have hns := hM1.1.1
  have hnw := hM1.1.2.1
  unfold f_X5_middle f_X6_middle
  simp only [olt_s (uO_thrown u 0)]
  rcases isStall_both (F := F) (t := t) (u := uO_thrown u 0) a1 hM1 hM2 with ⟨i, gi1, rfl, gi3, gi4⟩ | ⟨gi3, gi4⟩
  rotate_left
  · rw [gi3, gi4]; exact bad _
  rw [gi3, gi4]; simp only [obd_s]; rw [if_neg one0, if_neg one0]
  have L1 : f_X5_sortOffs F t (nI i) = some (nI (cnt (isT (T_book t) i) nt), uT_sortedOffs t (srt (T_book t) i nt (T_sortedOffs t))) := by
    unfold f_X5_sortOffs
    refine run_fg (L := fun n (p : Int32 × Int32 × ST) => f_X5_sortOffs_L4 F (nI i) n p.1 p.2.1 p.2.2) (st := fun k => (nI (cnt (isT (T_book t) i) k), nI k, uT_sortedOffs t (srt (T_book t) i k (T_sortedOffs t)))) (N := nt) ?_ ?_ F (by omega)
    · intro n k hk
      show f_X5_sortOffs_L4 F (nI i) (n + 1) (nI (cnt (isT (T_book t) i) k)) (nI k) (uT_sortedOffs t (srt (T_book t) i k (T_sortedOffs t))) = f_X5_sortOffs_L4 F (nI i) n (nI (cnt (isT (T_book t) i) (k + 1))) (nI (k + 1)) (uT_sortedOffs t (if isT (T_book t) i k then ins (B_trialOff (T_book t) k) (cnt (isT (T_book t) i) k) (srt (T_book t) i k (T_sortedOffs t)) else srt (T_book t) i k (T_sortedOffs t)))
      have hc := cnt_le (isT (T_book t) i) k
      rw [f_X5_sortOffs_L4, xT_book_sortedOffs, h3, if_neg (nI_ge hk (by omega)), ochi_n (by omega) (by omega), cl (by omega), s1]
      by_cases h : isT (T_book t) i k
      · rw [if_pos h, if_pos h, cnt_p h, ins_c _ (show k < 20 by omega) _ _ _ (by omega) (by omega)]
        rfl
      · rw [if_neg h, if_neg h, cnt_np h]
    · intro n
      show f_X5_sortOffs_L4 F (nI i) (n + 1) _ (nI nt) (uT_sortedOffs t _) = _
      rw [f_X5_sortOffs_L4, xT_book_sortedOffs, h3, if_pos (nI_le (Nat.le_refl _) (by omega))]
  have et2 := trialsOf_m (F := F) (u := uO_thrown u 0) (nI i) (by omega) hn.2.1 h4 ht
  have hcl := cnt_le (isT (T_book t) i) nt
  rw [L1, et2]
  simp only [obd_s]
  show ∃ (r : Int64) (t2 : ST) (u2 : SO), (if 0 < nI (cnt (isT (T_book t) i) nt) then _ else _) = some (r, t2) ∧ (if nI (cnt (isT (T_book t) i) nt) = 0 then _ else _) = some (r, u2) ∧ Rel t2 u2
  rcases Nat.eq_zero_or_pos (cnt (isT (T_book t) i) nt) with e | e
  · rw [e, if_neg (show ¬ (0 : Int32) < nI 0 by decide), if_pos (show nI 0 = 0 from rfl)]
    exact ⟨_, _, _, rfl, rfl, Rel_so _ (O_row u) (Rel_thr hR0)⟩
  · rw [if_pos (show (0 : Int32) < nI (cnt (isT (T_book t) i) nt) from nI_lt (a := 0) e (by omega)), if_neg (nI_ne0 e (by omega))]
    have ix : (nI (cnt (isT (T_book t) i) nt) - (1 : Int32)) / (2 : Int32) = nI ((cnt (isT (T_book t) i) nt - 1) / 2) := by
      rw [show (1 : Int32) = nI 1 from rfl, show (2 : Int32) = nI 2 from rfl, pk_sub (by omega), pk_div (by omega) (by omega) (by omega)]
    have L2 : f_X6_middle_L29 F (nI i) F (0 : Int32) (0 : Int32) (uO_thrown u 0) = some (Int32.toInt64 (srt (T_book t) i nt (O_row u) ((cnt (isT (T_book t) i) nt - 1) / 2)), uO_row (uO_thrown u 0) (srt (T_book t) i nt (O_row u))) := by
      refine run_fg (L := fun n (p : Int32 × Int32 × SO) => f_X6_middle_L29 F (nI i) n p.1 p.2.1 p.2.2) (st := fun k => (nI (cnt (isT (T_book t) i) k), nI k, uO_row (uO_thrown u 0) (srt (T_book t) i k (O_row u)))) (N := nt) ?_ ?_ F (by omega)
      · intro n k hk
        show f_X6_middle_L29 F (nI i) (n + 1) (nI (cnt (isT (T_book t) i) k)) (nI k) (uO_row (uO_thrown u 0) (srt (T_book t) i k (O_row u))) = f_X6_middle_L29 F (nI i) n (nI (cnt (isT (T_book t) i) (k + 1))) (nI (k + 1)) (uO_row (uO_thrown u 0) (if isT (T_book t) i k then ins (B_trialOff (T_book t) k) (cnt (isT (T_book t) i) k) (srt (T_book t) i k (O_row u)) else srt (T_book t) i k (O_row u)))
        have hc := cnt_le (isT (T_book t) i) k
        have ho := offOf_m (F := F) (u := uO_row (uO_thrown u 0) (srt (T_book t) i k (O_row u))) (show k < 20 by omega) (ht k hk)
        obtain ⟨i', d, le, rd, q1, q2, q3, q4, q5, q6⟩ := ht k hk
        have i1 : (182 : Int32) + 4 * nI k = nI (182 + 4 * k) := by rw [show (182 : Int32) = nI 182 from rfl, show (4 : Int32) = nI 4 from rfl, pk_mul, nI_add]
        have w1 : O_s (uO_thrown u 0) (182 + 4 * k) = B_trialStall (T_book t) k := q2.2.trans q2.1.symm
        rw [f_X6_middle_L29, c264t, k181, xO_s_row, show O_s (uO_thrown u 0) 181 = nI nt from h4, if_neg (nI_ge hk (by omega)), i1, ochi_n (by omega) (by omega), cl (by omega), w1, s1, ho, obd_s]
        by_cases h : isT (T_book t) i k
        · rw [if_pos h, if_pos h, cnt_p h, ins_m _ _ _ _ (by omega) (by omega)]
          rfl
        · rw [if_neg h, if_neg h, cnt_np h]
      · intro n
        show f_X6_middle_L29 F (nI i) (n + 1) (nI (cnt (isT (T_book t) i) nt)) (nI nt) (uO_row (uO_thrown u 0) _) = _
        rw [f_X6_middle_L29, c264t, k181, xO_s_row, show O_s (uO_thrown u 0) 181 = nI nt from h4, if_pos (nI_le (Nat.le_refl _) (by omega)), ix, ochk_of (by decide), ochi_n (by omega) (by omega), cl (by omega)]
        rfl
    rw [L2, ix, ochk_of (by decide), ochi_n (by omega) (by omega), cl (by omega)]
    refine ⟨_, _, _, rfl, ?_, Rel_so _ (srt (T_book t) i nt (O_row u)) (Rel_thr hR0)⟩
    rw [← srt_agree (T_book t) i (T_sortedOffs t) (O_row u) nt _ (by omega)]
    rfl
