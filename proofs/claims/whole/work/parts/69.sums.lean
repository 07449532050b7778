/-! ===== sums over the bags of a stall ===== -/
def zI (z : Int) : Int32 := Int32.ofInt z
def zL (z : Int) : Int64 := Int64.ofInt z
theorem zI_add (a b : Int) : zI a + zI b = zI (a + b) := (Int32.ofInt_add a b).symm
theorem zL_add (a b : Int) : zL a + zL b = zL (a + b) := (Int64.ofInt_add a b).symm
theorem zI_sub (a b : Int) : zI a - zI b = zI (a - b) := (Int32.ofInt_sub a b).symm
theorem zL_mul (a b : Int) : zL a * zL b = zL (a * b) := (Int64.ofInt_mul a b).symm
theorem zL_sub (a b : Int) : zL a - zL b = zL (a - b) := (Int64.ofInt_sub a b).symm
theorem zI_self (x : Int32) : zI x.toInt = x := Int32.ofInt_toInt x
theorem zI_t {z : Int} (h1 : -2147483648 ≤ z) (h2 : z ≤ 2147483647) : (zI z).toInt = z := Int32.toInt_ofInt_of_le h1 (by omega)
theorem zL_t {z : Int} (h1 : -9223372036854775808 ≤ z) (h2 : z ≤ 9223372036854775807) : (zL z).toInt = z := Int64.toInt_ofInt_of_le h1 (by omega)
theorem zI_l {z : Int} (h1 : -2147483648 ≤ z) (h2 : z ≤ 2147483647) : Int32.toInt64 (zI z) = zL z := by
  apply Int64.toInt_inj.mp
  rw [Int32.toInt_toInt64, zI_t h1 h2, zL_t (by omega) (by omega)]
theorem x_l (x : Int32) : Int32.toInt64 x = zL x.toInt := by
  apply Int64.toInt_inj.mp
  have h1 := Int32.le_toInt x
  have h2 := Int32.toInt_lt x
  rw [Int32.toInt_toInt64, zL_t (by omega) (by omega)]
theorem nI_z (n : Nat) : nI n = zI n := (Int32.ofInt_eq_ofNat).symm
theorem lN_z (n : Nat) : lN n = zL n := (Int64.ofInt_eq_ofNat).symm
def zs (p : Nat → Prop) [DecidablePred p] (f : Nat → Int) : Nat → Int
  | 0 => 0
  | k + 1 => zs p f k + (if p k then f k else 0)
theorem zs_s (p : Nat → Prop) [DecidablePred p] (f : Nat → Int) (k : Nat) : zs p f (k + 1) = zs p f k + (if p k then f k else 0) := rfl
theorem zs_b {p : Nat → Prop} [DecidablePred p] {f : Nat → Int} {A B : Int} {n : Nat} (h0 : 0 ≤ A) (h1 : 0 ≤ B) (h : ∀ k, k < n → -A ≤ f k ∧ f k ≤ B) : -(A * n) ≤ zs p f n ∧ zs p f n ≤ B * n := by
  induction n with
  | zero => exact ⟨by rw [show zs p f 0 = 0 from rfl]; simp, by rw [show zs p f 0 = 0 from rfl]; simp⟩
  | succ n ih =>
    have i := ih (fun k hk => h k (by omega))
    have q := h n (by omega)
    rw [zs_s]
    have e1 : A * ((n + 1 : Nat) : Int) = A * n + A := by rw [Int.natCast_add, Int.mul_add]; simp
    have e2 : B * ((n + 1 : Nat) : Int) = B * n + B := by rw [Int.natCast_add, Int.mul_add]; simp
    rw [e1, e2]
    split <;> omega
theorem zs_sub {p : Nat → Prop} [DecidablePred p] (f g : Nat → Int) (n : Nat) : zs p (fun k => f k - g k) n = zs p f n - zs p g n := by
  induction n with
  | zero => rfl
  | succ n ih =>
    rw [zs_s, zs_s, zs_s, ih]
    split <;> omega
theorem zs_nil {p : Nat → Prop} [DecidablePred p] (f : Nat → Int) {n : Nat} (h : cnt p n = 0) : zs p f n = 0 := by
  induction n with
  | zero => rfl
  | succ n ih =>
    have h2 : cnt p n + (if p n then 1 else 0) = 0 := h
    rw [zs_s, ih (by omega)]
    by_cases hp : p n
    · rw [if_pos hp] at h2; omega
    · rw [if_neg hp]; rfl
theorem short_b {m : SM} {ns nw : Nat} {b : SB} {s : Nat → Int32} {k : Nat} (hO : okM m ns nw) (h : okBag m ns b s k) : -1100 ≤ (B_bagShort b k).toInt ∧ (B_bagShort b k).toInt ≤ 1100 := by
  obtain ⟨i, h, o, td, fd, mn, q1, q2, q3, q4, q5, q6, q7, q8, q9⟩ := h
  obtain ⟨d, d1, d2, d3⟩ := (hO.2.2.1 i q1.1).2.1
  have hm : d * mn ≤ 9 * 99 := Nat.mul_le_mul d2 q1.2.2.2.2.2.2
  have hq : d * mn / 10 ≤ 89 := by omega
  rw [q8]
  unfold bagSh
  rw [d3, pk_mul, show (10 : Int32) = nI 10 from rfl, pk_div (by omega) (by omega) (by omega)]
  have e : (nI td - nI fd).toInt = (td : Int) - fd := pk_sub_toInt (by omega) (by omega)
  rw [tS (by rw [e, nI_toInt (by omega)]; omega) (by rw [e, nI_toInt (by omega)]; omega), e, nI_toInt (by omega)]
  omega
theorem told_b {m : SM} {ns : Nat} {b : SB} {s : Nat → Int32} {k : Nat} (h : okBag m ns b s k) : 0 ≤ (B_bagTold b k).toInt ∧ (B_bagTold b k).toInt ≤ 999 := by
  obtain ⟨i, h, o, td, fd, mn, q1, q2, q3, q4, q5, q6, q7, q8, q9⟩ := h
  rw [q5.1, nI_toInt (by omega)]
  omega
theorem bitq {o q : Nat} (h : o ≤ 3) (hq : q ≤ 3) : (((1 : Int32) <<< (nI q &&& 31)) >>> (nI o &&& 31)) &&& (1 : Int32) = 1 ↔ nI o = nI q := by
  have h1 : o = 0 ∨ o = 1 ∨ o = 2 ∨ o = 3 := by omega
  have h2 : q = 0 ∨ q = 1 ∨ q = 2 ∨ q = 3 := by omega
  rcases h1 with rfl | rfl | rfl | rfl <;> rcases h2 with rfl | rfl | rfl | rfl <;> decide
/-- which bags: by the word of sorts -/
abbrev isq (b : SB) (a q : Int32) (k : Nat) : Prop := B_bagStall b k = a ∧ (q >>> (B_bagSort b k &&& 31)) &&& (1 : Int32) = 1
theorem bagsOf_q {F nb : Nat} {b : SB} (a q : Int32) (hF : nb < F) (hn : nb ≤ 30) (hb : B_bags b = nI nb) : f_X0_bagsOf F b a q = some (nI (cnt (isq b a q) nb)) := by
  unfold f_X0_bagsOf
  refine run_fg (L := fun n (p : Int32 × Int32) => f_X0_bagsOf_L5 F b a q n p.1 p.2) (st := fun k => (nI (cnt (isq b a q) k), nI k)) (N := nb) ?_ ?_ F hF
  · intro n k hk
    show f_X0_bagsOf_L5 F b a q (n + 1) _ (nI k) = f_X0_bagsOf_L5 F b a q n (nI (cnt (isq b a q) k + if isq b a q k then 1 else 0)) (nI (k + 1))
    rw [f_X0_bagsOf_L5, hb, if_neg (nI_ge hk (by omega)), isOf_eq (by omega), s1, obd_s]
    by_cases h : isq b a q k
    · rw [if_pos (show B_bagStall b k = a ∧ _ from h), if_neg one0, if_pos h, s1]
    · rw [if_neg (show ¬ (B_bagStall b k = a ∧ _) from h), if_pos rfl, if_neg h, a0] <;> rfl
  · intro n
    show f_X0_bagsOf_L5 F b a q (n + 1) _ (nI nb) = _
    rw [f_X0_bagsOf_L5, hb, if_pos (nI_le (Nat.le_refl _) (by omega))]
theorem shortsOf_q {F nb : Nat} {b : SB} (a q : Int32) (hF : nb < F) (hn : nb ≤ 30) (hb : B_bags b = nI nb) : f_X0_shortsOf F b a q = some (zI (zs (isq b a q) (fun k => (B_bagShort b k).toInt) nb)) := by
  unfold f_X0_shortsOf
  refine run_fg (L := fun n (p : Int32 × Int32) => f_X0_shortsOf_L5 F b a q n p.1 p.2) (st := fun k => (zI (zs (isq b a q) (fun k => (B_bagShort b k).toInt) k), nI k)) (N := nb) ?_ ?_ F hF
  · intro n k hk
    show f_X0_shortsOf_L5 F b a q (n + 1) _ (nI k) = f_X0_shortsOf_L5 F b a q n (zI (zs (isq b a q) (fun k => (B_bagShort b k).toInt) k + if isq b a q k then (B_bagShort b k).toInt else 0)) (nI (k + 1))
    rw [f_X0_shortsOf_L5, hb, if_neg (nI_ge hk (by omega)), isOf_eq (by omega), s1, obd_s, ochi_n (by omega) (by omega), cl (by omega), olt_s]
    by_cases h : isq b a q k
    · rw [if_pos (show B_bagStall b k = a ∧ _ from h), if_neg one0, if_pos h, ← zI_add, zI_self]
    · rw [if_neg (show ¬ (B_bagStall b k = a ∧ _) from h), if_pos rfl, if_neg h, a0, Int.add_zero]
  · intro n
    show f_X0_shortsOf_L5 F b a q (n + 1) _ (nI nb) = _
    rw [f_X0_shortsOf_L5, hb, if_pos (nI_le (Nat.le_refl _) (by omega))]
theorem toldOf_q {F nb : Nat} {b : SB} (a : Int32) (hF : nb < F) (hn : nb ≤ 30) (hb : B_bags b = nI nb) : f_X0_toldOf F b a = some (zI (zs (isq b a 15) (fun k => (B_bagTold b k).toInt) nb)) := by
  unfold f_X0_toldOf
  refine run_fg (L := fun n (p : Int32 × Int32) => f_X0_toldOf_L4 F b a n p.1 p.2) (st := fun k => (zI (zs (isq b a 15) (fun k => (B_bagTold b k).toInt) k), nI k)) (N := nb) ?_ ?_ F hF
  · intro n k hk
    show f_X0_toldOf_L4 F b a (n + 1) _ (nI k) = f_X0_toldOf_L4 F b a n (zI (zs (isq b a 15) (fun k => (B_bagTold b k).toInt) k + if isq b a 15 k then (B_bagTold b k).toInt else 0)) (nI (k + 1))
    rw [f_X0_toldOf_L4, hb, if_neg (nI_ge hk (by omega)), isOf_eq (by omega), s1, obd_s, ochi_n (by omega) (by omega), cl (by omega), olt_s]
    by_cases h : isq b a 15 k
    · rw [if_pos (show B_bagStall b k = a ∧ _ from h), if_neg one0, if_pos h, ← zI_add, zI_self]
    · rw [if_neg (show ¬ (B_bagStall b k = a ∧ _) from h), if_pos rfl, if_neg h, a0, Int.add_zero]
  · intro n
    show f_X0_toldOf_L4 F b a (n + 1) _ (nI nb) = _
    rw [f_X0_toldOf_L4, hb, if_pos (nI_le (Nat.le_refl _) (by omega))]
def pos (z : Int) : Int := if 0 < z then z else 0
theorem pos_i (x : Int32) : (if (0 : Int32) < x then x else 0) = zI (pos x.toInt) := by
  have c : (0 : Int32) < x ↔ 0 < x.toInt := Int32.lt_iff_toInt_lt
  unfold pos
  by_cases h : 0 < x.toInt
  · rw [if_pos (c.mpr h), if_pos h, zI_self]
  · rw [if_neg (fun z => h (c.mp z)), if_neg h]; rfl
theorem above_q {F nb : Nat} {b : SB} (a : Int32) (hF : nb < F) (hn : nb ≤ 30) (hb : B_bags b = nI nb) : f_X0_shortsAboveNone F b a = some (zI (zs (isq b a 15) (fun k => pos (B_bagShort b k).toInt) nb)) := by
  unfold f_X0_shortsAboveNone
  refine run_fg (L := fun n (p : Int32 × Int32) => f_X0_shortsAboveNone_L4 F b a n p.1 p.2) (st := fun k => (zI (zs (isq b a 15) (fun k => pos (B_bagShort b k).toInt) k), nI k)) (N := nb) ?_ ?_ F hF
  · intro n k hk
    show f_X0_shortsAboveNone_L4 F b a (n + 1) _ (nI k) = f_X0_shortsAboveNone_L4 F b a n (zI (zs (isq b a 15) (fun k => pos (B_bagShort b k).toInt) k + if isq b a 15 k then pos (B_bagShort b k).toInt else 0)) (nI (k + 1))
    rw [f_X0_shortsAboveNone_L4, hb, if_neg (nI_ge hk (by omega)), isOf_eq (by omega), s1, obd_s, ochi_n (by omega) (by omega), cl (by omega), olt_s, pos_i]
    by_cases h : isq b a 15 k
    · rw [if_pos (show B_bagStall b k = a ∧ _ from h), if_neg one0, if_pos h, ← zI_add]
    · rw [if_neg (show ¬ (B_bagStall b k = a ∧ _) from h), if_pos rfl, if_neg h, a0, Int.add_zero]
  · intro n
    show f_X0_shortsAboveNone_L4 F b a (n + 1) _ (nI nb) = _
    rw [f_X0_shortsAboveNone_L4, hb, if_pos (nI_le (Nat.le_refl _) (by omega))]
theorem isq15 {m : SM} {ns : Nat} {b : SB} {s : Nat → Int32} {a : Int32} {k : Nat} (h : okBag m ns b s k) : isq b a 15 k ↔ B_bagStall b k = a := by
  obtain ⟨i, h, o, td, fd, mn, q1, q2, q3, q4, q5⟩ := h
  unfold isq
  rw [q4.1, bit15 q1.2.2.1]
  exact ⟨fun z => z.1, fun z => ⟨z, rfl⟩⟩
theorem isqq {m : SM} {ns q : Nat} {b : SB} {s : Nat → Int32} {a : Int32} {k : Nat} (hq : q ≤ 3) (h : okBag m ns b s k) : isq b a ((1 : Int32) <<< (nI q &&& 31)) k ↔ (B_bagStall b k = a ∧ B_bagSort b k = nI q) := by
  obtain ⟨i, h, o, td, fd, mn, q1, q2, q3, q4, q5⟩ := h
  unfold isq
  rw [q4.1, bitq q1.2.2.1 hq]
theorem zs_congr {p q : Nat → Prop} [DecidablePred p] [DecidablePred q] {f : Nat → Int} {n : Nat} (h : ∀ k, k < n → (p k ↔ q k)) : zs p f n = zs q f n := by
  induction n with
  | zero => rfl
  | succ n ih =>
    rw [zs_s, zs_s, ih (fun k hk => h k (by omega))]
    by_cases hp : p n
    · rw [if_pos hp, if_pos ((h n (by omega)).mp hp)]
    · rw [if_neg hp, if_neg (fun z => hp ((h n (by omega)).mpr z))]
theorem a0L (x : Int64) : x + (0 : Int64) = x := Int64.add_zero x
theorem is36 {a : Nat} {β : Type} {x : Option β} (h : a < 6) : ochi ((3 : Int32) * nI a + 2) 36 x = x ∧ Int32.toNatClampNeg ((3 : Int32) * nI a + 2) = 3 * a + 2 := by
  have e : (3 : Int32) * nI a + 2 = nI (3 * a + 2) := by rw [show (3 : Int32) = nI 3 from rfl, pk_mul, show (2 : Int32) = nI 2 from rfl, nI_add]
  rw [e]
  exact ⟨ochi_n (by omega) (by omega), cl (by omega)⟩
/-! year -/
theorem sim_year (F : Nat) (hF : 2000 ≤ F) : ∀ (t : ST) (u : SO) (a1 : Int32) (a2 : Int32) (a3 : Int32), Rel t u → ∃ (r : Int64) (u2 : SO), f_X5_year F t a1 a2 a3 = some r ∧ f_X6_year F u a1 a2 a3 = some (r, u2) ∧ Rel t u2 := by
  intro t u a1 a2 a3 hR
  have bad : ∀ r : Int64, ∃ (r_ : Int64) (u2 : SO), (some r : Option Int64) = some r_ ∧ (some (r, uO_thrown u 0) : Option (Int64 × SO)) = some (r_, u2) ∧ Rel t u2 := fun r => ⟨r, _, rfl, rfl, Rel_thr hR⟩
  have hR0 := hR
  obtain ⟨ns, nw, nx, ⟨hM1, hM2⟩, hX, hB, hK, hI, hV, hS, hT⟩ := hR
  have hK0 := hK
  obtain ⟨nb, nt, lk, hn, ⟨h1, h2, h3, h4, h5, h6, h7, h8, h9⟩, hb, ht⟩ := hK
  have hns := hM1.1.1
  have hnw := hM1.1.2.1
  unfold f_X5_year f_X6_year
  simp only [olt_s (uO_thrown u 0)]
  rcases isStall_both (F := F) (t := t) (u := uO_thrown u 0) a1 hM1 hM2 with ⟨i, gi1, rfl, gi3, gi4⟩ | ⟨gi3, gi4⟩
  rotate_left
  · rw [gi3, gi4]; exact bad _
  rw [gi3, gi4]; simp only [obd_s]; rw [if_neg one0, if_neg one0]
  rcases g_rg (F := F) a2 (lo := 0) (hi := 9999) 0 9999 rfl rfl (by omega) (by omega) with ⟨⟨sl, gsl1, gsl2, rfl⟩, gsl3, gsl4⟩ | ⟨_, gsl3, gsl4⟩
  rotate_left
  · rw [gsl3, gsl4]; exact bad _
  rw [gsl3, gsl4]; simp only [obd_s]; rw [if_neg one0, if_neg one0]
  rcases isPart_both (F := F) a3 with ⟨gp1, gp3, gp4⟩ | ⟨gp3, gp4⟩
  rotate_left
  · rw [gp3, gp4]; exact bad _
  rw [gp3, gp4]; simp only [obd_s]; rw [if_neg one0, if_neg one0]
  have eb := bagsOf_c (F := F) (nI i) (by omega) hn.1 h1 hb
  have eb2 := bagsOf_m (F := F) (u := uO_thrown u 0) (nI i) (by omega) hn.1 h2 hb
  have hcl := cnt_le (fun k => B_bagStall (T_book t) k = nI i) nb
  have ab := above_q (F := F) (nI i) (by omega) hn.1 h1
  have hbd := zs_b (p := isq (T_book t) (nI i) 15) (f := fun k => pos (B_bagShort (T_book t) k).toInt) (A := 0) (B := 1100) (n := nb) (by omega) (by omega) (fun k hk => by
    have := short_b hM1 (hb k hk)
    show -0 ≤ pos _ ∧ pos _ ≤ 1100
    unfold pos
    split <;> omega)
  obtain ⟨pr, pr1, pr2, pr3⟩ := (hM1.2.2.1 i gi1).2.2
  have L2 : f_X6_year_L51 F (nI i) (nI sl) a3 (uO_thrown u 0) F (0 : Int64) (0 : Int32) = obd (f_X6_part F ((zL (zs (isq (T_book t) (nI i) 15) (fun k => pos (B_bagShort (T_book t) k).toInt) nb) * Int32.toInt64 (nI pr)) * Int32.toInt64 (nI sl)) ((100 : Int64) * Int32.toInt64 (nI (cnt (fun k => B_bagStall (T_book t) k = nI i) nb))) a3) (fun v22 => some (v22, uO_thrown u 0)) := by
    refine run_fg (L := fun n (p : Int64 × Int32) => f_X6_year_L51 F (nI i) (nI sl) a3 (uO_thrown u 0) n p.1 p.2) (st := fun k => (zL (zs (isq (T_book t) (nI i) 15) (fun k => pos (B_bagShort (T_book t) k).toInt) k), nI k)) (N := nb) ?_ ?_ F (by omega)
    · intro n k hk
      show f_X6_year_L51 F (nI i) (nI sl) a3 (uO_thrown u 0) (n + 1) _ (nI k) = f_X6_year_L51 F (nI i) (nI sl) a3 (uO_thrown u 0) n (zL (zs (isq (T_book t) (nI i) 15) (fun k => pos (B_bagShort (T_book t) k).toInt) k + if isq (T_book t) (nI i) 15 k then pos (B_bagShort (T_book t) k).toInt else 0)) (nI (k + 1))
      have hsh := shortOf_m (F := F) (u := uO_thrown u 0) (show k < 30 by omega) hns hM2 (hb k hk)
      have hq := isq15 (a := nI i) (hb k hk)
      obtain ⟨i', h', o, td, fd, mn, q1, q2, q3, q4, q5⟩ := hb k hk
      rw [f_X6_year_L51, c264, k0i, show O_s (uO_thrown u 0) 0 = nI nb from h2, if_neg (nI_ge hk (by omega)), hsh, bag_0 (by omega), obd_s, obd_s, show O_s (uO_thrown u 0) (1 + 6 * k) = nI i' from q2.2, s1, x_l, a0L]
      have c : B_bagShort (T_book t) k ≤ 0 ↔ ¬ 0 < (B_bagShort (T_book t) k).toInt := by
        rw [Int32.le_iff_toInt_le]; show _ ≤ (0 : Int) ↔ _; omega
      by_cases h : isq (T_book t) (nI i) 15 k
      · rw [if_pos (q2.1.symm.trans (hq.mp h)), if_pos h]
        unfold pos
        by_cases h0 : 0 < (B_bagShort (T_book t) k).toInt
        · rw [if_neg (fun z => c.mp z h0), if_pos h0, zL_add]
        · rw [if_pos (c.mpr h0), if_neg h0, Int.add_zero]
      · rw [if_neg (fun z => h (hq.mpr (q2.1.trans z))), if_neg h, Int.add_zero]
    · intro n
      show f_X6_year_L51 F (nI i) (nI sl) a3 (uO_thrown u 0) (n + 1) _ (nI nb) = _
      rw [f_X6_year_L51, c264, k0i, show O_s (uO_thrown u 0) 0 = nI nb from h2, if_pos (nI_le (Nat.le_refl _) (by omega)), (is36 (by omega)).1, (is36 (β := Nat) (x := none) (show i < 6 by omega)).2, eb2, obd_s, show O_stall (uO_thrown u 0) (3 * i + 2) = nI pr from (hM2.2.2.1 i gi1).2.2.trans pr3]
  rw [eb, eb2, ab, L2]
  simp only [obd_s, olt_s]
  generalize hc : cnt (fun k => B_bagStall (T_book t) k = nI i) nb = c at *
  generalize hz : zs (isq (T_book t) (nI i) 15) (fun k => pos (B_bagShort (T_book t) k).toInt) nb = z at *
  have hz1 : 0 ≤ z ∧ z ≤ 33000 := by omega
  rcases Nat.eq_zero_or_pos c with rfl | hc0
  · rw [if_pos (show nI 0 = 0 from rfl), if_pos (show nI 0 = 0 from rfl)]
    exact bad _
  · rw [if_neg (nI_ne0 hc0 (by omega)), if_neg (nI_ne0 hc0 (by omega)), ochi_n (by omega) (by omega), cl (by omega), pr3, zI_l (by omega) (by omega), nI_l (by omega), nI_l (by omega), nI_l (by omega)]
    have e1 : (zL z * lN pr) * lN sl = zL (z * pr * sl) := by rw [lN_z, lN_z, zL_mul, zL_mul]
    have e2 : (100 : Int64) * lN c = lN (100 * c) := lN_mul 100 c
    have b1 : z * pr ≤ 33000 * 99 := Int.mul_le_mul hz1.2 (by omega) (by omega) (by omega)
    have b0 : 0 ≤ z * pr := Int.mul_nonneg hz1.1 (by omega)
    have b2 : z * pr * sl ≤ 33000 * 99 * 9999 := Int.mul_le_mul b1 (by omega) (by omega) (by omega)
    have b3 : 0 ≤ z * pr * sl := Int.mul_nonneg b0 (by omega)
    rw [e1, e2]
    obtain ⟨r, r1, r2⟩ := part_both (F := F) hF (a := zL (z * pr * sl)) (b := lN (100 * c)) a3 (by rw [zL_t (by omega) (by omega)]; omega) (by rw [pk_lT (by omega)]; omega)
    rw [r1, r2]
    exact ⟨_, _, rfl, rfl, Rel_thr hR0⟩
