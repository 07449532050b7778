/-! ===== the relation of the class's state and the reference's ===== -/
def okM (m : SM) (ns nw : Nat) : Prop := (ns ≤ 6 ∧ nw ≤ 6 ∧ M_stalls m = nI ns ∧ M_ways m = nI nw) ∧ (∃ a b c : Nat, a + b + c = 10 ∧ M_less m = nI a ∧ M_just m = nI b ∧ M_more m = nI c) ∧ (∀ i, i < ns → rg (M_step m i) 1 20 ∧ rg (M_dry m i) 0 9 ∧ rg (M_price m i) 0 99) ∧ (∀ w, w < nw → rg (M_shape m w) 0 3 ∧ rg (M_grains m w) 0 99 ∧ rg (M_oneIn m w) 1 5 ∧ rg (M_sorts m w) 0 15)
def reM (m : SM) (u : SO) (ns nw : Nat) : Prop := (O_stalls u = nI ns ∧ O_ways u = nI nw) ∧ (O_luck u 0 = M_less m ∧ O_luck u 1 = M_just m ∧ O_luck u 2 = M_more m) ∧ (∀ i, i < ns → O_stall u (3 * i) = M_step m i ∧ O_stall u (3 * i + 1) = M_dry m i ∧ O_stall u (3 * i + 2) = M_price m i) ∧ (∀ w, w < nw → O_way u (4 * w) = M_shape m w ∧ O_way u (4 * w + 1) = M_grains m w ∧ O_way u (4 * w + 2) = M_oneIn m w ∧ O_way u (4 * w + 3) = M_sorts m w)
def flo (a b : Int32) : Int32 := if 0 ≤ a - a / b * b then a / b else a / b - 1
def bagSh (m : SM) (i : Nat) (told found mins : Int32) : Int32 := told - found - M_dry m i * mins / 10
def bagSt (m : SM) (i : Nat) (sh : Int32) : Int32 := flo (2 * sh + M_step m i) (2 * M_step m i)
def okBag (m : SM) (ns : Nat) (b : SB) (s : Nat → Int32) (k : Nat) : Prop := ∃ i h o td fd mn : Nat, (i < ns ∧ h ≤ 11 ∧ o ≤ 3 ∧ 1 ≤ td ∧ td ≤ 999 ∧ fd ≤ 999 ∧ mn ≤ 99) ∧ (B_bagStall b k = nI i ∧ s (1 + 6 * k) = nI i) ∧ (B_bagHour b k = nI h ∧ s (2 + 6 * k) = nI h) ∧ (B_bagSort b k = nI o ∧ s (3 + 6 * k) = nI o) ∧ (B_bagTold b k = nI td ∧ s (4 + 6 * k) = nI td) ∧ s (5 + 6 * k) = nI fd ∧ s (6 + 6 * k) = nI mn ∧ B_bagShort b k = bagSh m i (nI td) (nI fd) (nI mn) ∧ B_bagSteps b k = bagSt m i (B_bagShort b k)
def okTri (ns : Nat) (b : SB) (s : Nat → Int32) (k : Nat) : Prop := ∃ i d le rd : Nat, (i < ns ∧ d ≤ 365 ∧ 1 ≤ le ∧ le ≤ 999 ∧ rd ≤ 999) ∧ (B_trialStall b k = nI i ∧ s (182 + 4 * k) = nI i) ∧ (B_trialDay b k = nI d ∧ s (183 + 4 * k) = nI d) ∧ s (184 + 4 * k) = nI le ∧ s (185 + 4 * k) = nI rd ∧ B_trialOff b k = nI rd - nI le
def reB (m : SM) (ns : Nat) (b : SB) (s : Nat → Int32) (l0 l1 : Int64) : Prop := ∃ nb nt lk : Nat, (nb ≤ 30 ∧ nt ≤ 20 ∧ lk ≤ 999) ∧ (B_bags b = nI nb ∧ s 0 = nI nb ∧ B_trials b = nI nt ∧ s 181 = nI nt ∧ B_looks b = nI lk ∧ s 262 = nI lk ∧ B_lookRows b = l0 ∧ B_lookAll b = l1 ∧ B_lot b = s 263) ∧ (∀ k, k < nb → okBag m ns b s k) ∧ (∀ k, k < nt → okTri ns b s k)
def reI (m : SM) (ns : Nat) (kept isKept : Int32) (b : SB) (s : Nat → Int32) (l0 l1 : Int64) : Prop := kept = isKept ∧ (kept = 0 ∨ (kept = 1 ∧ reB m ns b s l0 l1))
/-- what is DONE and its COST behind n = N - d BAGS, k of them short -/
def pw (a : Int64) : Nat → Int64
  | 0 => 1
  | k + 1 => pw a k * a
def vStep (bars : Nat → Int32) (N n k : Nat) (nx : Nat → Int64) : Int32 × Int64 :=
  let unit := pw 10 (N - n)
  let honest := Int32.toInt64 (bars 2) * pw (Int32.toInt64 (bars 0)) k * pw (Int32.toInt64 (10 - bars 0)) (n - k)
  let other := Int32.toInt64 (bars 3) * pw (Int32.toInt64 (bars 1)) k * pw (Int32.toInt64 (10 - bars 1)) (n - k)
  let z1 := Int32.toInt64 (bars 4) * honest * unit
  let z2 := Int32.toInt64 (bars 5) * other * unit
  let c1 : Int32 × Int64 := if 0 ≤ lg_cmp z2 z1 then (0, z1) else (1, z2)
  if N ≤ n then c1 else
    let z3 := Int32.toInt64 (bars 6) * (honest + other) * unit + nx (k + 1) + nx k
    if 0 ≤ lg_cmp z3 c1.2 then c1 else (2, z3)
def vTab (bars : Nat → Int32) (N : Nat) : Nat → Nat → Int32 × Int64
  | 0, k => vStep bars N N k (fun _ => 0)
  | d + 1, k => vStep bars N (N - (d + 1)) k (fun j => (vTab bars N d j).2)
def okV (v : SV) (u : SO) : Prop := (∀ k, k < 8 → V_bars v k = O_bars u k) ∧ (rg (V_bars v 0) 0 10 ∧ rg (V_bars v 1) 0 10 ∧ rg (V_bars v 2) 1 9 ∧ rg (V_bars v 3) 1 9 ∧ rg (V_bars v 4) 0 999 ∧ rg (V_bars v 5) 0 999 ∧ rg (V_bars v 6) 0 99 ∧ rg (V_bars v 7) 1 8) ∧ (∀ n k, k ≤ n → nI n ≤ V_bars v 7 → n ≤ 8 → V_choice v (9 * n + k) = (vTab (V_bars v) (Int32.toNatClampNeg (V_bars v 7)) (Int32.toNatClampNeg (V_bars v 7) - n) k).1 ∧ V_leastCost v (9 * n + k) = (vTab (V_bars v) (Int32.toNatClampNeg (V_bars v 7)) (Int32.toNatClampNeg (V_bars v 7) - n) k).2)
/-- binomial numbers, as longs -/
def bino : Nat → Nat → Int64
  | _, 0 => 1
  | 0, _ + 1 => 0
  | n + 1, k + 1 => bino n k + bino n (k + 1)
def Rel (t : ST) (u : SO) : Prop := ∃ ns nw nx : Nat, (okM (T_market t) ns nw ∧ reM (T_market t) u ns nw) ∧ (nx ≤ 400 ∧ T_textLength t = nI nx ∧ O_typed u = nI nx ∧ R_text (T_reader t) = O_text u ∧ ∀ k, rg (O_text u k) 0 255) ∧ (∀ w, w < nw → T_beliefs t w = O_beliefs u w ∧ rg (T_beliefs t w) 0 9) ∧ reB (T_market t) ns (T_book t) (O_s u) (O_latest u 0) (O_latest u 1) ∧ (reI (T_market t) ns (T_kept t 0) (O_isKept u 0) (T_img0 t) (O_kept u) (O_latest u 2) (O_latest u 3) ∧ reI (T_market t) ns (T_kept t 1) (O_isKept u 1) (T_img1 t) (fun k => O_kept u (264 + k)) (O_latest u 4) (O_latest u 5)) ∧ okV (T_verdict t) u ∧ (T_stepsSold t = O_soldSteps u ∧ T_traced t = O_trace u) ∧ (∀ n k, n < 20 → k ≤ n → O_triangle u (20 * n + k) = bino n k)
theorem Rel_thr {t : ST} {u : SO} (h : Rel t u) : Rel t (uO_thrown u 0) := h
/-! the two sides' guards, together -/
theorem g_rg {F : Nat} (v : Int32) {lo hi : Nat} (a b : Int32) (ha : a = nI lo) (hb : b = nI hi) (hl : lo < 2 ^ 31) (hh : hi < 2 ^ 31) : (rg v lo hi ∧ f_X5_within F v a b = some 1 ∧ f_X6_in F v a b = some 1) ∨ (¬ rg v lo hi ∧ f_X5_within F v a b = some 0 ∧ f_X6_in F v a b = some 0) := by
  subst ha; subst hb
  by_cases h : rg v lo hi
  · exact Or.inl ⟨h, by rw [within_eq, if_pos ((rg_iff hl hh).mpr h)], by rw [in_eq, if_pos ((rg_iff hl hh).mpr h)]⟩
  · exact Or.inr ⟨h, by rw [within_eq, if_neg (fun q => h ((rg_iff hl hh).mp q))], by rw [in_eq, if_neg (fun q => h ((rg_iff hl hh).mp q))]⟩
theorem in0_lt {F : Nat} (v : Int32) (n : Nat) (hn : n ≤ 400) : (∃ i, i < n ∧ v = nI i ∧ f_X6_in F v 0 (nI n - 1) = some 1 ∧ (¬ v < 0) ∧ ¬ nI n ≤ v) ∨ (f_X6_in F v 0 (nI n - 1) = some 0 ∧ (v < 0 ∨ nI n ≤ v)) := by
  have e : (nI n - 1).toInt = (n : Int) - 1 := pk_sub_toInt (a := n) (b := 1) (by omega) (by omega)
  have hv : v < 0 ↔ v.toInt < 0 := Int32.lt_iff_toInt_lt
  have hv2 : nI n ≤ v ↔ (n : Int) ≤ v.toInt := by rw [Int32.le_iff_toInt_le, nI_toInt (by omega)]
  have c : ((0 : Int32) ≤ v ∧ v ≤ nI n - 1) ↔ (0 ≤ v.toInt ∧ v.toInt ≤ (n : Int) - 1) := by
    rw [Int32.le_iff_toInt_le, Int32.le_iff_toInt_le, e]; rfl
  by_cases h : 0 ≤ v.toInt ∧ v.toInt ≤ (n : Int) - 1
  · obtain ⟨k, h1, h2, h3⟩ := rg_of (x := v) (lo := 0) (hi := n - 1) (by omega) (by omega)
    exact Or.inl ⟨k, by omega, h3, by rw [in_eq, if_pos (c.mpr h)], by rw [hv]; omega, by rw [hv2]; omega⟩
  · refine Or.inr ⟨by rw [in_eq, if_neg (fun q => h (c.mp q))], ?_⟩
    rw [hv, hv2]
    omega
theorem isStall_both {F ns nw : Nat} {t : ST} {u : SO} (a : Int32) (h1 : okM (T_market t) ns nw) (h2 : reM (T_market t) u ns nw) : (∃ i, i < ns ∧ a = nI i ∧ f_X5_isStall F t a = some 1 ∧ f_X6_isStall F u a = some 1) ∨ (f_X5_isStall F t a = some 0 ∧ f_X6_isStall F u a = some 0) := by
  have hn := h1.1.1
  unfold f_X5_isStall f_X6_isStall
  rw [h1.1.2.2.1, h2.1.1]
  rcases in0_lt (F := F) a ns (by omega) with ⟨i, g1, g2, g3, g4, g5⟩ | ⟨g3, g4⟩
  · refine Or.inl ⟨i, g1, g2, by rw [if_neg g4, if_neg g5], ?_⟩
    rw [g3]; rfl
  · refine Or.inr ⟨?_, ?_⟩
    · by_cases h : a < 0
      · rw [if_pos h]
      · rw [if_neg h, if_pos (g4.resolve_left h)]
    · rw [g3]; rfl
theorem isWay_both {F ns nw : Nat} {t : ST} {u : SO} (a : Int32) (h1 : okM (T_market t) ns nw) (h2 : reM (T_market t) u ns nw) : (∃ i, i < nw ∧ a = nI i ∧ f_X5_isWay F t a = some 1 ∧ f_X6_isWay F u a = some 1) ∨ (f_X5_isWay F t a = some 0 ∧ f_X6_isWay F u a = some 0) := by
  have hn := h1.1.2.1
  unfold f_X5_isWay f_X6_isWay
  rw [h1.1.2.2.2, h2.1.2]
  rcases in0_lt (F := F) a nw (by omega) with ⟨i, g1, g2, g3, g4, g5⟩ | ⟨g3, g4⟩
  · refine Or.inl ⟨i, g1, g2, by rw [if_neg g4, if_neg g5], ?_⟩
    rw [g3]; rfl
  · refine Or.inr ⟨?_, ?_⟩
    · by_cases h : a < 0
      · rw [if_pos h]
      · rw [if_neg h, if_pos (g4.resolve_left h)]
    · rw [g3]; rfl
theorem isBag_both {F nb : Nat} {t : ST} {u : SO} (a : Int32) (hn : nb ≤ 30) (h1 : B_bags (T_book t) = nI nb) (h2 : O_s u 0 = nI nb) : (∃ i, i < nb ∧ a = nI i ∧ f_X5_isBag F t a = some 1 ∧ f_X6_isBag F u a = some 1) ∨ (f_X5_isBag F t a = some 0 ∧ f_X6_isBag F u a = some 0) := by
  unfold f_X5_isBag f_X6_isBag
  have e0 : O_s u (Int32.toNatClampNeg (0 : Int32)) = nI nb := h2
  rw [h1, e0, ochi_of (vp_in_iff.mpr (by decide))]
  rcases in0_lt (F := F) a nb (by omega) with ⟨i, g1, g2, g3, g4, g5⟩ | ⟨g3, g4⟩
  · refine Or.inl ⟨i, g1, g2, by rw [if_neg g4, if_neg g5], ?_⟩
    rw [g3]; rfl
  · refine Or.inr ⟨?_, ?_⟩
    · by_cases h : a < 0
      · rw [if_pos h]
      · rw [if_neg h, if_pos (g4.resolve_left h)]
    · rw [g3]; rfl
theorem isSort_both {F : Nat} (a : Int32) : (∃ o, o ≤ 3 ∧ a = nI o ∧ f_X5_isSort F a = some 1 ∧ f_X6_isSort F a = some 1) ∨ (f_X5_isSort F a = some 0 ∧ f_X6_isSort F a = some 0) := by
  unfold f_X5_isSort f_X6_isSort
  rcases in0_lt (F := F) a 4 (by omega) with ⟨i, g1, g2, g3, g4, g5⟩ | ⟨g3, g4⟩
  · refine Or.inl ⟨i, by omega, g2, by rw [if_neg g4, if_neg (show ¬ (4 : Int32) ≤ a from g5)], ?_⟩
    rw [show (3 : Int32) = nI 4 - 1 from by decide, g3]; rfl
  · refine Or.inr ⟨?_, ?_⟩
    · by_cases h : a < 0
      · rw [if_pos h]
      · rw [if_neg h, if_pos (show (4 : Int32) ≤ a from g4.resolve_left h)]
    · rw [show (3 : Int32) = nI 4 - 1 from by decide, g3]; rfl
