/-! ===== truly, cheap, favoured ===== -/
def tlS (b : SB) (i nb : Nat) : Int := zs (isq b (nI i) 15) (fun k => (B_bagTold b k).toInt) nb
def shS (b : SB) (i nb : Nat) : Int := zs (isq b (nI i) 15) (fun k => (B_bagShort b k).toInt) nb
theorem tl_b {m : SM} {ns nb i : Nat} {b : SB} {s : Nat → Int32} (hn : nb ≤ 30) (hb : ∀ k, k < nb → okBag m ns b s k) : 0 ≤ tlS b i nb ∧ tlS b i nb ≤ 30000 := by
  have := zs_b (p := isq b (nI i) 15) (f := fun k => (B_bagTold b k).toInt) (A := 0) (B := 999) (n := nb) (by omega) (by omega) (fun k hk => by have := told_b (hb k hk); show -0 ≤ (B_bagTold b k).toInt ∧ _; omega)
  unfold tlS
  omega
theorem sh_b {m : SM} {ns nw nb i : Nat} {b : SB} {s : Nat → Int32} (q : Int32) (hn : nb ≤ 30) (hO : okM m ns nw) (hb : ∀ k, k < nb → okBag m ns b s k) : -33000 ≤ zs (isq b (nI i) q) (fun k => (B_bagShort b k).toInt) nb ∧ zs (isq b (nI i) q) (fun k => (B_bagShort b k).toInt) nb ≤ 33000 := by
  have := zs_b (p := isq b (nI i) q) (f := fun k => (B_bagShort b k).toInt) (A := 1100) (B := 1100) (n := nb) (by omega) (by omega) (fun k hk => short_b hO (hb k hk))
  omega
def prN (m : SM) (i : Nat) : Nat := (M_price m i).toNatClampNeg
theorem pr_e {m : SM} {ns nw i : Nat} (hO : okM m ns nw) (hi : i < ns) : M_price m i = nI (prN m i) ∧ prN m i ≤ 99 := by
  obtain ⟨k, k1, k2, k3⟩ := (hO.2.2.1 i hi).2.2
  unfold prN
  rw [k3, cl (by omega)]
  exact ⟨rfl, k2⟩
theorem paid_c {F ns nw nb i : Nat} {t : ST} {s : Nat → Int32} (hF : nb < F) (hn : nb ≤ 30) (hi : i < ns) (hO : okM (T_market t) ns nw) (hb : B_bags (T_book t) = nI nb) (hs : ∀ k, k < nb → okBag (T_market t) ns (T_book t) s k) : f_X5_paidFor F t (nI i) = some (zL (tlS (T_book t) i nb * prN (T_market t) i)) := by
  have h6 := hO.1.1
  have e := pr_e hO hi
  have b := tl_b (i := i) hn hs
  have q := toldOf_q (F := F) (nI i) hF hn hb
  unfold f_X5_paidFor
  rw [ochi_n (by omega) (by omega), q, obd_s, cl (by omega), e.1, nI_l (by omega), lN_z]
  have : zI (zs (isq (T_book t) (nI i) 15) (fun k => (B_bagTold (T_book t) k).toInt) nb) = zI (tlS (T_book t) i nb) := rfl
  rw [this, zI_l (by omega) (by omega), zL_mul, Int.mul_comm]
theorem given_c {F ns nw nb i : Nat} {t : ST} {s : Nat → Int32} (hF : nb < F) (hn : nb ≤ 30) (hO : okM (T_market t) ns nw) (hb : B_bags (T_book t) = nI nb) (hs : ∀ k, k < nb → okBag (T_market t) ns (T_book t) s k) : f_X5_trulyGiven F t (nI i) = some (zL (tlS (T_book t) i nb - shS (T_book t) i nb)) := by
  have b := tl_b (i := i) hn hs
  have b2 := sh_b (i := i) 15 hn hO hs
  have q := toldOf_q (F := F) (nI i) hF hn hb
  have q2 := shortsOf_q (F := F) (nI i) 15 hF hn hb
  unfold f_X5_trulyGiven
  rw [q, q2, obd_s, obd_s, zI_sub]
  have b3 : -33000 ≤ shS (T_book t) i nb ∧ shS (T_book t) i nb ≤ 33000 := b2
  exact congrArg some (zI_l (z := tlS (T_book t) i nb - shS (T_book t) i nb) (by omega) (by omega))
def ud (u : SO) (x y : Int64) : SO := uO_down (uO_up u x) y
theorem ud_s (u : SO) (x y : Int64) : O_s (ud u x y) = O_s u := rfl
theorem ud_up (u : SO) (x y : Int64) : O_up (ud u x y) = x := rfl
theorem ud_dn (u : SO) (x y : Int64) : O_down (ud u x y) = y := rfl
theorem ud_st (u : SO) (x y : Int64) : O_stall (ud u x y) = O_stall u := rfl
theorem ud_sts (u : SO) (x y : Int64) : O_stalls (ud u x y) = O_stalls u := rfl
theorem ud_u1 (u : SO) (x y z : Int64) : uO_up (ud u x y) z = ud u z y := by
  obtain ⟨b0, b1, b2, b3, b4, b5, b6, b7, b8, b9, b10, b11, b12, b13, b14, b15, b16, b17, b18, b19, b20, b21, b22, b23, b24, b25, b26, b27, b28⟩ := u
  rfl
theorem ud_u2 (u : SO) (x y z : Int64) : uO_down (ud u x y) z = ud u x z := by
  obtain ⟨b0, b1, b2, b3, b4, b5, b6, b7, b8, b9, b10, b11, b12, b13, b14, b15, b16, b17, b18, b19, b20, b21, b22, b23, b24, b25, b26, b27, b28⟩ := u
  rfl
theorem ud_ud (u : SO) (x y z w : Int64) : ud (ud u x y) z w = ud u z w := by
  obtain ⟨b0, b1, b2, b3, b4, b5, b6, b7, b8, b9, b10, b11, b12, b13, b14, b15, b16, b17, b18, b19, b20, b21, b22, b23, b24, b25, b26, b27, b28⟩ := u
  rfl
theorem ud_eta (u : SO) : ud u (O_up u) (O_down u) = u := rfl
theorem ud_reM {m : SM} {ns nw : Nat} {u : SO} (h : reM m u ns nw) (x y : Int64) : reM m (ud u x y) ns nw := h
theorem ud_Rel {t : ST} {u : SO} (h : Rel t u) (x y : Int64) : Rel t (ud u x y) := h
