def rmJ0_coder_7d493 : Room := { frames := 0, cells := 0, slots := 0, locals := 0 }
def kJ0_coder_7d493 : MK := (cJ0_coder_7d493, 1, RJ0, wsJ0_coder_7d493, some .byte, rmJ0_coder_7d493)
def rmJ0_length_8abf5 : Room := { frames := 1, cells := 0, slots := 0, locals := 20 }
def kJ0_length_8abf5 : MK := (cJ0_length_8abf5, 1, RJ0, wsJ0_length_8abf5, some .int, rmJ0_length_8abf5)
def rmJ0_isLatin1_aae02 : Room := { frames := 0, cells := 0, slots := 0, locals := 0 }
def kJ0_isLatin1_aae02 : MK := (cJ0_isLatin1_aae02, 1, RJ0, wsJ0_isLatin1_aae02, some .boolean, rmJ0_isLatin1_aae02)
def rmJ3_checkIndex_8e157 : Room := { frames := 0, cells := 0, slots := 0, locals := 0 }
def kJ3_checkIndex_8e157 : MK := (cJ3_checkIndex_8e157, 3, RJ3, wsJ3_checkIndex_8e157, some .int, rmJ3_checkIndex_8e157)
def rmJ0_checkIndex_df160 : Room := { frames := 1, cells := 0, slots := 0, locals := 22 }
def kJ0_checkIndex_df160 : MK := (cJ0_checkIndex_df160, 2, RJ0, wsJ0_checkIndex_df160, none, rmJ0_checkIndex_df160)
def rmJ1_charAt_3b067 : Room := { frames := 2, cells := 0, slots := 0, locals := 43 }
def kJ1_charAt_3b067 : MK := (cJ1_charAt_3b067, 2, RJ1, wsJ1_charAt_3b067, some .char, rmJ1_charAt_3b067)
def rmJ0_charAt_5068e : Room := { frames := 3, cells := 0, slots := 0, locals := 64 }
def kJ0_charAt_5068e : MK := (cJ0_charAt_5068e, 2, RJ0, wsJ0_charAt_5068e, some .char, rmJ0_charAt_5068e)
def jlen (w : Nat) : Int32 := Int32.ofNat (sLen.getD w 0) >>> ((0 : Int32) &&& 31)
def jchr (w : Nat) (j : Nat) : Int32 := (((sByt.getD w []).getD j 0 &&& (255 : Int32)).toUInt32 % 65536).toInt32
theorem sLen_le {w : Nat} : sLen.getD w 0 ≤ 8 := by
  by_cases h : w < 13
  · revert w; decide
  · simp [sLen, List.getD, show ¬ w < 13 from h]
theorem vin_cmp {i : Int32} {n : Nat} (h : vp_in i n) (hn : n < 2 ^ 31) : ¬ i < 0 ∧ i < Int32.ofNat n := by
  obtain ⟨j, hj, rfl⟩ := vp_in_of h hn
  exact ⟨nI_pos (by omega), nI_lt hj hn⟩
section GQ
variable {E : GE} {K : MK} {kc ks pc : Nat} {lv : List (Nat × Value)} {st : List Value} {w : va_W} {P : XP}
theorem g_getsq {C n d : String} {index : Nat} (hN : eX E = XS P) (hz : ∀ (A : Nat → Prop) (U : State) (H : Heap), XS P A U H → va_Zq C n d A U H) (hd : decode K.1 pc = .ok (.getstatic index, 3)) (hm : Cond.fieldLink K.2.2.1 index C n d ∈ K.2.2.2.1) (k0 : G E K kc ks (pc + 3) lv (.null :: st) w) (k1 : ∀ t : Nat, G E K kc ks (pc + 3) lv (.ref t :: st) w) : G E K kc ks pc lv st w := by
  obtain ⟨p, l, e, s, m, args, below, meth, c, Q, A, D, tys, X⟩ := E
  obtain ⟨cc, nL, own, Ts, ret, R⟩ := K
  intro HC H locs ls hP hD hS hl
  have C' := HC
  obtain ⟨hx, hb, hr, hml, hown, hts, hlocks, hK, hA, hXo, hX⟩ := C'
  have hN : X = XS P := hN
  subst hN
  rcases hz _ _ _ hX with h | ⟨t, h⟩
  · exact va_gets hx hb h hS hown (hts _ hm) (fun _ h9 => h9) hd (k0 HC H locs ls hP hD hS hl)
  · exact va_gets hx hb h hS hown (hts _ hm) (fun _ h9 => h9) hd (k1 t HC H locs ls hP hD hS hl)
end GQ
theorem c_J0_coder_7d493 {l : Launch} {D : va_G} {tys : List (ClassId × FieldType)} {X : XT} {P : XP} {w : Nat} (hNX : X = XS P) (hw : w < 13) : Ci l D tys X yJ0_coder_7d493 wsJ0_coder_7d493 rmJ0_coder_7d493 [.ref (P.2.1 w)] [] 0 [] := by
  refine Ci_ofG (by decide +kernel) rfl (Nat.le_of_ble_eq_true rfl) .byte rfl (by decide) (fun E _ _ hty0 hX0 hr => ?_)
  have hN := hX0.trans hNX
  have hr : Ri E kJ0_coder_7d493 0 [] := hr
  show G E kJ0_coder_7d493 0 0 0 [(0, .ref (P.2.1 w))] [] []
  refine g_gets (v := .int 1) hN (fun _ _ _ h => h.2.2.2.2.1) dJ0_coder_7d493_0 (by decide +kernel) ?_
  refine g_if_eq (tgt := 13) dJ0_coder_7d493_3 (by decide) (fun h => absurd h (by decide)) (fun _ => ?_)
  refine g_aload_n 0 dJ0_coder_7d493_6 rfl rfl ?_
  refine g_getq (n := "coder") (d := "B") (v := .int 0) hN (fun _ _ _ h => (h.2.2.2.2.2.2.2.1 w hw).2.1) dJ0_coder_7d493_7 (by decide +kernel) ?_
  refine g_goto (tgt := 14) dJ0_coder_7d493_10 (by decide) ?_
  exact hr _ _ dJ0_coder_7d493_14
theorem vJ0_length_335 : KV kJ0_length_8abf5 335 RJ0 yJ0_coder_7d493 wsJ0_coder_7d493 rmJ0_coder_7d493 0 := ⟨_, _, _, _, gJ0_length_8abf5_J0_coder_7d493, rfl, rfl, rfl, by decide +kernel, ⟨by decide, by decide⟩⟩
theorem c_J0_length_8abf5 {l : Launch} {D : va_G} {tys : List (ClassId × FieldType)} {X : XT} {P : XP} {w : Nat} (hNX : X = XS P) (hw : w < 13) : Ci l D tys X yJ0_length_8abf5 wsJ0_length_8abf5 rmJ0_length_8abf5 [.ref (P.2.1 w)] [] (jlen w) [] := by
  refine Ci_ofG (by decide +kernel) rfl (Nat.le_of_ble_eq_true rfl) .int rfl (vp_nar_int _) (fun E _ _ hty0 hX0 hr => ?_)
  have hN := hX0.trans hNX
  have hr : Ri E kJ0_length_8abf5 (jlen w) [] := hr
  show G E kJ0_length_8abf5 0 0 0 [(0, .ref (P.2.1 w))] [] []
  refine g_aload_n 0 dJ0_length_8abf5_0 rfl rfl ?_
  refine g_getq (n := "value") (d := "[B") (v := .ref (P.2.2 w)) hN (fun _ _ _ h => (h.2.2.2.2.2.2.2.1 w hw).2.2.1) dJ0_length_8abf5_1 (by decide +kernel) ?_
  refine g_tlen hN (fun _ _ _ h => (h.2.2.2.2.2.2.2.1 w hw).2.2.2) dJ0_length_8abf5_4 ?_
  refine g_aload_n 0 dJ0_length_8abf5_5 rfl rfl ?_
  refine g_callQi (As := []) (rest := [.int (Int32.ofNat (sLen.getD w 0))]) hN hw dJ0_length_8abf5_6 vJ0_length_335 (c_J0_coder_7d493 hN hw) rfl rfl (Nat.le_of_ble_eq_true rfl) ⟨Nat.zero_le _, Nat.zero_le _⟩ ?_
  refine g_ishr dJ0_length_8abf5_9 ?_
  exact hr _ _ dJ0_length_8abf5_10
theorem c_J0_isLatin1_aae02 {l : Launch} {D : va_G} {tys : List (ClassId × FieldType)} {X : XT} {P : XP} {w : Nat} (hNX : X = XS P) (hw : w < 13) : Ci l D tys X yJ0_isLatin1_aae02 wsJ0_isLatin1_aae02 rmJ0_isLatin1_aae02 [.ref (P.2.1 w)] [] 1 [] := by
  refine Cz_ofG (by decide +kernel) rfl (Nat.le_of_ble_eq_true rfl) (fun E _ _ hty0 hX0 hr => ?_)
  have hN := hX0.trans hNX
  have hr : Rz E kJ0_isLatin1_aae02 1 [] := hr
  show G E kJ0_isLatin1_aae02 0 0 0 [(0, .ref (P.2.1 w))] [] []
  refine g_gets (v := .int 1) hN (fun _ _ _ h => h.2.2.2.2.1) dJ0_isLatin1_aae02_0 (by decide +kernel) ?_
  refine g_if_eq (tgt := 17) dJ0_isLatin1_aae02_3 (by decide) (fun h => absurd h (by decide)) (fun _ => ?_)
  refine g_aload_n 0 dJ0_isLatin1_aae02_6 rfl rfl ?_
  refine g_getq (n := "coder") (d := "B") (v := .int 0) hN (fun _ _ _ h => (h.2.2.2.2.2.2.2.1 w hw).2.1) dJ0_isLatin1_aae02_7 (by decide +kernel) ?_
  refine g_if_ne (tgt := 17) dJ0_isLatin1_aae02_10 (by decide) (fun h => absurd rfl h) (fun _ => ?_)
  refine g_iconst (v := 1) dJ0_isLatin1_aae02_13 (by decide) ?_
  refine g_goto (tgt := 18) dJ0_isLatin1_aae02_14 (by decide) ?_
  exact hr _ _ dJ0_isLatin1_aae02_18 (Or.inr rfl)

theorem c_J3_checkIndexN {l : Launch} {D : va_G} {tys : List (ClassId × FieldType)} {X : XT} {i n : Int32} (h0 : ¬ i < 0) (h1 : i < n) : Ci l D tys X yJ3_checkIndex_8e157 wsJ3_checkIndex_8e157 rmJ3_checkIndex_8e157 [.int i, .int n, .null] [] i [] := by
  refine Ci_ofG (by decide +kernel) rfl (Nat.le_of_ble_eq_true rfl) .int rfl (vp_nar_int _) (fun E _ _ hty0 hX0 hr => ?_)
  have hr : Ri E kJ3_checkIndex_8e157 i [] := hr
  show G E kJ3_checkIndex_8e157 0 0 0 [(0, .int i), (1, .int n), (2, .null)] [] []
  refine g_iload_n 0 dJ3_checkIndex_8e157_0 rfl rfl ?_
  refine g_if_lt (tgt := 9) dJ3_checkIndex_8e157_1 (by decide) (fun h => absurd h h0) (fun _ => ?_)
  refine g_iload_n 0 dJ3_checkIndex_8e157_4 rfl rfl ?_
  refine g_iload_n 1 dJ3_checkIndex_8e157_5 rfl rfl ?_
  refine g_icmp_lt (tgt := 16) dJ3_checkIndex_8e157_6 (by decide) (fun _ => ?_) (fun h => absurd h1 h)
  refine g_iload_n 0 dJ3_checkIndex_8e157_16 rfl rfl ?_
  exact hr _ _ dJ3_checkIndex_8e157_17
theorem c_J3_checkIndexR {l : Launch} {D : va_G} {tys : List (ClassId × FieldType)} {X : XT} {t : Nat} {i n : Int32} (h0 : ¬ i < 0) (h1 : i < n) : Ci l D tys X yJ3_checkIndex_8e157 wsJ3_checkIndex_8e157 rmJ3_checkIndex_8e157 [.int i, .int n, .ref t] [] i [] := by
  refine Ci_ofG (by decide +kernel) rfl (Nat.le_of_ble_eq_true rfl) .int rfl (vp_nar_int _) (fun E _ _ hty0 hX0 hr => ?_)
  have hr : Ri E kJ3_checkIndex_8e157 i [] := hr
  show G E kJ3_checkIndex_8e157 0 0 0 [(0, .int i), (1, .int n), (2, .ref t)] [] []
  refine g_iload_n 0 dJ3_checkIndex_8e157_0 rfl rfl ?_
  refine g_if_lt (tgt := 9) dJ3_checkIndex_8e157_1 (by decide) (fun h => absurd h h0) (fun _ => ?_)
  refine g_iload_n 0 dJ3_checkIndex_8e157_4 rfl rfl ?_
  refine g_iload_n 1 dJ3_checkIndex_8e157_5 rfl rfl ?_
  refine g_icmp_lt (tgt := 16) dJ3_checkIndex_8e157_6 (by decide) (fun _ => ?_) (fun h => absurd h1 h)
  refine g_iload_n 0 dJ3_checkIndex_8e157_16 rfl rfl ?_
  exact hr _ _ dJ3_checkIndex_8e157_17
theorem vJ0_checkIndex_1059 : KS kJ0_checkIndex_df160 1059 yJ3_checkIndex_8e157 wsJ3_checkIndex_8e157 rmJ3_checkIndex_8e157 3 := ⟨_, _, _, _, gJ0_checkIndex_df160_J3_checkIndex_8e157, rfl, rfl, rfl, by decide +kernel, ⟨by decide, by decide⟩⟩
theorem c_J0_checkIndex_df160 {l : Launch} {D : va_G} {tys : List (ClassId × FieldType)} {X : XT} {P : XP} {i n : Int32} (hNX : X = XS P) (h0 : ¬ i < 0) (h1 : i < n) : Cv l D tys X yJ0_checkIndex_df160 wsJ0_checkIndex_df160 rmJ0_checkIndex_df160 [.int i, .int n] [] [] := by
  refine Cv_ofG (by decide +kernel) rfl (Nat.le_of_ble_eq_true rfl) (fun E _ _ hty0 hX0 hr => ?_)
  have hN := hX0.trans hNX
  have hr : Rv E kJ0_checkIndex_df160 [] := hr
  show G E kJ0_checkIndex_df160 0 0 0 [(0, .int i), (1, .int n)] [] []
  refine g_iload_n 0 dJ0_checkIndex_df160_0 rfl rfl ?_
  refine g_iload_n 1 dJ0_checkIndex_df160_1 rfl rfl ?_
  refine g_getsq hN (fun _ _ _ h => h.2.2.2.2.2.1) dJ0_checkIndex_df160_2 (by decide +kernel) ?_ (fun t => ?_)
  · refine g_callSi (As := [.int i, .int n, .null]) (rest := []) (w2 := []) 0 dJ0_checkIndex_df160_5 vJ0_checkIndex_1059 (c_J3_checkIndexN h0 h1) rfl rfl rfl (Nat.le_of_ble_eq_true rfl) ⟨Nat.zero_le _, Nat.zero_le _⟩ rfl ?_
    refine g_pop dJ0_checkIndex_df160_8 rfl ?_
    exact hr _ _ dJ0_checkIndex_df160_9
  · refine g_callSi (As := [.int i, .int n, .ref t]) (rest := []) (w2 := []) 0 dJ0_checkIndex_df160_5 vJ0_checkIndex_1059 (c_J3_checkIndexR h0 h1) rfl rfl rfl (Nat.le_of_ble_eq_true rfl) ⟨Nat.zero_le _, Nat.zero_le _⟩ rfl ?_
    refine g_pop dJ0_checkIndex_df160_8 rfl ?_
    exact hr _ _ dJ0_checkIndex_df160_9
theorem vJ1_charAt_9 : KS kJ1_charAt_3b067 9 yJ0_checkIndex_df160 wsJ0_checkIndex_df160 rmJ0_checkIndex_df160 2 := ⟨_, _, _, _, gJ1_charAt_3b067_J0_checkIndex_df160, rfl, rfl, rfl, by decide +kernel, ⟨by decide, by decide⟩⟩
theorem nar_char_mod (z : Int32) : narrow .char (.int (z.toUInt32 % 65536).toInt32) = .int (z.toUInt32 % 65536).toInt32 := pk_nc z
theorem c_J1_charAt_3b067 {l : Launch} {D : va_G} {tys : List (ClassId × FieldType)} {X : XT} {P : XP} {w : Nat} {i : Int32} (hNX : X = XS P) (hw : w < 13) (hin : vp_in i (sLen.getD w 0)) : Ci l D tys X yJ1_charAt_3b067 wsJ1_charAt_3b067 rmJ1_charAt_3b067 [.ref (P.2.2 w), .int i] [] (jchr w i.toNatClampNeg) [] := by
  refine Ci_ofG (by decide +kernel) rfl (Nat.le_of_ble_eq_true rfl) .char rfl (nar_char_mod _) (fun E _ _ hty0 hX0 hr => ?_)
  have hN := hX0.trans hNX
  have hc := vin_cmp hin (Nat.lt_of_le_of_lt sLen_le (by decide))
  have hr : Ri E kJ1_charAt_3b067 (jchr w i.toNatClampNeg) [] := hr
  show G E kJ1_charAt_3b067 0 0 0 [(0, .ref (P.2.2 w)), (1, .int i)] [] []
  refine g_iload_n 1 dJ1_charAt_3b067_0 rfl rfl ?_
  refine g_aload_n 0 dJ1_charAt_3b067_1 rfl rfl ?_
  refine g_tlen hN (fun _ _ _ h => (h.2.2.2.2.2.2.2.1 w hw).2.2.2) dJ1_charAt_3b067_2 ?_
  refine g_callSv (As := [.int i, .int (Int32.ofNat (sLen.getD w 0))]) (rest := []) (w2 := []) 0 dJ1_charAt_3b067_3 vJ1_charAt_9 (c_J0_checkIndex_df160 hN hc.1 hc.2) rfl rfl rfl (Nat.le_of_ble_eq_true rfl) ⟨Nat.zero_le _, Nat.zero_le _⟩ rfl ?_
  refine g_aload_n 0 dJ1_charAt_3b067_6 rfl rfl ?_
  refine g_iload_n 1 dJ1_charAt_3b067_7 rfl rfl ?_
  refine g_tb (f := fun j => (sByt.getD w []).getD j 0) hN (fun _ _ _ h => (h.2.2.2.2.2.2.2.1 w hw).2.2.2) dJ1_charAt_3b067_8 hin ?_
  refine g_sipush (v := 255) dJ1_charAt_3b067_9 (by decide) ?_
  refine g_iand dJ1_charAt_3b067_12 ?_
  refine g_i2c dJ1_charAt_3b067_13 ?_
  exact hr _ _ dJ1_charAt_3b067_14
theorem vJ0_charAt_492 : KV kJ0_charAt_5068e 492 RJ0 yJ0_isLatin1_aae02 wsJ0_isLatin1_aae02 rmJ0_isLatin1_aae02 0 := ⟨_, _, _, _, gJ0_charAt_5068e_J0_isLatin1_aae02, rfl, rfl, rfl, by decide +kernel, ⟨by decide, by decide⟩⟩
theorem vJ0_charAt_495 : KS kJ0_charAt_5068e 495 yJ1_charAt_3b067 wsJ1_charAt_3b067 rmJ1_charAt_3b067 2 := ⟨_, _, _, _, gJ0_charAt_5068e_J1_charAt_3b067, rfl, rfl, rfl, by decide +kernel, ⟨by decide, by decide⟩⟩
theorem c_J0_charAt_5068e {l : Launch} {D : va_G} {tys : List (ClassId × FieldType)} {X : XT} {P : XP} {w : Nat} {i : Int32} (hNX : X = XS P) (hw : w < 13) (hin : vp_in i (sLen.getD w 0)) : Ci l D tys X yJ0_charAt_5068e wsJ0_charAt_5068e rmJ0_charAt_5068e [.ref (P.2.1 w), .int i] [] (jchr w i.toNatClampNeg) [] := by
  refine Ci_ofG (by decide +kernel) rfl (Nat.le_of_ble_eq_true rfl) .char rfl (nar_char_mod _) (fun E _ _ hty0 hX0 hr => ?_)
  have hN := hX0.trans hNX
  have hr : Ri E kJ0_charAt_5068e (jchr w i.toNatClampNeg) [] := hr
  show G E kJ0_charAt_5068e 0 0 0 [(0, .ref (P.2.1 w)), (1, .int i)] [] []
  refine g_aload_n 0 dJ0_charAt_5068e_0 rfl rfl ?_
  refine g_callQi (As := []) (rest := []) hN hw dJ0_charAt_5068e_1 vJ0_charAt_492 (c_J0_isLatin1_aae02 hN hw) rfl rfl (Nat.le_of_ble_eq_true rfl) ⟨Nat.zero_le _, Nat.zero_le _⟩ ?_
  refine g_if_eq (tgt := 16) dJ0_charAt_5068e_4 (by decide) (fun h => absurd h (by decide)) (fun _ => ?_)
  refine g_aload_n 0 dJ0_charAt_5068e_7 rfl rfl ?_
  refine g_getq (n := "value") (d := "[B") (v := .ref (P.2.2 w)) hN (fun _ _ _ h => (h.2.2.2.2.2.2.2.1 w hw).2.2.1) dJ0_charAt_5068e_8 (by decide +kernel) ?_
  refine g_iload_n 1 dJ0_charAt_5068e_11 rfl rfl ?_
  refine g_callSi (As := [.ref (P.2.2 w), .int i]) (rest := []) (w2 := []) 0 dJ0_charAt_5068e_12 vJ0_charAt_495 (c_J1_charAt_3b067 hN hw hin) rfl rfl rfl (Nat.le_of_ble_eq_true rfl) ⟨Nat.zero_le _, Nat.zero_le _⟩ rfl ?_
  exact hr _ _ dJ0_charAt_5068e_15
