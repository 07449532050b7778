section
/-! ===== Rel of changed states, by what their cells hold ===== -/
theorem Rel_g {t : ST} {u : SO} {t2 : ST} {u2 : SO} (h : Rel t u) (hb : ∀ (m : SM) (ns : Nat), reB m ns (T_book t) (O_s u) (O_latest u 0) (O_latest u 1) → reB m ns (T_book t2) (O_s u2) (O_latest u2 0) (O_latest u2 1)) (hv : okV (T_verdict t) u → okV (T_verdict t2) u2) (hs : T_stepsSold t = O_soldSteps u ∧ T_traced t = O_trace u → T_stepsSold t2 = O_soldSteps u2 ∧ T_traced t2 = O_trace u2) (hl : ∀ k, 2 ≤ k → O_latest u2 k = O_latest u k) (a1 : T_textLength t2 = T_textLength t) (a2 : T_market t2 = T_market t) (a3 : T_reader t2 = T_reader t) (a4 : T_beliefs t2 = T_beliefs t) (a6 : T_kept t2 = T_kept t) (a7 : T_img0 t2 = T_img0 t) (a8 : T_img1 t2 = T_img1 t) (b1 : O_stalls u2 = O_stalls u) (b2 : O_ways u2 = O_ways u) (b3 : O_luck u2 = O_luck u) (b4 : O_stall u2 = O_stall u) (b5 : O_way u2 = O_way u) (b6 : O_typed u2 = O_typed u) (b7 : O_text u2 = O_text u) (b8 : O_beliefs u2 = O_beliefs u) (b9 : O_kept u2 = O_kept u) (c2 : O_isKept u2 = O_isKept u) (c6 : O_triangle u2 = O_triangle u) : Rel t2 u2 := by
  obtain ⟨ns, nw, n, ⟨hM1, hM2⟩, ⟨hn, x2, x3, x4, x5⟩, hB, hK, hI, hV, hS, hT⟩ := h
  refine Rel_i ns nw n ⟨?_, ?_⟩ ⟨hn, by rw [a1]; exact x2, by rw [b6]; exact x3, by rw [a3, b7]; exact x4, by rw [b7]; exact x5⟩ ?_ ?_ ?_ (hv hV) (hs hS) ?_
  · rw [a2]; exact hM1
  · rw [a2]
    unfold reM
    rw [b1, b2, b3, b4, b5]
    exact hM2
  · rw [a4, b8]; exact hB
  · rw [a2]; exact hb _ _ hK
  · rw [a2, a6, a7, a8, b9, c2, hl 2 (by omega), hl 3 (by omega), hl 4 (by omega), hl 5 (by omega)]; exact hI
  · rw [c6]; exact hT
theorem okV_c {v : SV} {u u2 : SO} (h : O_bars u2 = O_bars u) (hV : okV v u) : okV v u2 := by
  unfold okV
  rw [h]
  exact hV
end
