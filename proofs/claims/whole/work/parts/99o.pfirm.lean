theorem iv_firm {μ : sc_M} {N : Nat} (h : iv_ok μ N) (n : Nat) (hn : n < N) (hK : μ 20 n = 2) (z : Int) (hz : z = -9 ∨ (0 ≤ z ∧ z < μ 21 n)) : iv_ok (sc_up (sc_up μ (40 + 3 * n) 3 z) 25 n z) N := by
  obtain ⟨⟨hw, hx, h13, hc, hsi, hfr⟩, ht, hr, hs⟩ := h
  have hN1 := hw.1
  have hS := mo_S3 hw n hn
  have en : ∀ b, b ≠ 25 → b ≠ 40 + 3 * n → sc_up (sc_up μ (40 + 3 * n) 3 z) 25 n z b = μ b := fun b b1 b2 => by rw [sc_up_ne _ _ _ b1, sc_up_ne _ _ _ b2]
  have e25 : ∀ j, sc_up (sc_up μ (40 + 3 * n) 3 z) 25 n z 25 j = if j = n then z else μ 25 j := fun j => by rw [sc_up_eq, sc_up_ne _ _ _ (by omega)]
  have e40 : ∀ j, sc_up (sc_up μ (40 + 3 * n) 3 z) 25 n z (40 + 3 * n) j = if j = 3 then z else μ (40 + 3 * n) j := fun j => by rw [sc_up_ne _ _ _ (by omega), sc_up_eq]
  have e4x : ∀ k j, j ≠ 3 → sc_up (sc_up μ (40 + 3 * n) 3 z) 25 n z (40 + 3 * k) j = μ (40 + 3 * k) j := fun k j hj => by
    by_cases hk : k = n
    · subst hk; rw [e40, if_neg hj]
    · rw [en _ (by omega) (by omega)]
  have e43 : ∀ k, sc_up (sc_up μ (40 + 3 * n) 3 z) 25 n z (40 + 3 * k) 3 = if k = n then z else μ (40 + 3 * k) 3 := fun k => by
    by_cases hk : k = n
    · subst hk; rw [e40, if_pos rfl, if_pos rfl]
    · rw [en _ (by omega) (by omega), if_neg hk]
  generalize sc_up (sc_up μ (40 + 3 * n) 3 z) 25 n z = m at en e25 e40 e4x e43 ⊢
  have b18 := en 18 (by omega) (by omega)
  have b20 := en 20 (by omega) (by omega)
  have b21 := en 21 (by omega) (by omega)
  have b22 := en 22 (by omega) (by omega)
  have b23 := en 23 (by omega) (by omega)
  have b24 := en 24 (by omega) (by omega)
  have b26 := en 26 (by omega) (by omega)
  have hw' : mo_w m N := by
    refine ⟨hN1, by rw [b18]; exact hw.2.1, fun k hk => ?_, by rw [b20, b21]; exact hw.2.2.2.1, by rw [b18, b20]; exact hw.2.2.2.2⟩
    obtain ⟨a1, a2, a3, a4, a5, a6, a7, a8⟩ := hw.2.2.1 k hk
    unfold mo_nd
    rw [b20, b21, b22, b23, b24, b26, e25]
    refine ⟨a1, a2, a3, a4, a5, a6, ?_, a8⟩
    split
    · omega
    · exact a7
  have hx' : mo_x m N := by
    unfold mo_x
    rw [b20, b21, b22, b23, b24]
    refine ⟨fun k hk => ?_, hx.2.1, hx.2.2.1, hx.2.2.2⟩
    rw [e25]
    by_cases hkn : k = n
    · subst hkn
      rw [if_pos rfl]
      rcases hz with hz | hz
      · exact Or.inl hz
      · exact Or.inr ⟨hz.1, hK, hz.2⟩
    · rw [if_neg hkn]
      exact hx.1 k hk
  have hc' : cn_ok m m N := by
    refine ⟨⟨hN1, by rw [en 2 (by omega) (by omega)]; exact hc.1.2.1, fun k hk => ?_⟩, by rw [en 2 (by omega) (by omega), b20, b21]; exact hc.2.1, fun k hk => ?_⟩
    · obtain ⟨a0, a1, a2, a3, a4, a5, a6, a7⟩ := hc.1.2.2 k hk
      unfold sc_nd
      rw [e4x k 0 (by decide), e4x k 1 (by decide), e4x k 2 (by decide), e4x k 4 (by decide), e4x k 5 (by decide), e4x k 6 (by decide), en (41 + 3 * k) (by omega) (by omega), e43]
      refine ⟨a0, a1, a2, ?_, a4, a5, a6, a7⟩
      split
      · exact ⟨by omega, by omega⟩
      · exact a3
    · obtain ⟨a0, a1, a2, a3, a4, a5, a6, a7, a8⟩ := hc.2.2 k hk
      unfold cn_nd
      rw [e4x k 0 (by decide), e4x k 1 (by decide), e4x k 2 (by decide), e4x k 5 (by decide), e4x k 6 (by decide), en (41 + 3 * k) (by omega) (by omega), en (42 + 3 * k) (by omega) (by omega), e43, e25, b20, b21, b22, b23, b26]
      refine ⟨a0, a1, a2, ?_, a4, a5, a6, a7, a8⟩
      by_cases hkn : k = n
      · rw [if_pos hkn, if_pos hkn]
      · rw [if_neg hkn, if_neg hkn]; exact a3
  refine ⟨⟨hw', hx', by rw [b18]; exact h13, hc', fun k hk => ?_, fun k h1 h2 => ?_⟩, ?_, iv_rw_cells hr (fun b hb => en b (by omega) (by omega)), mo_sc_cells hs (fun b hb => en b (by omega) (by omega))⟩
  · rw [e4x k 4 (by decide), b24]; exact hsi k hk
  · rw [e4x k 4 (by decide), e4x k 5 (by decide)]; exact hfr k h1 h2
  · unfold iv_tl
    rw [b18, en 0 (by omega) (by omega), en 17 (by omega) (by omega), en 19 (by omega) (by omega)]
    exact ht
