theorem iv_sig {μ : sc_M} {N : Nat} (h : iv_ok μ N) (n : Nat) (hn : n < N) (hK : μ 20 n = 2) (z : Int) (hz : 0 ≤ z ∧ z < 1024) (hb : ∀ k, k < 10 → mo_bt z k = 1 → k < n ∧ μ 20 k = 1) : iv_ok (sc_up (sc_up μ (40 + 3 * n) 4 z) 24 n z) N := by
  obtain ⟨⟨hw, hx, h13, hc, hsi, hfr⟩, ht, hr, hs⟩ := h
  have hN1 := hw.1
  have en : ∀ b, b ≠ 24 → b ≠ 40 + 3 * n → sc_up (sc_up μ (40 + 3 * n) 4 z) 24 n z b = μ b := fun b b1 b2 => by rw [sc_up_ne _ _ _ b1, sc_up_ne _ _ _ b2]
  have e24 : ∀ j, sc_up (sc_up μ (40 + 3 * n) 4 z) 24 n z 24 j = if j = n then z else μ 24 j := fun j => by rw [sc_up_eq, sc_up_ne _ _ _ (by omega)]
  have e40 : ∀ j, sc_up (sc_up μ (40 + 3 * n) 4 z) 24 n z (40 + 3 * n) j = if j = 4 then z else μ (40 + 3 * n) j := fun j => by rw [sc_up_ne _ _ _ (by omega), sc_up_eq]
  have e4x : ∀ k j, j ≠ 4 → sc_up (sc_up μ (40 + 3 * n) 4 z) 24 n z (40 + 3 * k) j = μ (40 + 3 * k) j := fun k j hj => by
    by_cases hk : k = n
    · subst hk; rw [e40, if_neg hj]
    · rw [en _ (by omega) (by omega)]
  have e44 : ∀ k, sc_up (sc_up μ (40 + 3 * n) 4 z) 24 n z (40 + 3 * k) 4 = if k = n then z else μ (40 + 3 * k) 4 := fun k => by
    by_cases hk : k = n
    · subst hk; rw [e40, if_pos rfl, if_pos rfl]
    · rw [en _ (by omega) (by omega), if_neg hk]
  generalize sc_up (sc_up μ (40 + 3 * n) 4 z) 24 n z = m at en e24 e40 e4x e44 ⊢
  have b18 := en 18 (by omega) (by omega)
  have b20 := en 20 (by omega) (by omega)
  have b21 := en 21 (by omega) (by omega)
  have b22 := en 22 (by omega) (by omega)
  have b23 := en 23 (by omega) (by omega)
  have b25 := en 25 (by omega) (by omega)
  have b26 := en 26 (by omega) (by omega)
  have hw' : mo_w m N := by
    refine ⟨hN1, by rw [b18]; exact hw.2.1, fun k hk => ?_, by rw [b20, b21]; exact hw.2.2.2.1, by rw [b18, b20]; exact hw.2.2.2.2⟩
    obtain ⟨a1, a2, a3, a4, a5, a6, a7, a8⟩ := hw.2.2.1 k hk
    unfold mo_nd
    rw [b20, b21, b22, b23, b25, b26, e24]
    refine ⟨a1, a2, a3, a4, a5, ?_, a7, a8⟩
    split
    · exact hz
    · exact a6
  have hx' : mo_x m N := by
    unfold mo_x
    rw [b20, b21, b22, b23, b25]
    refine ⟨hx.1, fun k hk q hq => ?_, fun k hk hK2 => ?_, hx.2.2.2⟩
    · rw [e24]
      by_cases hkn : k = n
      · subst hkn
        rw [if_pos rfl]
        exact hb q hq
      · rw [if_neg hkn]
        exact hx.2.1 k hk q hq
    · rw [e24]
      by_cases hkn : k = n
      · subst hkn
        exact absurd hK hK2
      · rw [if_neg hkn]
        exact hx.2.2.1 k hk hK2
  have hc' : cn_ok m m N := by
    refine ⟨⟨hN1, by rw [en 2 (by omega) (by omega)]; exact hc.1.2.1, fun k hk => ?_⟩, by rw [en 2 (by omega) (by omega), b20, b21]; exact hc.2.1, fun k hk => ?_⟩
    · obtain ⟨a0, a1, a2, a3, a4, a5, a6, a7⟩ := hc.1.2.2 k hk
      unfold sc_nd
      rw [e4x k 0 (by decide), e4x k 1 (by decide), e4x k 2 (by decide), e4x k 3 (by decide), e4x k 5 (by decide), e4x k 6 (by decide), en (41 + 3 * k) (by omega) (by omega), e44]
      refine ⟨a0, a1, a2, a3, ?_, a5, a6, a7⟩
      split
      · exact ⟨by omega, by omega⟩
      · exact a4
    · obtain ⟨a0, a1, a2, a3, a4, a5, a6, a7, a8⟩ := hc.2.2 k hk
      unfold cn_nd
      rw [e4x k 0 (by decide), e4x k 1 (by decide), e4x k 2 (by decide), e4x k 3 (by decide), e4x k 5 (by decide), e4x k 6 (by decide), en (41 + 3 * k) (by omega) (by omega), en (42 + 3 * k) (by omega) (by omega), b20, b21, b22, b23, b25, b26]
      exact ⟨a0, a1, a2, a3, a4, a5, a6, a7, a8⟩
  refine ⟨⟨hw', hx', by rw [b18]; exact h13, hc', fun k hk => ?_, fun k h1 h2 => ?_⟩, ?_, iv_rw_cells hr (fun b hb => en b (by omega) (by omega)), mo_sc_cells hs (fun b hb => en b (by omega) (by omega))⟩
  · rw [e44, e24]
    by_cases hkn : k = n
    · rw [if_pos hkn, if_pos hkn]
    · rw [if_neg hkn, if_neg hkn]; exact hsi k hk
  · rw [e44, if_neg (by omega), e4x k 5 (by decide)]; exact hfr k h1 h2
  · unfold iv_tl
    rw [b18, en 0 (by omega) (by omega), en 17 (by omega) (by omega), en 19 (by omega) (by omega)]
    exact ht
theorem iv_tab {μ m : sc_M} {N : Nat} (h : iv_ok μ N) (n : Nat) (hn : n < N) (en : ∀ b, b ≠ 26 → b ≠ 42 + 3 * n → m b = μ b) (eo : ∀ k i, k ≠ n → i < 27 → m 26 (27 * k + i) = μ 26 (27 * k + i)) (hb : ∀ i, i < 27 → -100 ≤ m 26 (27 * n + i) ∧ m 26 (27 * n + i) ≤ 100 ∧ (μ 20 n = 1 → 0 ≤ m 26 (27 * n + i) ∧ m 26 (27 * n + i) ≤ 12)) (h1 : μ 20 n = 1 → ∀ r s : Nat, (r : Int) < mo_by (μ 21) (μ 23) n (μ 22 n).toNat → (s : Int) < μ 21 n → m (42 + 3 * n) (r * (μ 21 n).toNat + s) = m 26 (27 * n + 3 * r + s)) (h0 : μ 20 n = 0 → ∀ i : Nat, (i : Int) < mo_by (μ 21) (μ 23) n (μ 22 n).toNat → m (42 + 3 * n) i = m 26 (27 * n + i)) : iv_ok m N := by
  obtain ⟨⟨hw, hx, h13, hc, hsi, hfr⟩, ht, hr, hs⟩ := h
  have hN1 := hw.1
  have b18 := en 18 (by omega) (by omega)
  have b20 := en 20 (by omega) (by omega)
  have b21 := en 21 (by omega) (by omega)
  have b22 := en 22 (by omega) (by omega)
  have b23 := en 23 (by omega) (by omega)
  have b24 := en 24 (by omega) (by omega)
  have b25 := en 25 (by omega) (by omega)
  have hw' : mo_w m N := by
    refine ⟨hN1, by rw [b18]; exact hw.2.1, fun k hk => ?_, by rw [b20, b21]; exact hw.2.2.2.1, by rw [b18, b20]; exact hw.2.2.2.2⟩
    obtain ⟨a1, a2, a3, a4, a5, a6, a7, a8⟩ := hw.2.2.1 k hk
    unfold mo_nd
    rw [b20, b21, b22, b23, b24, b25]
    refine ⟨a1, a2, a3, a4, a5, a6, a7, fun i hi => ?_⟩
    by_cases hkn : k = n
    · subst hkn; exact hb i hi
    · rw [eo k i hkn hi]; exact a8 i hi
  have hx' : mo_x m N := by
    unfold mo_x
    rw [b20, b21, b22, b23, b24, b25]
    exact hx
  have hc' : cn_ok m m N := by
    refine ⟨⟨hN1, by rw [en 2 (by omega) (by omega)]; exact hc.1.2.1, fun k hk => ?_⟩, by rw [en 2 (by omega) (by omega), b20, b21]; exact hc.2.1, fun k hk => ?_⟩
    · unfold sc_nd
      rw [en (40 + 3 * k) (by omega) (by omega), en (41 + 3 * k) (by omega) (by omega)]
      exact hc.1.2.2 k hk
    · obtain ⟨a0, a1, a2, a3, a4, a5, a6, a7, a8⟩ := hc.2.2 k hk
      have hby := mo_byb hw k hk
      have hS := mo_S3 hw k hk
      unfold cn_nd
      rw [en (40 + 3 * k) (by omega) (by omega), en (41 + 3 * k) (by omega) (by omega), b20, b21, b22, b23, b25]
      refine ⟨a0, a1, a2, a3, a4, a5, a6, fun hK r s hr2 hs2 => ?_, fun hK i hi => ?_⟩
      · by_cases hkn : k = n
        · subst hkn; exact h1 hK r s hr2 hs2
        · have := hby.2.2 hK
          rw [en (42 + 3 * k) (by omega) (by omega), show 27 * k + 3 * r + s = 27 * k + (3 * r + s) by omega, eo k (3 * r + s) hkn (by omega), a7 hK r s hr2 hs2, show 27 * k + (3 * r + s) = 27 * k + 3 * r + s by omega]
      · by_cases hkn : k = n
        · subst hkn; exact h0 hK i hi
        · rw [en (42 + 3 * k) (by omega) (by omega), eo k i hkn (by omega)]
          exact a8 hK i hi
  refine ⟨⟨hw', hx', by rw [b18]; exact h13, hc', fun k hk => ?_, fun k h1 h2 => ?_⟩, ?_, iv_rw_cells hr (fun b hb => en b (by omega) (by omega)), mo_sc_cells hs (fun b hb => en b (by omega) (by omega))⟩
  · rw [en (40 + 3 * k) (by omega) (by omega), b24]; exact hsi k hk
  · rw [en (40 + 3 * k) (by omega) (by omega)]; exact hfr k h1 h2
  · unfold iv_tl
    rw [b18, en 0 (by omega) (by omega), en 17 (by omega) (by omega), en 19 (by omega) (by omega)]
    exact ht
theorem sc_fl_ne (μ : sc_M) (n s k : Nat) {b : Nat} (h : b ≠ 42 + 3 * n) : sc_fl μ n s k b = μ b := sc_arr_ne _ _ h
theorem sc_wg_ne (μ : sc_M) (n i S : Nat) (a c : Int) {b : Nat} (h : b ≠ 42 + 3 * n) : sc_wg μ n i S a c b = μ b := by
  unfold sc_wg
  split
  · rw [sc_up_ne _ _ _ h, sc_up_ne _ _ _ h, sc_up_ne _ _ _ h]
  · rw [sc_up_ne _ _ _ h, sc_up_ne _ _ _ h]
theorem sc_wg_tb (μ : sc_M) (n i S : Nat) (a c : Int) (j : Nat) : sc_wg μ n i S a c (42 + 3 * n) j = if S = 3 ∧ j = i + 2 then 12 - a - c else if j = i + 1 then c else if j = i then a else μ (42 + 3 * n) j := by
  unfold sc_wg
  by_cases hS : S = 3
  · rw [if_pos hS, sc_up_eq, sc_up_eq, sc_up_eq]
    simp only [hS, true_and]
  · rw [if_neg hS, sc_up_eq, sc_up_eq]
    simp only [hS, false_and, if_false]
theorem mo_wg_ne (μ : sc_M) (i : Nat) (a c : Int) {b : Nat} (h : b ≠ 26) : mo_wg μ i a c b = μ b := by
  unfold mo_wg
  rw [sc_up_ne _ _ _ h, sc_up_ne _ _ _ h, sc_up_ne _ _ _ h]
theorem mo_wg_tb (μ : sc_M) (i : Nat) (a c : Int) (j : Nat) : mo_wg μ i a c 26 j = if j = i + 2 then 12 - a - c else if j = i + 1 then c else if j = i then a else μ 26 j := by
  unfold mo_wg
  rw [sc_up_eq, sc_up_eq, sc_up_eq]
theorem pr_firm (l : Launch) (G : sc_G) (d e : Nat) (x : Int) (z : Int) (hx : sc_in x) (hz : sc_in z) : iv_pr l G (d + 1) (e + 2) mq_Sc_firm mq_Mo_firm [.inl (x), .inl (z)] := fun μ N h => ⟨_, sp_Sc_firm l G d μ N h.1 x z hx hz, fun r1 μ1 h1 => by
  try dsimp only at h1
  have hm : mo_sm μ μ1 := by
    (repeat' split at h1) <;> first | (obtain ⟨-, rfl⟩ := h1; first | exact fun b _ => rfl | exact (fun b hb => by rw [sc_up_ne _ _ _ (by omega), sc_up_ne _ _ _ (by omega)]) | exact fun b hb => sc_wg_ne _ _ _ _ _ _ (by omega) | exact fun b hb => sc_fl_ne _ _ _ _ (by omega) | exact fun b hb => sc_meet_ne _ _ (by omega) (by omega) | exact fun b hb => sc_up_ne _ _ _ (by omega)) | (obtain ⟨-, k⟩ := h1; exact fun b hb => (k b (by omega)).trans (by first | rfl | exact sc_tel_ne _ _ _ (by omega) | exact sc_up_ne _ _ _ (by omega) | exact sc_meet_ne _ _ (by omega) (by omega)))
  have hsc : mo_sc μ1 := by
    (repeat' split at h1) <;> first | (obtain ⟨-, rfl⟩ := h1; first | exact h.2.2.2 | exact mo_sc_cells h.2.2.2 (fun b hb => by rw [sc_up_ne _ _ _ (by omega), sc_up_ne _ _ _ (by omega)]) | exact mo_sc_cells h.2.2.2 (fun b hb => sc_wg_ne _ _ _ _ _ _ (by omega)) | exact mo_sc_cells h.2.2.2 (fun b hb => sc_fl_ne _ _ _ _ (by omega)) | exact mo_sc_cells h.2.2.2 (fun b hb => sc_meet_ne _ _ (by omega) (by omega)) | exact mo_sc_cells h.2.2.2 (fun b hb => sc_up_ne _ _ _ (by omega))) | (obtain ⟨-, k⟩ := h1; exact mo_sc_cells h.2.2.2 (fun b hb => (k b (by omega)).trans (by first | rfl | exact sc_tel_ne _ _ _ (by omega) | exact sc_up_ne _ _ _ (by omega) | exact sc_meet_ne _ _ (by omega) (by omega))))
  have hw := mo_sm_w hm h.1.1
  refine ⟨_, sp_Mo_firm l G e μ1 N hw x z hx hz, fun r2 μ2 h2 => ?_⟩
  try dsimp only at h2
  rw [hm 20 (by omega), hm 21 (by omega), hm 25 (by omega)] at h2
  by_cases hc2 : 0 ≤ x ∧ x < (N : Int)
  · rw [if_pos hc2] at h1 h2
    by_cases hc4 : μ 20 x.toNat = 2
    · rw [if_pos hc4] at h1 h2
      by_cases hc6 : z = -9 ∨ 0 ≤ z ∧ z < μ 21 x.toNat
      · rw [if_pos hc6] at h1 h2
        obtain ⟨rfl, rfl⟩ := h1
        obtain ⟨rfl, rfl⟩ := h2
        exact ⟨rfl, N, iv_firm h x.toNat (by omega) (by assumption) z (by assumption)⟩
      · rw [if_neg hc6] at h1 h2
        obtain ⟨rfl, rfl⟩ := h1
        obtain ⟨rfl, rfl⟩ := h2
        exact ⟨rfl, N, iv_meet h 2 (by omega)⟩
    · rw [if_neg hc4] at h1 h2
      obtain ⟨rfl, rfl⟩ := h1
      obtain ⟨rfl, rfl⟩ := h2
      exact ⟨rfl, N, iv_meet h 3 (by omega)⟩
  · rw [if_neg hc2] at h1 h2
    obtain ⟨rfl, rfl⟩ := h1
    obtain ⟨rfl, rfl⟩ := h2
    exact ⟨rfl, N, h⟩⟩
theorem pr_sight (l : Launch) (G : sc_G) (d e : Nat) (x : Int) (z : Int) (hx : sc_in x) (hz : sc_in z) : iv_pr l G (d + 2) (e + 3) mq_Sc_sight mq_Mo_sight [.inl (x), .inl (z)] := fun μ N h => ⟨_, sp_Sc_sight l G d μ N h.1 x z hx hz, fun r1 μ1 h1 => by
  try dsimp only at h1
  have hm : mo_sm μ μ1 := by
    (repeat' split at h1) <;> first | (obtain ⟨-, rfl⟩ := h1; first | exact fun b _ => rfl | exact (fun b hb => by rw [sc_up_ne _ _ _ (by omega), sc_up_ne _ _ _ (by omega)]) | exact fun b hb => sc_wg_ne _ _ _ _ _ _ (by omega) | exact fun b hb => sc_fl_ne _ _ _ _ (by omega) | exact fun b hb => sc_meet_ne _ _ (by omega) (by omega) | exact fun b hb => sc_up_ne _ _ _ (by omega)) | (obtain ⟨-, k⟩ := h1; exact fun b hb => (k b (by omega)).trans (by first | rfl | exact sc_tel_ne _ _ _ (by omega) | exact sc_up_ne _ _ _ (by omega) | exact sc_meet_ne _ _ (by omega) (by omega)))
  have hsc : mo_sc μ1 := by
    (repeat' split at h1) <;> first | (obtain ⟨-, rfl⟩ := h1; first | exact h.2.2.2 | exact mo_sc_cells h.2.2.2 (fun b hb => by rw [sc_up_ne _ _ _ (by omega), sc_up_ne _ _ _ (by omega)]) | exact mo_sc_cells h.2.2.2 (fun b hb => sc_wg_ne _ _ _ _ _ _ (by omega)) | exact mo_sc_cells h.2.2.2 (fun b hb => sc_fl_ne _ _ _ _ (by omega)) | exact mo_sc_cells h.2.2.2 (fun b hb => sc_meet_ne _ _ (by omega) (by omega)) | exact mo_sc_cells h.2.2.2 (fun b hb => sc_up_ne _ _ _ (by omega))) | (obtain ⟨-, k⟩ := h1; exact mo_sc_cells h.2.2.2 (fun b hb => (k b (by omega)).trans (by first | rfl | exact sc_tel_ne _ _ _ (by omega) | exact sc_up_ne _ _ _ (by omega) | exact sc_meet_ne _ _ (by omega) (by omega))))
  have hw := mo_sm_w hm h.1.1
  refine ⟨_, sp_Mo_sight l G e μ1 N hw x z hx hz, fun r2 μ2 h2 => ?_⟩
  try dsimp only at h2
  rw [hm 20 (by omega), hm 24 (by omega)] at h2
  by_cases hc2 : 0 ≤ x ∧ x < (N : Int) ∧ 0 ≤ z ∧ z < x
  · rw [if_pos hc2] at h1 h2
    by_cases hc4 : μ 20 x.toNat = 2 ∧ μ 20 z.toNat = 1
    · rw [if_pos hc4] at h1 h2
      by_cases hc6 : sc_band (sc_bshr (μ 24 x.toNat) z) 1 = 1
      · rw [if_pos hc6] at h1 h2
        obtain ⟨rfl, rfl⟩ := h1
        obtain ⟨rfl, rfl⟩ := h2
        exact ⟨rfl, N, h⟩
      · rw [if_neg hc6] at h1 h2
        obtain ⟨rfl, rfl⟩ := h1
        obtain ⟨rfl, rfl⟩ := h2
        have hV := (h.1.1.2.2.1 x.toNat (by omega)).2.2.2.2.2.1
        have hN1 := h.1.1.1
        obtain ⟨q, rfl⟩ := Int.eq_ofNat_of_zero_le hc2.2.2.1
        rw [Int.toNat_natCast] at hc4
        exact ⟨rfl, N, iv_sig h x.toNat (by omega) hc4.1 _ (sc_bset_lt (μ 24 x.toNat) hV q (by omega)) (fun k hk hb9 => by
          rcases (mo_bt_or _ _ hV (sc_one_lt q (by omega)) k hk).mp hb9 with h9 | h9
          · exact h.1.2.1.2.1 x.toNat (by omega) k hk h9
          · rw [(mo_bt_one q k (by omega) hk).mp h9]; exact ⟨by omega, hc4.2⟩)⟩
    · rw [if_neg hc4] at h1 h2
      obtain ⟨rfl, rfl⟩ := h1
      obtain ⟨rfl, rfl⟩ := h2
      exact ⟨rfl, N, iv_meet h 3 (by omega)⟩
  · rw [if_neg hc2] at h1 h2
    obtain ⟨rfl, rfl⟩ := h1
    obtain ⟨rfl, rfl⟩ := h2
    exact ⟨rfl, N, h⟩⟩
theorem pr_blind (l : Launch) (G : sc_G) (d e : Nat) (x : Int) (z : Int) (hx : sc_in x) (hz : sc_in z) : iv_pr l G (d + 2) (e + 3) mq_Sc_blind mq_Mo_blind [.inl (x), .inl (z)] := fun μ N h => ⟨_, sp_Sc_blind l G d μ N h.1 x z hx hz, fun r1 μ1 h1 => by
  try dsimp only at h1
  have hm : mo_sm μ μ1 := by
    (repeat' split at h1) <;> first | (obtain ⟨-, rfl⟩ := h1; first | exact fun b _ => rfl | exact (fun b hb => by rw [sc_up_ne _ _ _ (by omega), sc_up_ne _ _ _ (by omega)]) | exact fun b hb => sc_wg_ne _ _ _ _ _ _ (by omega) | exact fun b hb => sc_fl_ne _ _ _ _ (by omega) | exact fun b hb => sc_meet_ne _ _ (by omega) (by omega) | exact fun b hb => sc_up_ne _ _ _ (by omega)) | (obtain ⟨-, k⟩ := h1; exact fun b hb => (k b (by omega)).trans (by first | rfl | exact sc_tel_ne _ _ _ (by omega) | exact sc_up_ne _ _ _ (by omega) | exact sc_meet_ne _ _ (by omega) (by omega)))
  have hsc : mo_sc μ1 := by
    (repeat' split at h1) <;> first | (obtain ⟨-, rfl⟩ := h1; first | exact h.2.2.2 | exact mo_sc_cells h.2.2.2 (fun b hb => by rw [sc_up_ne _ _ _ (by omega), sc_up_ne _ _ _ (by omega)]) | exact mo_sc_cells h.2.2.2 (fun b hb => sc_wg_ne _ _ _ _ _ _ (by omega)) | exact mo_sc_cells h.2.2.2 (fun b hb => sc_fl_ne _ _ _ _ (by omega)) | exact mo_sc_cells h.2.2.2 (fun b hb => sc_meet_ne _ _ (by omega) (by omega)) | exact mo_sc_cells h.2.2.2 (fun b hb => sc_up_ne _ _ _ (by omega))) | (obtain ⟨-, k⟩ := h1; exact mo_sc_cells h.2.2.2 (fun b hb => (k b (by omega)).trans (by first | rfl | exact sc_tel_ne _ _ _ (by omega) | exact sc_up_ne _ _ _ (by omega) | exact sc_meet_ne _ _ (by omega) (by omega))))
  have hw := mo_sm_w hm h.1.1
  refine ⟨_, sp_Mo_blind l G e μ1 N hw x z hx hz, fun r2 μ2 h2 => ?_⟩
  try dsimp only at h2
  rw [hm 20 (by omega), hm 24 (by omega)] at h2
  by_cases hc2 : 0 ≤ x ∧ x < (N : Int) ∧ 0 ≤ z ∧ z < (N : Int)
  · rw [if_pos hc2] at h1 h2
    by_cases hc4 : μ 20 x.toNat = 2
    · rw [if_pos hc4] at h1 h2
      by_cases hc6 : sc_band (sc_bshr (μ 24 x.toNat) z) 1 = 1
      · rw [if_pos hc6] at h1 h2
        obtain ⟨rfl, rfl⟩ := h1
        obtain ⟨rfl, rfl⟩ := h2
        have hV := (h.1.1.2.2.1 x.toNat (by omega)).2.2.2.2.2.1
        have hN1 := h.1.1.1
        obtain ⟨q, rfl⟩ := Int.eq_ofNat_of_zero_le hc2.2.2.1
        exact ⟨rfl, N, iv_sig h x.toNat (by omega) hc4 _ (sc_bclr_lt (μ 24 x.toNat) hV q (by omega)) (fun k hk hb9 => h.1.2.1.2.1 x.toNat (by omega) k hk (mo_bt_clr _ hV _ k hk hb9))⟩
      · rw [if_neg hc6] at h1 h2
        obtain ⟨rfl, rfl⟩ := h1
        obtain ⟨rfl, rfl⟩ := h2
        exact ⟨rfl, N, h⟩
    · rw [if_neg hc4] at h1 h2
      obtain ⟨rfl, rfl⟩ := h1
      obtain ⟨rfl, rfl⟩ := h2
      exact ⟨rfl, N, iv_meet h 3 (by omega)⟩
  · rw [if_neg hc2] at h1 h2
    obtain ⟨rfl, rfl⟩ := h1
    obtain ⟨rfl, rfl⟩ := h2
    exact ⟨rfl, N, h⟩⟩
theorem pr_worth (l : Launch) (G : sc_G) (d e : Nat) (x : Int) (z : Int) (v : Int) (hx : sc_in x) (hz : sc_in z) (hv : sc_in v) : iv_pr l G (d + 1) (e + 2) mq_Sc_worth mq_Mo_worth [.inl (x), .inl (z), .inl (v)] := fun μ N h => ⟨_, sp_Sc_worth l G d μ N h.1 x z v hx hz hv, fun r1 μ1 h1 => by
  try dsimp only at h1
  have hm : mo_sm μ μ1 := by
    (repeat' split at h1) <;> first | (obtain ⟨-, rfl⟩ := h1; first | exact fun b _ => rfl | exact (fun b hb => by rw [sc_up_ne _ _ _ (by omega), sc_up_ne _ _ _ (by omega)]) | exact fun b hb => sc_wg_ne _ _ _ _ _ _ (by omega) | exact fun b hb => sc_fl_ne _ _ _ _ (by omega) | exact fun b hb => sc_meet_ne _ _ (by omega) (by omega) | exact fun b hb => sc_up_ne _ _ _ (by omega)) | (obtain ⟨-, k⟩ := h1; exact fun b hb => (k b (by omega)).trans (by first | rfl | exact sc_tel_ne _ _ _ (by omega) | exact sc_up_ne _ _ _ (by omega) | exact sc_meet_ne _ _ (by omega) (by omega)))
  have hsc : mo_sc μ1 := by
    (repeat' split at h1) <;> first | (obtain ⟨-, rfl⟩ := h1; first | exact h.2.2.2 | exact mo_sc_cells h.2.2.2 (fun b hb => by rw [sc_up_ne _ _ _ (by omega), sc_up_ne _ _ _ (by omega)]) | exact mo_sc_cells h.2.2.2 (fun b hb => sc_wg_ne _ _ _ _ _ _ (by omega)) | exact mo_sc_cells h.2.2.2 (fun b hb => sc_fl_ne _ _ _ _ (by omega)) | exact mo_sc_cells h.2.2.2 (fun b hb => sc_meet_ne _ _ (by omega) (by omega)) | exact mo_sc_cells h.2.2.2 (fun b hb => sc_up_ne _ _ _ (by omega))) | (obtain ⟨-, k⟩ := h1; exact mo_sc_cells h.2.2.2 (fun b hb => (k b (by omega)).trans (by first | rfl | exact sc_tel_ne _ _ _ (by omega) | exact sc_up_ne _ _ _ (by omega) | exact sc_meet_ne _ _ (by omega) (by omega))))
  have hw := mo_sm_w hm h.1.1
  refine ⟨_, sp_Mo_worth l G e μ1 N hw x z v hx hz hv, fun r2 μ2 h2 => ?_⟩
  try dsimp only at h2
  rw [hm 20 (by omega), hm 21 (by omega), hm 22 (by omega), hm 23 (by omega), hm 26 (by omega)] at h2
  by_cases hc2 : (0 ≤ x ∧ x < (N : Int)) ∧ (-100 ≤ v ∧ v ≤ 100)
  · rw [if_pos hc2] at h1 h2
    by_cases hc4 : μ 20 x.toNat = 0
    · rw [if_pos hc4] at h1 h2
      by_cases hc6 : 0 ≤ z ∧ z < mo_by (μ 21) (μ 23) x.toNat (μ 22 x.toNat).toNat
      · rw [if_pos hc6] at h1 h2
        obtain ⟨n, rfl⟩ := Int.eq_ofNat_of_zero_le hc2.1.1
        obtain ⟨q, rfl⟩ := Int.eq_ofNat_of_zero_le hc6.1
        rw [Int.toNat_natCast, Int.toNat_natCast] at h1 h2
        rw [Int.toNat_natCast] at hc4 hc6
        obtain ⟨rfl, rfl⟩ := h1
        obtain ⟨rfl, rfl⟩ := h2
        have hby := mo_byb h.1.1 n (by omega)
        have hq27 : q < 27 := by omega
        refine ⟨rfl, N, ?_⟩
        have h9 : iv_ok (sc_up (sc_up μ (42 + 3 * n) q v) 26 (27 * n + q) v) N := by
          have e26 : ∀ j, sc_up (sc_up μ (42 + 3 * n) q v) 26 (27 * n + q) v 26 j = if j = 27 * n + q then v else μ 26 j := fun j => by rw [sc_up_eq, sc_up_ne _ _ _ (by omega)]
          have et : ∀ j, sc_up (sc_up μ (42 + 3 * n) q v) 26 (27 * n + q) v (42 + 3 * n) j = if j = q then v else μ (42 + 3 * n) j := fun j => by rw [sc_up_ne _ _ _ (by omega), sc_up_eq]
          refine iv_tab h n (by omega) (fun b b1 b2 => by rw [sc_up_ne _ _ _ b1, sc_up_ne _ _ _ b2]) (fun k i hk hi => ?_) (fun i hi => ?_) (fun hK => ?_) (fun hK i hi => ?_)
          · rw [e26, if_neg (by omega)]
          · rw [e26]
            split
            · exact ⟨hc2.2.1, hc2.2.2, fun hK => by omega⟩
            · exact (h.1.1.2.2.1 n (by omega)).2.2.2.2.2.2.2 i hi
          · omega
          · rw [e26, et]
            by_cases hiq : i = q
            · rw [if_pos hiq, if_pos (by omega)]
            · rw [if_neg hiq, if_neg (by omega)]
              exact (h.1.2.2.2.1.2.2 n (by omega)).2.2.2.2.2.2.2.2 hK i hi
        have e2 : sc_up (sc_up (sc_up (sc_up μ (42 + 3 * n) q v) 0 7 (μ 26 (27 * n + q))) 18 2 (μ 26 (27 * n + q))) 26 (27 * n + q) v = sc_up (sc_up (sc_up (sc_up μ (42 + 3 * n) q v) 26 (27 * n + q) v) 0 7 (μ 26 (27 * n + q))) 18 2 (μ 26 (27 * n + q)) := by
          funext b j
          simp only [sc_up]
          by_cases hb1 : b = 26 ∧ j = 27 * n + q
          · rw [if_pos hb1, if_neg (by omega), if_neg (by omega), if_pos hb1]
          · rw [if_neg hb1, if_neg hb1]
        rw [e2]
        exact iv_ask h9 _ (fun _ _ => rfl) (fun _ _ => rfl) (mo_sc_cells h9.2.2.2 (fun b hb => by rw [sc_up_ne _ _ _ (by omega), sc_up_ne _ _ _ (by omega)]))
      · rw [if_neg hc6] at h1 h2
        obtain ⟨rfl, rfl⟩ := h1
        obtain ⟨rfl, rfl⟩ := h2
        exact ⟨rfl, N, iv_meet h 2 (by omega)⟩
    · rw [if_neg hc4] at h1 h2
      obtain ⟨rfl, rfl⟩ := h1
      obtain ⟨rfl, rfl⟩ := h2
      exact ⟨rfl, N, iv_meet h 3 (by omega)⟩
  · rw [if_neg hc2] at h1 h2
    obtain ⟨rfl, rfl⟩ := h1
    obtain ⟨rfl, rfl⟩ := h2
    exact ⟨rfl, N, h⟩⟩
theorem pr_weigh (l : Launch) (G : sc_G) (d e : Nat) (x : Int) (z : Int) (a : Int) (b : Int) (hx : sc_in x) (hz : sc_in z) (ha : sc_in a) (hb : sc_in b) : iv_pr l G (d + 1) (e + 2) mq_Sc_weigh mq_Mo_weigh [.inl (x), .inl (z), .inl (a), .inl (b)] := fun μ N h => ⟨_, sp_Sc_weigh l G d μ N h.1 x z a b hx hz ha hb, fun r1 μ1 h1 => by
  try dsimp only at h1
  have hm : mo_sm μ μ1 := by
    (repeat' split at h1) <;> first | (obtain ⟨-, rfl⟩ := h1; first | exact fun b _ => rfl | exact (fun b hb => by rw [sc_up_ne _ _ _ (by omega), sc_up_ne _ _ _ (by omega)]) | exact fun b hb => sc_wg_ne _ _ _ _ _ _ (by omega) | exact fun b hb => sc_fl_ne _ _ _ _ (by omega) | exact fun b hb => sc_meet_ne _ _ (by omega) (by omega) | exact fun b hb => sc_up_ne _ _ _ (by omega)) | (obtain ⟨-, k⟩ := h1; exact fun b hb => (k b (by omega)).trans (by first | rfl | exact sc_tel_ne _ _ _ (by omega) | exact sc_up_ne _ _ _ (by omega) | exact sc_meet_ne _ _ (by omega) (by omega)))
  have hsc : mo_sc μ1 := by
    (repeat' split at h1) <;> first | (obtain ⟨-, rfl⟩ := h1; first | exact h.2.2.2 | exact mo_sc_cells h.2.2.2 (fun b hb => by rw [sc_up_ne _ _ _ (by omega), sc_up_ne _ _ _ (by omega)]) | exact mo_sc_cells h.2.2.2 (fun b hb => sc_wg_ne _ _ _ _ _ _ (by omega)) | exact mo_sc_cells h.2.2.2 (fun b hb => sc_fl_ne _ _ _ _ (by omega)) | exact mo_sc_cells h.2.2.2 (fun b hb => sc_meet_ne _ _ (by omega) (by omega)) | exact mo_sc_cells h.2.2.2 (fun b hb => sc_up_ne _ _ _ (by omega))) | (obtain ⟨-, k⟩ := h1; exact mo_sc_cells h.2.2.2 (fun b hb => (k b (by omega)).trans (by first | rfl | exact sc_tel_ne _ _ _ (by omega) | exact sc_up_ne _ _ _ (by omega) | exact sc_meet_ne _ _ (by omega) (by omega))))
  have hw := mo_sm_w hm h.1.1
  refine ⟨_, sp_Mo_weigh l G e μ1 N hw x z a b hx hz ha hb, fun r2 μ2 h2 => ?_⟩
  try dsimp only at h2
  rw [hm 20 (by omega), hm 21 (by omega), hm 22 (by omega), hm 23 (by omega)] at h2
  by_cases hc2 : (0 ≤ x ∧ x < (N : Int)) ∧ (0 ≤ a ∧ a ≤ 12) ∧ (0 ≤ b ∧ b ≤ 12) ∧ a + b ≤ 12 ∧ ¬ (μ 20 x.toNat = 1 ∧ μ 21 x.toNat = 2 ∧ a + b < 12)
  · rw [if_pos hc2] at h1 h2
    by_cases hc4 : μ 20 x.toNat = 1
    · rw [if_pos hc4] at h1 h2
      by_cases hc6 : 0 ≤ z ∧ z < mo_by (μ 21) (μ 23) x.toNat (μ 22 x.toNat).toNat
      · rw [if_pos hc6] at h1 h2
        obtain ⟨n, rfl⟩ := Int.eq_ofNat_of_zero_le hc2.1.1
        obtain ⟨q, rfl⟩ := Int.eq_ofNat_of_zero_le hc6.1
        rw [Int.toNat_natCast] at hc2 hc4 hc6
        rw [Int.toNat_natCast, Int.toNat_natCast] at h1 h2
        obtain ⟨rfl, rfl⟩ := h1
        obtain ⟨rfl, rfl⟩ := h2
        have hn : n < N := by omega
        have hby := mo_byb h.1.1 n hn
        have hb9 := hby.2.2 hc4
        have hS2 := (h.1.1.2.2.1 n hn).2.2.1 (by omega)
        have hta := (h.1.2.2.2.1.2.2 n hn).2.2.2.2.2.2.2.1 hc4
        obtain ⟨S, hS⟩ := Int.eq_ofNat_of_zero_le (show 0 ≤ μ 21 n by omega)
        have hSt : (μ 21 n).toNat = S := by omega
        rw [hSt]
        refine ⟨rfl, N, iv_tab h n hn (fun b' b1 b2 => by rw [mo_wg_ne _ _ _ _ b1, sc_wg_ne _ _ _ _ _ _ b2]) (fun k i hk hi => ?_) (fun i hi => ?_) (fun hK r s hr hs => ?_) (fun hK => ?_)⟩
        · rw [mo_wg_tb, if_neg (by omega), if_neg (by omega), if_neg (by omega), sc_wg_ne _ _ _ _ _ _ (by omega)]
        · rw [mo_wg_tb, sc_wg_ne _ _ _ _ _ _ (by omega)]
          split
          · exact ⟨by omega, by omega, fun _ => ⟨by omega, by omega⟩⟩
          · split
            · exact ⟨by omega, by omega, fun _ => ⟨by omega, by omega⟩⟩
            · split
              · exact ⟨by omega, by omega, fun _ => ⟨by omega, by omega⟩⟩
              · exact (h.1.1.2.2.1 n hn).2.2.2.2.2.2.2 i hi
        · have ho := hta r s hr hs
          rw [hSt] at ho ⊢
          rw [mo_wg_tb, sc_wg_ne _ _ _ _ _ _ (by omega), mo_wg_ne _ _ _ _ (by omega), sc_wg_tb]
          have hS3 : S = 2 ∨ S = 3 := by omega
          rcases hS3 with rfl | rfl
          · rw [if_neg (by omega)]
            by_cases c1 : r * 2 + s = q * 2 + 1
            · rw [if_pos c1, if_neg (by omega), if_pos (by omega)]
            · rw [if_neg c1]
              by_cases c2 : r * 2 + s = q * 2
              · rw [if_pos c2, if_neg (by omega), if_neg (by omega), if_pos (by omega)]
              · rw [if_neg c2, if_neg (by omega), if_neg (by omega), if_neg (by omega)]
                exact ho
          · by_cases c0 : r * 3 + s = q * 3 + 2
            · rw [if_pos ⟨rfl, c0⟩, if_pos (by omega)]
            · rw [if_neg (fun k => c0 k.2), if_neg (show ¬ 27 * n + 3 * r + s = 27 * n + 3 * q + 2 by omega)]
              by_cases c1 : r * 3 + s = q * 3 + 1
              · rw [if_pos c1, if_pos (by omega)]
              · rw [if_neg c1, if_neg (show ¬ 27 * n + 3 * r + s = 27 * n + 3 * q + 1 by omega)]
                by_cases c2 : r * 3 + s = q * 3
                · rw [if_pos c2, if_pos (by omega)]
                · rw [if_neg c2, if_neg (by omega)]
                  exact ho
        · omega
      · rw [if_neg hc6] at h1 h2
        obtain ⟨rfl, rfl⟩ := h1
        obtain ⟨rfl, rfl⟩ := h2
        exact ⟨rfl, N, iv_meet h 2 (by omega)⟩
    · rw [if_neg hc4] at h1 h2
      obtain ⟨rfl, rfl⟩ := h1
      obtain ⟨rfl, rfl⟩ := h2
      exact ⟨rfl, N, iv_meet h 3 (by omega)⟩
  · rw [if_neg hc2] at h1 h2
    obtain ⟨rfl, rfl⟩ := h1
    obtain ⟨rfl, rfl⟩ := h2
    exact ⟨rfl, N, h⟩⟩
theorem pr_fill (l : Launch) (G : sc_G) (d e : Nat) (x : Int) (z : Int) (hx : sc_in x) (hz : sc_in z) : iv_pr l G (d + 1) (e + 2) mq_Sc_fill mq_Mo_fill [.inl (x), .inl (z)] := fun μ N h => ⟨_, sp_Sc_fill l G d μ N h.1 h.2.2.1 x z hx hz, fun r1 μ1 h1 => by
  try dsimp only at h1
  have hm : mo_sm μ μ1 := by
    (repeat' split at h1) <;> first | (obtain ⟨-, rfl⟩ := h1; first | exact fun b _ => rfl | exact (fun b hb => by rw [sc_up_ne _ _ _ (by omega), sc_up_ne _ _ _ (by omega)]) | exact fun b hb => sc_wg_ne _ _ _ _ _ _ (by omega) | exact fun b hb => sc_fl_ne _ _ _ _ (by omega) | exact fun b hb => sc_meet_ne _ _ (by omega) (by omega) | exact fun b hb => sc_up_ne _ _ _ (by omega)) | (obtain ⟨-, k⟩ := h1; exact fun b hb => (k b (by omega)).trans (by first | rfl | exact sc_tel_ne _ _ _ (by omega) | exact sc_up_ne _ _ _ (by omega) | exact sc_meet_ne _ _ (by omega) (by omega)))
  have hsc : mo_sc μ1 := by
    (repeat' split at h1) <;> first | (obtain ⟨-, rfl⟩ := h1; first | exact h.2.2.2 | exact mo_sc_cells h.2.2.2 (fun b hb => by rw [sc_up_ne _ _ _ (by omega), sc_up_ne _ _ _ (by omega)]) | exact mo_sc_cells h.2.2.2 (fun b hb => sc_wg_ne _ _ _ _ _ _ (by omega)) | exact mo_sc_cells h.2.2.2 (fun b hb => sc_fl_ne _ _ _ _ (by omega)) | exact mo_sc_cells h.2.2.2 (fun b hb => sc_meet_ne _ _ (by omega) (by omega)) | exact mo_sc_cells h.2.2.2 (fun b hb => sc_up_ne _ _ _ (by omega))) | (obtain ⟨-, k⟩ := h1; exact mo_sc_cells h.2.2.2 (fun b hb => (k b (by omega)).trans (by first | rfl | exact sc_tel_ne _ _ _ (by omega) | exact sc_up_ne _ _ _ (by omega) | exact sc_meet_ne _ _ (by omega) (by omega))))
  have hw := mo_sm_w hm h.1.1
  have h33 : μ1 33 = μ 33 ∧ μ1 34 = μ 34 := by
    (repeat' split at h1) <;> (obtain ⟨-, rfl⟩ := h1) <;> first | exact ⟨rfl, rfl⟩ | exact ⟨sc_meet_ne _ _ (by omega) (by omega), sc_meet_ne _ _ (by omega) (by omega)⟩ | exact ⟨sc_fl_ne _ _ _ _ (by omega), sc_fl_ne _ _ _ _ (by omega)⟩
  refine ⟨_, sp_Mo_fill l G e μ1 N hw x z hx hz (by rw [h33.1]; exact h.2.2.1.1) (by rw [h33.2]; exact h.2.2.1.2.1), fun r2 μ2 h2 => ?_⟩
  try dsimp only at h2
  rw [h33.1] at h2
  rw [hm 20 (by omega), hm 21 (by omega), hm 22 (by omega), hm 23 (by omega)] at h2
  by_cases hc2 : (0 ≤ x ∧ x < (N : Int)) ∧ (0 ≤ z ∧ z ≤ 3)
  · rw [if_pos hc2] at h1 h2
    by_cases hc4 : μ 20 x.toNat = 0
    · rw [if_pos hc4] at h1 h2
      by_cases hc6 : μ 33 z.toNat < 0
      · rw [if_pos hc6] at h1 h2
        obtain ⟨rfl, rfl⟩ := h1
        obtain ⟨rfl, rfl⟩ := h2
        exact ⟨rfl, N, iv_meet h 1 (by omega)⟩
      · rw [if_neg hc6] at h1 h2
        obtain ⟨n, rfl⟩ := Int.eq_ofNat_of_zero_le hc2.1.1
        obtain ⟨q, rfl⟩ := Int.eq_ofNat_of_zero_le hc2.2.1
        rw [Int.toNat_natCast] at hc4 hc6
        rw [Int.toNat_natCast, Int.toNat_natCast] at h1 h2
        have hn : n < N := by omega
        have hby := mo_byb h.1.1 n hn
        have hta := (h.1.2.2.2.1.2.2 n hn).2.2.2.2.2.2.2.2 hc4
        have hta0 := (h.1.1.2.2.1 n hn).2.2.2.2.2.2.2
        have hcb : ∀ c : Int, (c = if mo_by (μ 21) (μ 23) n (μ 22 n).toNat < μ 33 q then mo_by (μ 21) (μ 23) n (μ 22 n).toNat else μ 33 q) → 0 ≤ c ∧ c ≤ 27 := fun c hc => by split at hc <;> omega
        generalize hcc : (if mo_by (μ 21) (μ 23) n (μ 22 n).toNat < μ 33 q then mo_by (μ 21) (μ 23) n (μ 22 n).toNat else μ 33 q) = c at h1 h2 hcb
        have hc27 := hcb c rfl
        clear hcb
        obtain ⟨rfl, rfl⟩ := h1
        obtain ⟨rfl, rfl⟩ := h2
        obtain ⟨C, rfl⟩ := Int.eq_ofNat_of_zero_le hc27.1
        rw [Int.toNat_natCast]
        have e26 : ∀ j, mo_fl (sc_fl μ n (27 * q) C) n (27 * q) C 26 j = if 27 * n ≤ j ∧ j < 27 * n + C then sc_clp (μ 34 (27 * q + (j - 27 * n))) else μ 26 j := fun j => by
          unfold mo_fl
          rw [sc_arr_eq, sc_fl_ne _ _ _ _ (by omega), sc_fl_ne _ _ _ _ (by omega)]
        have et : ∀ j, mo_fl (sc_fl μ n (27 * q) C) n (27 * q) C (42 + 3 * n) j = if j < C then sc_clp (μ 34 (27 * q + j)) else μ (42 + 3 * n) j := fun j => by
          unfold mo_fl sc_fl
          rw [sc_arr_ne _ _ (by omega), sc_arr_eq]
        have hcl : ∀ v, -100 ≤ sc_clp v ∧ sc_clp v ≤ 100 := fun v => by unfold sc_clp; split <;> (try split) <;> omega
        refine ⟨rfl, N, iv_tab h n hn (fun b b1 b2 => by unfold mo_fl; rw [sc_arr_ne _ _ b1, sc_fl_ne _ _ _ _ b2]) (fun k i hk hi => ?_) (fun i hi => ?_) (fun hK => ?_) (fun hK i hi => ?_)⟩
        · rw [e26, if_neg (by omega)]
        · rw [e26]
          split
          · exact ⟨(hcl _).1, (hcl _).2, fun hK => by omega⟩
          · exact hta0 i hi
        · omega
        · rw [e26, et]
          by_cases hiq : i < C
          · rw [if_pos hiq, if_pos (by omega), show 27 * n + i - 27 * n = i by omega]
          · rw [if_neg hiq, if_neg (by omega)]
            exact hta i hi
    · rw [if_neg hc4] at h1 h2
      obtain ⟨rfl, rfl⟩ := h1
      obtain ⟨rfl, rfl⟩ := h2
      exact ⟨rfl, N, iv_meet h 3 (by omega)⟩
  · rw [if_neg hc2] at h1 h2
    obtain ⟨rfl, rfl⟩ := h1
    obtain ⟨rfl, rfl⟩ := h2
    exact ⟨rfl, N, h⟩⟩
