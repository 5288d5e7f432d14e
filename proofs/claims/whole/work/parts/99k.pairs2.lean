theorem pr_weight (l : Launch) (G : sc_G) (d e : Nat) (x : Int) (z : Int) (s : Int) (hx : sc_in x) (hz : sc_in z) (hs : sc_in s) : iv_pr l G (d + 1) (e + 2) mq_Sc_weight mq_Mo_weight [.inl (x), .inl (z), .inl (s)] := fun μ N h => ⟨_, sp_Sc_weight l G d μ N h.1 x z s hx hz hs, fun r1 μ1 h1 => by
  try dsimp only at h1
  have hm : mo_sm μ μ1 := by
    (repeat' split at h1) <;> first | (obtain ⟨-, rfl⟩ := h1; first | exact fun b _ => rfl | exact fun b hb => sc_meet_ne _ _ (by omega) (by omega) | exact fun b hb => sc_up_ne _ _ _ (by omega)) | (obtain ⟨-, k⟩ := h1; exact fun b hb => (k b (by omega)).trans (by first | rfl | exact sc_tel_ne _ _ _ (by omega) | exact sc_up_ne _ _ _ (by omega) | exact sc_meet_ne _ _ (by omega) (by omega)))
  have hsc : mo_sc μ1 := by
    (repeat' split at h1) <;> first | (obtain ⟨-, rfl⟩ := h1; first | exact h.2.2.2 | exact mo_sc_cells h.2.2.2 (fun b hb => sc_meet_ne _ _ (by omega) (by omega)) | exact mo_sc_cells h.2.2.2 (fun b hb => sc_up_ne _ _ _ (by omega))) | (obtain ⟨-, k⟩ := h1; exact mo_sc_cells h.2.2.2 (fun b hb => (k b (by omega)).trans (by first | rfl | exact sc_tel_ne _ _ _ (by omega) | exact sc_up_ne _ _ _ (by omega) | exact sc_meet_ne _ _ (by omega) (by omega))))
  have hw := mo_sm_w hm h.1.1
  refine ⟨_, sp_Mo_weight l G e μ1 N hw x z s hx hz hs, fun r2 μ2 h2 => ?_⟩
  try dsimp only at h2
  rw [hm 20 (by omega), hm 21 (by omega), hm 22 (by omega), hm 23 (by omega), hm 26 (by omega)] at h2
  by_cases hc2 : 0 ≤ x ∧ x < (N : Int)
  · rw [if_pos hc2] at h1 h2
    by_cases hc4 : μ 20 x.toNat = 1
    · rw [if_pos hc4] at h1 h2
      by_cases hc6 : (0 ≤ z ∧ z < mo_by (μ 21) (μ 23) x.toNat (μ 22 x.toNat).toNat) ∧ (0 ≤ s ∧ s < μ 21 x.toNat)
      · rw [if_pos hc6] at h1 h2
        obtain ⟨rfl, rfl⟩ := h1
        obtain ⟨rfl, rfl⟩ := h2
        exact ⟨rfl, N, h⟩
      · rw [if_neg hc6] at h1 h2
        obtain ⟨rfl, rfl⟩ := h1
        obtain ⟨rfl, rfl⟩ := h2
        exact ⟨rfl, N, iv_meet h 2 (by omega)⟩
    · rw [if_neg hc4] at h1 h2
      obtain ⟨rfl, rfl⟩ := h1
      obtain ⟨rfl, rfl⟩ := h2
      exact ⟨rfl, N, iv_meet h 3 (by omega)⟩
  · rw [if_neg hc2] at h1 h2
    obtain ⟨rfl, rfl⟩ := h1
    obtain ⟨rfl, rfl⟩ := h2
    exact ⟨rfl, N, h⟩⟩
theorem pr_mean (l : Launch) (G : sc_G) (d e : Nat) (x : Int) (hx : sc_in x) : iv_pr l G (d + 1) (e + 2) mq_Sc_mean mq_Mo_mean [.inl (x)] := fun μ N h => ⟨_, sp_Sc_mean l G d μ N h.1 x hx, fun r1 μ1 h1 => by
  try dsimp only at h1
  have hm : mo_sm μ μ1 := by
    (repeat' split at h1) <;> first | (obtain ⟨-, rfl⟩ := h1; first | exact fun b _ => rfl | exact fun b hb => sc_meet_ne _ _ (by omega) (by omega) | exact fun b hb => sc_up_ne _ _ _ (by omega)) | (obtain ⟨-, k⟩ := h1; exact fun b hb => (k b (by omega)).trans (by first | rfl | exact sc_tel_ne _ _ _ (by omega) | exact sc_up_ne _ _ _ (by omega) | exact sc_meet_ne _ _ (by omega) (by omega)))
  have hsc : mo_sc μ1 := by
    (repeat' split at h1) <;> first | (obtain ⟨-, rfl⟩ := h1; first | exact h.2.2.2 | exact mo_sc_cells h.2.2.2 (fun b hb => sc_meet_ne _ _ (by omega) (by omega)) | exact mo_sc_cells h.2.2.2 (fun b hb => sc_up_ne _ _ _ (by omega))) | (obtain ⟨-, k⟩ := h1; exact mo_sc_cells h.2.2.2 (fun b hb => (k b (by omega)).trans (by first | rfl | exact sc_tel_ne _ _ _ (by omega) | exact sc_up_ne _ _ _ (by omega) | exact sc_meet_ne _ _ (by omega) (by omega))))
  have hw := mo_sm_w hm h.1.1
  refine ⟨_, sp_Mo_mean l G e μ1 N hw x hx, fun r2 μ2 h2 => ?_⟩
  try dsimp only at h2
  rw [hm 20 (by omega), hm 21 (by omega), hm 22 (by omega), hm 23 (by omega), hm 26 (by omega)] at h2
  by_cases hc2 : 0 ≤ x ∧ x < (N : Int)
  · rw [if_pos hc2] at h1 h2
    by_cases hc4 : μ 20 x.toNat = 0
    · rw [if_pos hc4] at h1 h2
      obtain ⟨rfl, rfl⟩ := h1
      obtain ⟨rfl, rfl⟩ := h2
      exact ⟨rfl, N, iv_ask h _ (fun _ _ => rfl) (fun _ _ => rfl) (mo_sc_up hsc _ _ (by decide) (by decide) (by decide))⟩
    · rw [if_neg hc4] at h1 h2
      obtain ⟨rfl, rfl⟩ := h1
      obtain ⟨rfl, rfl⟩ := h2
      exact ⟨rfl, N, iv_meet h 3 (by omega)⟩
  · rw [if_neg hc2] at h1 h2
    obtain ⟨rfl, rfl⟩ := h1
    obtain ⟨rfl, rfl⟩ := h2
    exact ⟨rfl, N, h⟩⟩
theorem pr_inHand (l : Launch) (G : sc_G) (d e : Nat) (x : Int) (hx : sc_in x) : iv_pr l G (d + 8) (e + 5) mq_Sc_inHand mq_Mo_inHand [.inl (x)] := fun μ N h => ⟨_, sp_Sc_inHand l G d μ N h.1 x hx, fun r1 μ1 h1 => by
  try dsimp only at h1
  have hm : mo_sm μ μ1 := by
    (repeat' split at h1) <;> first | (obtain ⟨-, rfl⟩ := h1; first | exact fun b _ => rfl | exact fun b hb => sc_meet_ne _ _ (by omega) (by omega) | exact fun b hb => sc_up_ne _ _ _ (by omega)) | (obtain ⟨-, k⟩ := h1; exact fun b hb => (k b (by omega)).trans (by first | rfl | exact sc_tel_ne _ _ _ (by omega) | exact sc_up_ne _ _ _ (by omega) | exact sc_meet_ne _ _ (by omega) (by omega)))
  have hsc : mo_sc μ1 := by
    (repeat' split at h1) <;> first | (obtain ⟨-, rfl⟩ := h1; first | exact h.2.2.2 | exact mo_sc_cells h.2.2.2 (fun b hb => sc_meet_ne _ _ (by omega) (by omega)) | exact mo_sc_cells h.2.2.2 (fun b hb => sc_up_ne _ _ _ (by omega))) | (obtain ⟨-, k⟩ := h1; exact mo_sc_cells h.2.2.2 (fun b hb => (k b (by omega)).trans (by first | rfl | exact sc_tel_ne _ _ _ (by omega) | exact sc_up_ne _ _ _ (by omega) | exact sc_meet_ne _ _ (by omega) (by omega))))
  have hw := mo_sm_w hm h.1.1
  have hs2 : mo_sm (sc_up μ 18 13 x) (sc_up μ1 18 13 x) := fun b hb => by funext j; simp only [sc_up, hm b hb]
  refine ⟨_, sp_Mo_inHand l G e μ1 N hw hsc (na_sd μ N) (by rw [hm 20 (by omega), hm 21 (by omega)]; exact iv_W h.1.1) (by rw [hm 18 (by omega)]; exact h.1.2.2.1) x hx, fun r2 μ2 h2 => ?_⟩
  try dsimp only at h2
  rw [hm 20 (by omega), md_best_sm hm, md_best_sm hs2, hm 18 (by omega)] at h2
  by_cases hc2 : 0 ≤ x ∧ x < (N : Int)
  · rw [if_pos hc2] at h1 h2
    by_cases hc4 : μ 20 x.toNat = 1
    · rw [if_pos hc4] at h1 h2
      obtain ⟨rfl, k1⟩ := h1
      obtain ⟨rfl, k2, s2⟩ := h2
      exact ⟨rfl, N, iv_tel h _ _ k1 (mo_kq_kp k2) s2⟩
    · rw [if_neg hc4] at h1 h2
      obtain ⟨rfl, rfl⟩ := h1
      obtain ⟨rfl, rfl⟩ := h2
      exact ⟨rfl, N, iv_meet h 3 (by omega)⟩
  · rw [if_neg hc2] at h1 h2
    obtain ⟨rfl, rfl⟩ := h1
    obtain ⟨rfl, rfl⟩ := h2
    exact ⟨rfl, N, h⟩⟩
theorem pr_worthOf (l : Launch) (G : sc_G) (d e : Nat) (x : Int) (z : Int) (hx : sc_in x) (hz : sc_in z) : iv_pr l G (d + 8) (e + 5) mq_Sc_worthOf mq_Mo_worthOf [.inl (x), .inl (z)] := fun μ N h => ⟨_, sp_Sc_worthOf l G d μ N h.1 x z hx hz, fun r1 μ1 h1 => by
  try dsimp only at h1
  have hm : mo_sm μ μ1 := by
    (repeat' split at h1) <;> first | (obtain ⟨-, rfl⟩ := h1; first | exact fun b _ => rfl | exact fun b hb => sc_meet_ne _ _ (by omega) (by omega) | exact fun b hb => sc_up_ne _ _ _ (by omega)) | (obtain ⟨-, k⟩ := h1; exact fun b hb => (k b (by omega)).trans (by first | rfl | exact sc_tel_ne _ _ _ (by omega) | exact sc_up_ne _ _ _ (by omega) | exact sc_meet_ne _ _ (by omega) (by omega)))
  have hsc : mo_sc μ1 := by
    (repeat' split at h1) <;> first | (obtain ⟨-, rfl⟩ := h1; first | exact h.2.2.2 | exact mo_sc_cells h.2.2.2 (fun b hb => sc_meet_ne _ _ (by omega) (by omega)) | exact mo_sc_cells h.2.2.2 (fun b hb => sc_up_ne _ _ _ (by omega))) | (obtain ⟨-, k⟩ := h1; exact mo_sc_cells h.2.2.2 (fun b hb => (k b (by omega)).trans (by first | rfl | exact sc_tel_ne _ _ _ (by omega) | exact sc_up_ne _ _ _ (by omega) | exact sc_meet_ne _ _ (by omega) (by omega))))
  have hw := mo_sm_w hm h.1.1
  have hs2 : mo_sm (sc_up μ 24 x.toNat (sc_bor (μ 24 x.toNat) (sc_bshl 1 z))) (sc_up μ1 24 x.toNat (sc_bor (μ 24 x.toNat) (sc_bshl 1 z))) := fun b hb => by funext j; simp only [sc_up, hm b hb]
  refine ⟨_, sp_Mo_worthOf l G e μ1 N hw hsc (na_sd μ N) (by rw [hm 20 (by omega), hm 21 (by omega)]; exact iv_W h.1.1) x z hx hz, fun r2 μ2 h2 => ?_⟩
  try dsimp only at h2
  rw [hm 20 (by omega), hm 24 (by omega), md_best_sm hm, md_best_sm hs2, hm 18 (by omega)] at h2
  by_cases hc2 : 0 ≤ x ∧ x < (N : Int) ∧ 0 ≤ z ∧ z < x
  · rw [if_pos hc2] at h1 h2
    by_cases hc4 : μ 20 x.toNat = 2 ∧ μ 20 z.toNat = 1
    · rw [if_pos hc4] at h1 h2
      by_cases hc6 : sc_band (sc_bshr (μ 24 x.toNat) z) 1 = 1
      · rw [if_pos hc6] at h1 h2
        obtain ⟨rfl, rfl⟩ := h1
        obtain ⟨rfl, rfl⟩ := h2
        exact ⟨rfl, N, h⟩
      · rw [if_neg hc6] at h1 h2
        obtain ⟨rfl, k1⟩ := h1
        obtain ⟨rfl, k2, s2⟩ := h2
        exact ⟨rfl, N, iv_tel h _ _ k1 (mo_kq_kp k2) s2⟩
    · rw [if_neg hc4] at h1 h2
      obtain ⟨rfl, rfl⟩ := h1
      obtain ⟨rfl, rfl⟩ := h2
      exact ⟨rfl, N, iv_meet h 3 (by omega)⟩
  · rw [if_neg hc2] at h1 h2
    obtain ⟨rfl, rfl⟩ := h1
    obtain ⟨rfl, rfl⟩ := h2
    exact ⟨rfl, N, h⟩⟩
theorem pr_needless (l : Launch) (G : sc_G) (d e : Nat) (x : Int) (z : Int) (hx : sc_in x) (hz : sc_in z) : iv_pr l G (d + 8) (e + 5) mq_Sc_needless mq_Mo_needless [.inl (x), .inl (z)] := fun μ N h => ⟨_, sp_Sc_needless l G d μ N h.1 x z hx hz, fun r1 μ1 h1 => by
  try dsimp only at h1
  have hm : mo_sm μ μ1 := by
    (repeat' split at h1) <;> first | (obtain ⟨-, rfl⟩ := h1; first | exact fun b _ => rfl | exact fun b hb => sc_meet_ne _ _ (by omega) (by omega) | exact fun b hb => sc_up_ne _ _ _ (by omega)) | (obtain ⟨-, k⟩ := h1; exact fun b hb => (k b (by omega)).trans (by first | rfl | exact sc_tel_ne _ _ _ (by omega) | exact sc_up_ne _ _ _ (by omega) | exact sc_meet_ne _ _ (by omega) (by omega)))
  have hsc : mo_sc μ1 := by
    (repeat' split at h1) <;> first | (obtain ⟨-, rfl⟩ := h1; first | exact h.2.2.2 | exact mo_sc_cells h.2.2.2 (fun b hb => sc_meet_ne _ _ (by omega) (by omega)) | exact mo_sc_cells h.2.2.2 (fun b hb => sc_up_ne _ _ _ (by omega))) | (obtain ⟨-, k⟩ := h1; exact mo_sc_cells h.2.2.2 (fun b hb => (k b (by omega)).trans (by first | rfl | exact sc_tel_ne _ _ _ (by omega) | exact sc_up_ne _ _ _ (by omega) | exact sc_meet_ne _ _ (by omega) (by omega))))
  have hw := mo_sm_w hm h.1.1
  have hs2 : mo_sm (sc_up μ 24 x.toNat (sc_band (μ 24 x.toNat) (sc_bxor (sc_bshl 1 z) (-1)))) (sc_up μ1 24 x.toNat (sc_band (μ 24 x.toNat) (sc_bxor (sc_bshl 1 z) (-1)))) := fun b hb => by funext j; simp only [sc_up, hm b hb]
  refine ⟨_, sp_Mo_needless l G e μ1 N hw hsc (na_sd μ N) (by rw [hm 20 (by omega), hm 21 (by omega)]; exact iv_W h.1.1) x z hx hz, fun r2 μ2 h2 => ?_⟩
  try dsimp only at h2
  rw [hm 20 (by omega), hm 24 (by omega), md_best_sm hm, md_best_sm hs2] at h2
  by_cases hc2 : 0 ≤ x ∧ x < (N : Int) ∧ 0 ≤ z ∧ z < (N : Int)
  · rw [if_pos hc2] at h1 h2
    by_cases hc4 : μ 20 x.toNat = 2
    · rw [if_pos hc4] at h1 h2
      by_cases hc6 : sc_band (sc_bshr (μ 24 x.toNat) z) 1 = 1
      · rw [if_pos hc6] at h1 h2
        obtain ⟨rfl, k1⟩ := h1
        obtain ⟨rfl, k2, s2⟩ := h2
        exact ⟨rfl, N, iv_kp h k1 (mo_kq_kp k2) s2⟩
      · rw [if_neg hc6] at h1 h2
        obtain ⟨rfl, rfl⟩ := h1
        obtain ⟨rfl, rfl⟩ := h2
        exact ⟨rfl, N, h⟩
    · rw [if_neg hc4] at h1 h2
      obtain ⟨rfl, rfl⟩ := h1
      obtain ⟨rfl, rfl⟩ := h2
      exact ⟨rfl, N, iv_meet h 3 (by omega)⟩
  · rw [if_neg hc2] at h1 h2
    obtain ⟨rfl, rfl⟩ := h1
    obtain ⟨rfl, rfl⟩ := h2
    exact ⟨rfl, N, h⟩⟩
theorem pr_chance (l : Launch) (G : sc_G) (d e : Nat) (x : Int) (s : Int) (hx : sc_in x) (hs : sc_in s) : iv_pr l G (d + 6) (e + 4) mq_Sc_chance mq_Mo_chance [.inl (x), .inl (s)] := fun μ N h => ⟨_, sp_Sc_chance l G d μ N h.1 x s hx hs, fun r1 μ1 h1 => by
  try dsimp only at h1
  have hm : mo_sm μ μ1 := by
    (repeat' split at h1) <;> first | (obtain ⟨-, rfl⟩ := h1; first | exact fun b _ => rfl | exact fun b hb => sc_meet_ne _ _ (by omega) (by omega) | exact fun b hb => sc_up_ne _ _ _ (by omega)) | (obtain ⟨-, k⟩ := h1; exact fun b hb => (k b (by omega)).trans (by first | rfl | exact sc_tel_ne _ _ _ (by omega) | exact sc_up_ne _ _ _ (by omega) | exact sc_meet_ne _ _ (by omega) (by omega)))
  have hsc : mo_sc μ1 := by
    (repeat' split at h1) <;> first | (obtain ⟨-, rfl⟩ := h1; first | exact h.2.2.2 | exact mo_sc_cells h.2.2.2 (fun b hb => sc_meet_ne _ _ (by omega) (by omega)) | exact mo_sc_cells h.2.2.2 (fun b hb => sc_up_ne _ _ _ (by omega))) | (obtain ⟨-, k⟩ := h1; exact mo_sc_cells h.2.2.2 (fun b hb => (k b (by omega)).trans (by first | rfl | exact sc_tel_ne _ _ _ (by omega) | exact sc_up_ne _ _ _ (by omega) | exact sc_meet_ne _ _ (by omega) (by omega))))
  have hw := mo_sm_w hm h.1.1
  refine ⟨_, sp_Mo_chance l G e μ1 N hw hsc (na_sd μ N) (by rw [hm 20 (by omega), hm 21 (by omega)]; exact iv_W h.1.1) x s hx hs, fun r2 μ2 h2 => ?_⟩
  try dsimp only at h2
  rw [hm 20 (by omega), hm 21 (by omega), md_dg_sm hm, md_cm_sm hm, md_kn_sm hm, md_PL_sm hm, md_wt_sm hm, hm 18 (by omega)] at h2
  by_cases hc2 : 0 ≤ x ∧ x < (N : Int)
  · rw [if_pos hc2] at h1 h2
    by_cases hc4 : μ 20 x.toNat = 0
    · rw [if_pos hc4] at h1 h2
      obtain ⟨rfl, rfl⟩ := h1
      obtain ⟨rfl, rfl⟩ := h2
      exact ⟨rfl, N, iv_meet h 3 (by omega)⟩
    · rw [if_neg hc4] at h1 h2
      by_cases hc6 : 0 ≤ s ∧ s < μ 21 x.toNat
      · rw [if_pos hc6] at h1 h2
        obtain ⟨rfl, k1⟩ := h1
        obtain ⟨rfl, k2, s2⟩ := h2
        exact ⟨rfl, N, iv_tel h _ _ k1 (mo_kq_kp k2) s2⟩
      · rw [if_neg hc6] at h1 h2
        obtain ⟨rfl, rfl⟩ := h1
        obtain ⟨rfl, rfl⟩ := h2
        exact ⟨rfl, N, iv_meet h 2 (by omega)⟩
  · rw [if_neg hc2] at h1 h2
    obtain ⟨rfl, rfl⟩ := h1
    obtain ⟨rfl, rfl⟩ := h2
    exact ⟨rfl, N, h⟩⟩
theorem pr_mark (l : Launch) (G : sc_G) (d e : Nat) (x : Int) (k : Int) (hx : sc_in x) (hk : sc_in k) : iv_pr l G (d + 2) (e + 2) mq_Sc_mark mq_Mo_mark [.inl (x), .inl (k)] := fun μ N h => ⟨_, sp_Sc_mark l G d μ N h.1 x k hx hk, fun r1 μ1 h1 => by
  try dsimp only at h1
  have hm : mo_sm μ μ1 := by
    (repeat' split at h1) <;> first | (obtain ⟨-, rfl⟩ := h1; first | exact fun b _ => rfl | exact fun b hb => sc_meet_ne _ _ (by omega) (by omega) | exact fun b hb => sc_up_ne _ _ _ (by omega)) | (obtain ⟨-, k⟩ := h1; exact fun b hb => (k b (by omega)).trans (by first | rfl | exact sc_tel_ne _ _ _ (by omega) | exact sc_up_ne _ _ _ (by omega) | exact sc_meet_ne _ _ (by omega) (by omega)))
  have hsc : mo_sc μ1 := by
    (repeat' split at h1) <;> first | (obtain ⟨-, rfl⟩ := h1; first | exact h.2.2.2 | exact mo_sc_cells h.2.2.2 (fun b hb => sc_meet_ne _ _ (by omega) (by omega)) | exact mo_sc_cells h.2.2.2 (fun b hb => sc_up_ne _ _ _ (by omega))) | (obtain ⟨-, k⟩ := h1; exact mo_sc_cells h.2.2.2 (fun b hb => (k b (by omega)).trans (by first | rfl | exact sc_tel_ne _ _ _ (by omega) | exact sc_up_ne _ _ _ (by omega) | exact sc_meet_ne _ _ (by omega) (by omega))))
  have hw := mo_sm_w hm h.1.1
  have hmk : mo_mk μ1 = mo_mk μ := by funext a b c; unfold mo_mk; rw [hm 22 (by omega), hm 23 (by omega), hm 24 (by omega)]
  refine ⟨_, sp_Mo_mark l G e μ1 N hw x k hx hk, fun r2 μ2 h2 => ?_⟩
  try dsimp only at h2
  rw [hm 20 (by omega), hm 25 (by omega), hmk] at h2
  by_cases hc2 : (0 ≤ x ∧ x < (N : Int)) ∧ (1 ≤ k ∧ k ≤ 3)
  · rw [if_pos hc2] at h1 h2
    by_cases hc4 : (if μ 20 x.toNat = 2 ∧ 0 ≤ μ 25 x.toNat then (3 : Int) else μ 20 x.toNat) = k ∨ (k = 2 ∧ μ 20 x.toNat = 2)
    · rw [if_pos hc4] at h1 h2
      obtain ⟨rfl, rfl⟩ := h1
      obtain ⟨rfl, rfl⟩ := h2
      exact ⟨rfl, N, h⟩
    · rw [if_neg hc4] at h1 h2
      obtain ⟨rfl, rfl⟩ := h1
      obtain ⟨rfl, rfl⟩ := h2
      exact ⟨rfl, N, iv_meet h 3 (by omega)⟩
  · rw [if_neg hc2] at h1 h2
    obtain ⟨rfl, rfl⟩ := h1
    obtain ⟨rfl, rfl⟩ := h2
    exact ⟨rfl, N, h⟩⟩
