theorem pr_span (l : Launch) (G : sc_G) (d e : Nat) (x : Int) (z : Int) (hi : Int) (hx : sc_in x) (hz : sc_in z) (hhi : sc_in hi) : iv_pr l G (d + 6) (e + 5) mq_Sc_span mq_Mo_span [.inl (x), .inl (z), .inl (hi)] := fun μ N h => ⟨_, sp_Sc_span l G d μ N h.1 x z hi hx hz hhi, fun r1 μ1 h1 => by
  try dsimp only at h1
  have hm : mo_sm μ μ1 := by
    (repeat' split at h1) <;> first | (obtain ⟨-, rfl⟩ := h1; first | exact fun b _ => rfl | exact fun b hb => sc_meet_ne _ _ (by omega) (by omega) | exact fun b hb => sc_up_ne _ _ _ (by omega)) | (obtain ⟨-, k⟩ := h1; exact fun b hb => (k b (by omega)).trans (by first | rfl | exact sc_tel_ne _ _ _ (by omega) | exact sc_up_ne _ _ _ (by omega) | exact sc_meet_ne _ _ (by omega) (by omega)))
  have hsc : mo_sc μ1 := by
    (repeat' split at h1) <;> first | (obtain ⟨-, rfl⟩ := h1; first | exact h.2.2.2 | exact mo_sc_cells h.2.2.2 (fun b hb => sc_meet_ne _ _ (by omega) (by omega)) | exact mo_sc_cells h.2.2.2 (fun b hb => sc_up_ne _ _ _ (by omega))) | (obtain ⟨-, k⟩ := h1; exact mo_sc_cells h.2.2.2 (fun b hb => (k b (by omega)).trans (by first | rfl | exact sc_tel_ne _ _ _ (by omega) | exact sc_up_ne _ _ _ (by omega) | exact sc_meet_ne _ _ (by omega) (by omega))))
  have hw := mo_sm_w hm h.1.1
  have hff : mo_ff μ1 N N = mo_ff μ N N := by
    have : ∀ j, mo_ff μ1 N j = mo_ff μ N j := fun j => by
      induction j with
      | zero => rfl
      | succ j ih => rw [mo_ff, mo_ff, ih, hm 20 (by omega), hm 25 (by omega)]
    exact this N
  have hfd : ∀ c, (fun v => md_fd (sc_up μ1 26 (27 * x.toNat + z.toNat) v) N (na_sd μ N) c) = (fun v => md_fd (sc_up μ 26 (27 * x.toNat + z.toNat) v) N (na_sd μ N) c) := fun c => by
    funext v
    exact md_fd_sm (fun b hb => by funext j; simp only [sc_up, hm b hb]) N (na_sd μ N) c
  have hF : mo_fF μ1 N := fun k hk h0 => by
    rw [hm 25 (by omega)] at h0
    have := h.1.2.1.1 k hk
    rw [hm 20 (by omega), hm 21 (by omega), hm 25 (by omega)]
    omega
  refine ⟨_, sp_Mo_span l G e μ1 N hw hsc (na_sd μ N) (by rw [hm 20 (by omega), hm 21 (by omega)]; exact iv_W h.1.1) hF x z hi hx hz hhi, fun r2 μ2 h2 => ?_⟩
  try dsimp only at h2
  rw [hm 20 (by omega), hm 21 (by omega), hm 22 (by omega), hm 23 (by omega), hff, hfd, md_fd_sm hm, hm 26 (by omega)] at h2
  by_cases hc2 : 0 ≤ x ∧ x < (N : Int)
  · rw [if_pos hc2] at h1 h2
    by_cases hc4 : μ 20 x.toNat = 0
    · rw [if_pos hc4] at h1 h2
      by_cases hc6 : 0 ≤ z ∧ z < mo_by (μ 21) (μ 23) x.toNat (μ 22 x.toNat).toNat
      · rw [if_pos hc6] at h1 h2
        by_cases hc8 : mo_ff μ N N = N
        · rw [if_pos hc8] at h1 h2
          obtain ⟨rfl, rfl⟩ := h1
          obtain ⟨rfl, rfl⟩ := h2
          exact ⟨rfl, N, h⟩
        · rw [if_neg hc8] at h1 h2
          obtain ⟨rfl, k1⟩ := h1
          obtain ⟨rfl, k2, s2⟩ := h2
          exact ⟨rfl, N, iv_ask h _ k1 (mo_kq_kp k2) s2⟩
      · rw [if_neg hc6] at h1 h2
        obtain ⟨rfl, rfl⟩ := h1
        obtain ⟨rfl, rfl⟩ := h2
        exact ⟨rfl, N, iv_meet h 2 (by omega)⟩
    · rw [if_neg hc4] at h1 h2
      obtain ⟨rfl, rfl⟩ := h1
      obtain ⟨rfl, rfl⟩ := h2
      exact ⟨rfl, N, iv_meet h 3 (by omega)⟩
  · rw [if_neg hc2] at h1 h2
    obtain ⟨rfl, rfl⟩ := h1
    obtain ⟨rfl, rfl⟩ := h2
    exact ⟨rfl, N, h⟩⟩
theorem pr_meanSights (l : Launch) (G : sc_G) (d e : Nat) : iv_pr l G (d + 1) (e + 1) mq_Sc_meanSights mq_Mo_meanSights [] := fun μ N h => ⟨_, sp_Sc_meanSights l G d μ N h.1, fun r1 μ1 h1 => by
  try dsimp only at h1
  have hm : mo_sm μ μ1 := by
    (repeat' split at h1) <;> first | (obtain ⟨-, rfl⟩ := h1; first | exact fun b _ => rfl | exact fun b hb => sc_meet_ne _ _ (by omega) (by omega) | exact fun b hb => sc_up_ne _ _ _ (by omega)) | (obtain ⟨-, k⟩ := h1; exact fun b hb => (k b (by omega)).trans (by first | rfl | exact sc_tel_ne _ _ _ (by omega) | exact sc_up_ne _ _ _ (by omega) | exact sc_meet_ne _ _ (by omega) (by omega)))
  have hsc : mo_sc μ1 := by
    (repeat' split at h1) <;> first | (obtain ⟨-, rfl⟩ := h1; first | exact h.2.2.2 | exact mo_sc_cells h.2.2.2 (fun b hb => sc_meet_ne _ _ (by omega) (by omega)) | exact mo_sc_cells h.2.2.2 (fun b hb => sc_up_ne _ _ _ (by omega))) | (obtain ⟨-, k⟩ := h1; exact mo_sc_cells h.2.2.2 (fun b hb => (k b (by omega)).trans (by first | rfl | exact sc_tel_ne _ _ _ (by omega) | exact sc_up_ne _ _ _ (by omega) | exact sc_meet_ne _ _ (by omega) (by omega))))
  have hw := mo_sm_w hm h.1.1
  refine ⟨_, sp_Mo_meanSights l G e μ1 N hw, fun r2 μ2 h2 => ?_⟩
  try dsimp only at h2
  rw [hm 20 (by omega), hm 24 (by omega)] at h2
  by_cases hc : mo_ct (μ 20) 2 N = 0
  · rw [if_pos hc] at h1 h2
    obtain ⟨rfl, rfl⟩ := h1
    obtain ⟨rfl, rfl⟩ := h2
    exact ⟨rfl, N, iv_meet h 4 (by omega)⟩
  · rw [if_neg hc] at h1 h2
    obtain ⟨rfl, rfl⟩ := h1
    obtain ⟨rfl, rfl⟩ := h2
    exact ⟨rfl, N, h⟩⟩
theorem pr_does (l : Launch) (G : sc_G) (d e : Nat) (x z : Int) (hx : sc_in x) (hz : sc_in z) : iv_pr l G (d + 5) (e + 4) mq_Sc_does mq_Mo_does [.inl (x), .inl (z)] := fun μ N h => ⟨_, sp_Sc_does l G d μ N h.1 h.2.2.1 x z hx hz, fun r1 μ1 h1 => by
  try dsimp only at h1
  have hm : mo_sm μ μ1 := by
    (repeat' split at h1) <;> first | (obtain ⟨-, rfl⟩ := h1; first | exact fun b _ => rfl | exact fun b hb => sc_meet_ne _ _ (by omega) (by omega) | exact fun b hb => sc_up_ne _ _ _ (by omega)) | (obtain ⟨-, k⟩ := h1; exact fun b hb => (k b (by omega)).trans (by first | rfl | exact sc_tel_ne _ _ _ (by omega) | exact sc_up_ne _ _ _ (by omega) | exact sc_meet_ne _ _ (by omega) (by omega)))
  have hsc : mo_sc μ1 := by
    (repeat' split at h1) <;> first | (obtain ⟨-, rfl⟩ := h1; first | exact h.2.2.2 | exact mo_sc_cells h.2.2.2 (fun b hb => sc_meet_ne _ _ (by omega) (by omega)) | exact mo_sc_cells h.2.2.2 (fun b hb => sc_up_ne _ _ _ (by omega))) | (obtain ⟨-, k⟩ := h1; exact mo_sc_cells h.2.2.2 (fun b hb => (k b (by omega)).trans (by first | rfl | exact sc_tel_ne _ _ _ (by omega) | exact sc_up_ne _ _ _ (by omega) | exact sc_meet_ne _ _ (by omega) (by omega))))
  have hw := mo_sm_w hm h.1.1
  have hmr : μ1 33 = μ 33 ∧ μ1 34 = μ 34 := by
    (repeat' split at h1) <;> first | (obtain ⟨-, rfl⟩ := h1; first | exact ⟨rfl, rfl⟩ | exact ⟨sc_meet_ne _ _ (by omega) (by omega), sc_meet_ne _ _ (by omega) (by omega)⟩) | (obtain ⟨-, k⟩ := h1; exact ⟨(k 33 (by omega)).trans (by first | rfl | exact sc_meet_ne _ _ (by omega) (by omega)), (k 34 (by omega)).trans (by first | rfl | exact sc_meet_ne _ _ (by omega) (by omega))⟩)
  refine ⟨_, sp_Mo_does l G e μ1 N hw hsc (na_sd μ N) (by rw [hm 20 (by omega), hm 21 (by omega)]; exact iv_W h.1.1) (by rw [hmr.1]; exact h.2.2.1.1) (by rw [hmr.2]; exact h.2.2.1.2.1) x z hx hz, fun r2 μ2 h2 => ?_⟩
  try dsimp only at h2
  have hdo : ∀ c f, md_do μ1 N (na_sd μ N) c f = md_do μ N (na_sd μ N) c f := fun c f => by
    unfold md_do
    rw [hm 25 (by omega), hm 20 (by omega), hm 21 (by omega), md_PL_sm hm, md_kn_sm hm]
  rw [hm 20 (by omega), hm 21 (by omega), hmr.1, hmr.2, md_kn_sm hm, hdo] at h2
  by_cases c1 : (0 ≤ x ∧ x < (N : Int)) ∧ (0 ≤ z ∧ z ≤ 3)
  · rw [if_pos c1] at h1 h2
    by_cases c2 : μ 20 x.toNat = 2
    · rw [if_pos c2] at h1 h2
      by_cases c3 : μ 33 z.toNat < 0
      · rw [if_pos c3] at h1 h2
        obtain ⟨rfl, rfl⟩ := h1
        obtain ⟨rfl, rfl⟩ := h2
        exact ⟨rfl, N, iv_meet h 1 (by omega)⟩
      · rw [if_neg c3] at h1 h2
        by_cases c4 : μ 33 z.toNat < x
        · rw [if_pos c4] at h1 h2
          obtain ⟨rfl, rfl⟩ := h1
          obtain ⟨rfl, rfl⟩ := h2
          exact ⟨rfl, N, iv_meet h 5 (by omega)⟩
        · rw [if_neg c4] at h1 h2
          by_cases c5 : mo_th (md_kn μ x.toNat) (μ 21) (fun k => μ 34 (27 * z.toNat + k)) N = true
          · rw [if_pos c5] at h1 h2
            obtain ⟨rfl, k1⟩ := h1
            obtain ⟨rfl, k2, s2⟩ := h2
            exact ⟨rfl, N, iv_kp h k1 (mo_kq_kp k2) s2⟩
          · rw [if_neg c5] at h1 h2
            obtain ⟨rfl, k1⟩ := h1
            obtain ⟨rfl, rfl⟩ := h2
            exact ⟨rfl, N, iv_meet_kp h 2 (by omega) k1⟩
    · rw [if_neg c2] at h1 h2
      obtain ⟨rfl, rfl⟩ := h1
      obtain ⟨rfl, rfl⟩ := h2
      exact ⟨rfl, N, iv_meet h 3 (by omega)⟩
  · rw [if_neg c1] at h1 h2
    obtain ⟨rfl, rfl⟩ := h1
    obtain ⟨rfl, rfl⟩ := h2
    exact ⟨rfl, N, h⟩⟩
