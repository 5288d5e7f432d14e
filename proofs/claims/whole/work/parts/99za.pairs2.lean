/-! THE PAIRS, with the kind of their answer -/
def iv_I (r : sc_V) : Prop := ∃ x : Int, r = .inl x
def iv_J (r : sc_V) : Prop := ∃ x : Int, r = .inr (.inl x)
def iv_pi (T : sc_V → Prop) (l : Launch) (G : sc_G) (dc dm : Nat) (yc ym : sc_Q) (args : List sc_V) : Prop := ∀ (μ : sc_M) (N : Nat), iv_ok μ N → ∃ P1, sc_Sp l G dc yc (.inr (.inr (.inl (0))) :: args) μ P1 ∧ ∀ r1 μ1, P1 r1 μ1 → ∃ P2, sc_Sp l G dm ym (.inr (.inr (.inl (18))) :: args) μ1 P2 ∧ ∀ r2 μ2, P2 r2 μ2 → r1 = r2 ∧ T r1 ∧ ∃ N', iv_ok μ2 N'
theorem pi_asked (l : Launch) (G : sc_G) (d e : Nat) : iv_pi iv_I l G d e mq_Sc_asked mq_Mo_asked [] := fun μ N h => ⟨_, sp_Sc_asked l G d μ, fun r1 μ1 h1 => by
  obtain ⟨rfl, rfl⟩ := h1
  refine ⟨_, sp_Mo_asked l G e μ1, fun r2 μ2 h2 => ?_⟩
  obtain ⟨rfl, rfl⟩ := h2
  exact ⟨by rw [h.2.1.2.1], ⟨_, rfl⟩, N, h⟩⟩
theorem pi_upper (l : Launch) (G : sc_G) (d e : Nat) : iv_pi iv_J l G d e mq_Sc_upper mq_Mo_upper [] := fun μ N h => ⟨_, sp_Sc_upper l G d μ, fun r1 μ1 h1 => by
  obtain ⟨rfl, rfl⟩ := h1
  refine ⟨_, sp_Mo_upper l G e μ1, fun r2 μ2 h2 => ?_⟩
  obtain ⟨rfl, rfl⟩ := h2
  exact ⟨by rw [h.2.1.2.2.1], ⟨_, rfl⟩, N, h⟩⟩
theorem pi_lower (l : Launch) (G : sc_G) (d e : Nat) : iv_pi iv_J l G d e mq_Sc_lower mq_Mo_lower [] := fun μ N h => ⟨_, sp_Sc_lower l G d μ, fun r1 μ1 h1 => by
  obtain ⟨rfl, rfl⟩ := h1
  refine ⟨_, sp_Mo_lower l G e μ1, fun r2 μ2 h2 => ?_⟩
  obtain ⟨rfl, rfl⟩ := h2
  exact ⟨by rw [h.2.1.2.2.2.1], ⟨_, rfl⟩, N, h⟩⟩
theorem pi_finding (l : Launch) (G : sc_G) (d e : Nat) : iv_pi iv_I l G d e mq_Sc_finding mq_Mo_finding [] := fun μ N h => ⟨_, sp_Sc_finding l G d μ, fun r1 μ1 h1 => by
  obtain ⟨rfl, rfl⟩ := h1
  refine ⟨_, sp_Mo_finding l G e μ1, fun r2 μ2 h2 => ?_⟩
  obtain ⟨rfl, rfl⟩ := h2
  exact ⟨by rw [h.2.1.1], ⟨_, rfl⟩, N, h⟩⟩
theorem pi_findings (l : Launch) (G : sc_G) (d e : Nat) (x : Int) (hx : sc_in x) : iv_pi iv_I l G d (e + 1) mq_Sc_findings mq_Mo_findings [.inl (x)] := fun μ N h => ⟨_, sp_Sc_findings l G d μ x hx, fun r1 μ1 h1 => by
  obtain ⟨rfl, rfl⟩ := h1
  refine ⟨_, sp_Mo_findings l G e μ1 x hx, fun r2 μ2 h2 => ?_⟩
  obtain ⟨rfl, rfl⟩ := h2
  refine ⟨?_, ⟨_, rfl⟩, N, h⟩
  by_cases hq : 1 ≤ x ∧ x ≤ 5
  · rw [if_pos hq, if_pos hq, h.2.1.2.2.2.2 x.toNat (by omega)]
  · rw [if_neg hq, if_neg hq]⟩
theorem pi_best (l : Launch) (G : sc_G) (d e : Nat) : iv_pi iv_I l G (d + 8) (e + 5) mq_Sc_best mq_Mo_best [] := fun μ N h => ⟨_, sp_Sc_best l G d μ N h.1, fun r1 μ1 h1 => by
  obtain ⟨rfl, k1⟩ := h1
  obtain ⟨hs, hw, hsc⟩ := iv_ref h k1 (fun b hb => sc_tel_ne _ _ _ (by omega))
  refine ⟨_, sp_Mo_best l G e μ1 N hw hsc (na_sd μ N) (by rw [hs 20 (by omega), hs 21 (by omega)]; exact iv_W h.1.1), fun r2 μ2 h2 => ?_⟩
  obtain ⟨rfl, k2, s2⟩ := h2
  rw [md_best_sm hs, hs 20 (by omega), hs 18 (by omega)] at k2
  exact ⟨rfl, ⟨_, rfl⟩, N, iv_tel h _ _ k1 (mo_kq_kp k2) s2⟩⟩
theorem pi_knowing (l : Launch) (G : sc_G) (d e : Nat) : iv_pi iv_I l G (d + 8) (e + 5) mq_Sc_knowing mq_Mo_knowing [] := fun μ N h => ⟨_, sp_Sc_knowing l G d μ N h.1, fun r1 μ1 h1 => by
  obtain ⟨rfl, k1⟩ := h1
  obtain ⟨hs, hw, hsc⟩ := iv_ref h k1 (fun b hb => sc_tel_ne _ _ _ (by omega))
  refine ⟨_, sp_Mo_knowing l G e μ1 N hw hsc (na_sd μ N) (by rw [hs 20 (by omega), hs 21 (by omega)]; exact iv_W h.1.1), fun r2 μ2 h2 => ?_⟩
  obtain ⟨rfl, k2, s2⟩ := h2
  have eall : mo_all μ1 N = mo_all μ N := by unfold mo_all; rw [hs 20 (by omega), hs 24 (by omega)]
  have hs2 : mo_sm (sc_arr μ 24 (mo_all μ N)) (sc_arr μ1 24 (mo_all μ1 N)) := fun b hb => by
    by_cases h4 : b = 24
    · subst h4; rw [sc_arr_eq, sc_arr_eq, eall]
    · rw [sc_arr_ne _ _ h4, sc_arr_ne _ _ h4, hs b hb]
  rw [md_best_sm hs, md_best_sm hs2, hs 20 (by omega), hs 18 (by omega)] at k2
  exact ⟨rfl, ⟨_, rfl⟩, N, iv_tel h _ _ k1 k2 s2⟩⟩
theorem pi_end (l : Launch) (G : sc_G) (d e : Nat) (most : Int) (hm : sc_in most) : iv_pi iv_I l G (d + 6) (e + 4) mq_Sc_end mq_Mo_end [.inl (most)] := fun μ N h => ⟨_, sp_Sc_end l G d μ N h.1 most hm, fun r1 μ1 h1 => by
  obtain ⟨rfl, k1⟩ := h1
  obtain ⟨hs, hw, hsc⟩ := iv_ref h k1 (fun b hb => sc_up_ne _ _ _ (by omega))
  refine ⟨_, sp_Mo_end l G e μ1 N hw hsc (na_sd μ N) (by rw [hs 20 (by omega), hs 21 (by omega)]; exact iv_W h.1.1) most hm, fun r2 μ2 h2 => ?_⟩
  obtain ⟨rfl, k2, s2⟩ := h2
  rw [md_cm_sm hs, md_kn_sm hs, md_PL_sm hs, md_wt_sm hs, md_on_sm hs] at k2
  exact ⟨rfl, ⟨_, rfl⟩, N, iv_ask h _ k1 (mo_kq_kp k2) s2⟩⟩
theorem pi_told (l : Launch) (G : sc_G) (d e : Nat) (x t : Int) (hx : sc_in x) (ht : sc_in t) : iv_pi iv_I l G (d + 2) (e + 3) mq_Sc_told mq_Mo_told [.inl (x), .inl (t)] := fun μ N h => ⟨_, sp_Sc_told l G d μ N h.1 x t hx ht, fun r1 μ1 h1 => by
  obtain ⟨rfl, rfl⟩ := h1
  refine ⟨_, sp_Mo_told l G e μ1 N h.1.1 x t hx ht, fun r2 μ2 h2 => ?_⟩
  obtain ⟨rfl, rfl⟩ := h2
  exact ⟨rfl, ⟨_, rfl⟩, N, h⟩⟩
theorem pi_count (l : Launch) (G : sc_G) (d e : Nat) (t : Int) (ht : sc_in t) : iv_pi iv_I l G (d + 1) (e + 1) mq_Sc_count mq_Mo_count [.inl (t)] := fun μ N h => ⟨_, sp_Sc_count l G d μ N h.1 t ht, fun r1 μ1 h1 => by
  obtain ⟨rfl, rfl⟩ := h1
  refine ⟨_, sp_Mo_count l G e μ1 N h.1.1 t ht, fun r2 μ2 h2 => ?_⟩
  obtain ⟨rfl, rfl⟩ := h2
  exact ⟨rfl, ⟨_, rfl⟩, N, h⟩⟩
theorem pi_digest (l : Launch) (G : sc_G) (d e : Nat) : iv_pi iv_J l G (d + 3) (e + 3) mq_Sc_digest mq_Mo_digest [] := fun μ N h => ⟨_, sp_Sc_digest l G d μ N h.1 h.2.2.1, fun r1 μ1 h1 => by
  obtain ⟨rfl, rfl⟩ := h1
  refine ⟨_, sp_Mo_digest l G e μ1 N h.1.1 h.2.2.1.1 h.2.2.1.2.1, fun r2 μ2 h2 => ?_⟩
  obtain ⟨rfl, rfl⟩ := h2
  exact ⟨rfl, ⟨_, rfl⟩, N, h⟩⟩
theorem pi_weight (l : Launch) (G : sc_G) (d e : Nat) (x : Int) (z : Int) (s : Int) (hx : sc_in x) (hz : sc_in z) (hs : sc_in s) : iv_pi iv_I l G (d + 1) (e + 2) mq_Sc_weight mq_Mo_weight [.inl (x), .inl (z), .inl (s)] := fun μ N h => ⟨_, sp_Sc_weight l G d μ N h.1 x z s hx hz hs, fun r1 μ1 h1 => by
  try dsimp only at h1
  have hm : mo_sm μ μ1 := by
    (repeat' split at h1) <;> first | (obtain ⟨-, rfl⟩ := h1; first | exact fun b _ => rfl | exact fun b hb => sc_meet_ne _ _ (by omega) (by omega) | exact fun b hb => sc_up_ne _ _ _ (by omega)) | (obtain ⟨-, k⟩ := h1; exact fun b hb => (k b (by omega)).trans (by first | rfl | exact sc_tel_ne _ _ _ (by omega) | exact sc_up_ne _ _ _ (by omega) | exact sc_meet_ne _ _ (by omega) (by omega)))
  have hsc : mo_sc μ1 := by
    (repeat' split at h1) <;> first | (obtain ⟨-, rfl⟩ := h1; first | exact h.2.2.2 | exact mo_sc_cells h.2.2.2 (fun b hb => sc_meet_ne _ _ (by omega) (by omega)) | exact mo_sc_cells h.2.2.2 (fun b hb => sc_up_ne _ _ _ (by omega))) | (obtain ⟨-, k⟩ := h1; exact mo_sc_cells h.2.2.2 (fun b hb => (k b (by omega)).trans (by first | rfl | exact sc_tel_ne _ _ _ (by omega) | exact sc_up_ne _ _ _ (by omega) | exact sc_meet_ne _ _ (by omega) (by omega))))
  have hw := mo_sm_w hm h.1.1
  refine ⟨_, sp_Mo_weight l G e μ1 N hw x z s hx hz hs, fun r2 μ2 h2 => ?_⟩
  try dsimp only at h2
  rw [hm 20 (by omega), hm 21 (by omega), hm 22 (by omega), hm 23 (by omega), hm 26 (by omega)] at h2
  by_cases hc2 : 0 ≤ x ∧ x < (N : Int)
  · rw [if_pos hc2] at h1 h2
    by_cases hc4 : μ 20 x.toNat = 1
    · rw [if_pos hc4] at h1 h2
      by_cases hc6 : (0 ≤ z ∧ z < mo_by (μ 21) (μ 23) x.toNat (μ 22 x.toNat).toNat) ∧ (0 ≤ s ∧ s < μ 21 x.toNat)
      · rw [if_pos hc6] at h1 h2
        obtain ⟨rfl, rfl⟩ := h1
        obtain ⟨rfl, rfl⟩ := h2
        exact ⟨rfl, ⟨_, rfl⟩, N, h⟩
      · rw [if_neg hc6] at h1 h2
        obtain ⟨rfl, rfl⟩ := h1
        obtain ⟨rfl, rfl⟩ := h2
        exact ⟨rfl, ⟨_, rfl⟩, N, iv_meet h 2 (by omega)⟩
    · rw [if_neg hc4] at h1 h2
      obtain ⟨rfl, rfl⟩ := h1
      obtain ⟨rfl, rfl⟩ := h2
      exact ⟨rfl, ⟨_, rfl⟩, N, iv_meet h 3 (by omega)⟩
  · rw [if_neg hc2] at h1 h2
    obtain ⟨rfl, rfl⟩ := h1
    obtain ⟨rfl, rfl⟩ := h2
    exact ⟨rfl, ⟨_, rfl⟩, N, h⟩⟩
theorem pi_mean (l : Launch) (G : sc_G) (d e : Nat) (x : Int) (hx : sc_in x) : iv_pi iv_I l G (d + 1) (e + 2) mq_Sc_mean mq_Mo_mean [.inl (x)] := fun μ N h => ⟨_, sp_Sc_mean l G d μ N h.1 x hx, fun r1 μ1 h1 => by
  try dsimp only at h1
  have hm : mo_sm μ μ1 := by
    (repeat' split at h1) <;> first | (obtain ⟨-, rfl⟩ := h1; first | exact fun b _ => rfl | exact fun b hb => sc_meet_ne _ _ (by omega) (by omega) | exact fun b hb => sc_up_ne _ _ _ (by omega)) | (obtain ⟨-, k⟩ := h1; exact fun b hb => (k b (by omega)).trans (by first | rfl | exact sc_tel_ne _ _ _ (by omega) | exact sc_up_ne _ _ _ (by omega) | exact sc_meet_ne _ _ (by omega) (by omega)))
  have hsc : mo_sc μ1 := by
    (repeat' split at h1) <;> first | (obtain ⟨-, rfl⟩ := h1; first | exact h.2.2.2 | exact mo_sc_cells h.2.2.2 (fun b hb => sc_meet_ne _ _ (by omega) (by omega)) | exact mo_sc_cells h.2.2.2 (fun b hb => sc_up_ne _ _ _ (by omega))) | (obtain ⟨-, k⟩ := h1; exact mo_sc_cells h.2.2.2 (fun b hb => (k b (by omega)).trans (by first | rfl | exact sc_tel_ne _ _ _ (by omega) | exact sc_up_ne _ _ _ (by omega) | exact sc_meet_ne _ _ (by omega) (by omega))))
  have hw := mo_sm_w hm h.1.1
  refine ⟨_, sp_Mo_mean l G e μ1 N hw x hx, fun r2 μ2 h2 => ?_⟩
  try dsimp only at h2
  rw [hm 20 (by omega), hm 21 (by omega), hm 22 (by omega), hm 23 (by omega), hm 26 (by omega)] at h2
  by_cases hc2 : 0 ≤ x ∧ x < (N : Int)
  · rw [if_pos hc2] at h1 h2
    by_cases hc4 : μ 20 x.toNat = 0
    · rw [if_pos hc4] at h1 h2
      obtain ⟨rfl, rfl⟩ := h1
      obtain ⟨rfl, rfl⟩ := h2
      exact ⟨rfl, ⟨_, rfl⟩, N, iv_ask h _ (fun _ _ => rfl) (fun _ _ => rfl) (mo_sc_up hsc _ _ (by decide) (by decide) (by decide))⟩
    · rw [if_neg hc4] at h1 h2
      obtain ⟨rfl, rfl⟩ := h1
      obtain ⟨rfl, rfl⟩ := h2
      exact ⟨rfl, ⟨_, rfl⟩, N, iv_meet h 3 (by omega)⟩
  · rw [if_neg hc2] at h1 h2
    obtain ⟨rfl, rfl⟩ := h1
    obtain ⟨rfl, rfl⟩ := h2
    exact ⟨rfl, ⟨_, rfl⟩, N, h⟩⟩
theorem pi_inHand (l : Launch) (G : sc_G) (d e : Nat) (x : Int) (hx : sc_in x) : iv_pi iv_I l G (d + 8) (e + 5) mq_Sc_inHand mq_Mo_inHand [.inl (x)] := fun μ N h => ⟨_, sp_Sc_inHand l G d μ N h.1 x hx, fun r1 μ1 h1 => by
  try dsimp only at h1
  have hm : mo_sm μ μ1 := by
    (repeat' split at h1) <;> first | (obtain ⟨-, rfl⟩ := h1; first | exact fun b _ => rfl | exact fun b hb => sc_meet_ne _ _ (by omega) (by omega) | exact fun b hb => sc_up_ne _ _ _ (by omega)) | (obtain ⟨-, k⟩ := h1; exact fun b hb => (k b (by omega)).trans (by first | rfl | exact sc_tel_ne _ _ _ (by omega) | exact sc_up_ne _ _ _ (by omega) | exact sc_meet_ne _ _ (by omega) (by omega)))
  have hsc : mo_sc μ1 := by
    (repeat' split at h1) <;> first | (obtain ⟨-, rfl⟩ := h1; first | exact h.2.2.2 | exact mo_sc_cells h.2.2.2 (fun b hb => sc_meet_ne _ _ (by omega) (by omega)) | exact mo_sc_cells h.2.2.2 (fun b hb => sc_up_ne _ _ _ (by omega))) | (obtain ⟨-, k⟩ := h1; exact mo_sc_cells h.2.2.2 (fun b hb => (k b (by omega)).trans (by first | rfl | exact sc_tel_ne _ _ _ (by omega) | exact sc_up_ne _ _ _ (by omega) | exact sc_meet_ne _ _ (by omega) (by omega))))
  have hw := mo_sm_w hm h.1.1
  have hs2 : mo_sm (sc_up μ 18 13 x) (sc_up μ1 18 13 x) := fun b hb => by funext j; simp only [sc_up, hm b hb]
  refine ⟨_, sp_Mo_inHand l G e μ1 N hw hsc (na_sd μ N) (by rw [hm 20 (by omega), hm 21 (by omega)]; exact iv_W h.1.1) (by rw [hm 18 (by omega)]; exact h.1.2.2.1) x hx, fun r2 μ2 h2 => ?_⟩
  try dsimp only at h2
  rw [hm 20 (by omega), md_best_sm hm, md_best_sm hs2, hm 18 (by omega)] at h2
  by_cases hc2 : 0 ≤ x ∧ x < (N : Int)
  · rw [if_pos hc2] at h1 h2
    by_cases hc4 : μ 20 x.toNat = 1
    · rw [if_pos hc4] at h1 h2
      obtain ⟨rfl, k1⟩ := h1
      obtain ⟨rfl, k2, s2⟩ := h2
      exact ⟨rfl, ⟨_, rfl⟩, N, iv_tel h _ _ k1 (mo_kq_kp k2) s2⟩
    · rw [if_neg hc4] at h1 h2
      obtain ⟨rfl, rfl⟩ := h1
      obtain ⟨rfl, rfl⟩ := h2
      exact ⟨rfl, ⟨_, rfl⟩, N, iv_meet h 3 (by omega)⟩
  · rw [if_neg hc2] at h1 h2
    obtain ⟨rfl, rfl⟩ := h1
    obtain ⟨rfl, rfl⟩ := h2
    exact ⟨rfl, ⟨_, rfl⟩, N, h⟩⟩
theorem pi_worthOf (l : Launch) (G : sc_G) (d e : Nat) (x : Int) (z : Int) (hx : sc_in x) (hz : sc_in z) : iv_pi iv_I l G (d + 8) (e + 5) mq_Sc_worthOf mq_Mo_worthOf [.inl (x), .inl (z)] := fun μ N h => ⟨_, sp_Sc_worthOf l G d μ N h.1 x z hx hz, fun r1 μ1 h1 => by
  try dsimp only at h1
  have hm : mo_sm μ μ1 := by
    (repeat' split at h1) <;> first | (obtain ⟨-, rfl⟩ := h1; first | exact fun b _ => rfl | exact fun b hb => sc_meet_ne _ _ (by omega) (by omega) | exact fun b hb => sc_up_ne _ _ _ (by omega)) | (obtain ⟨-, k⟩ := h1; exact fun b hb => (k b (by omega)).trans (by first | rfl | exact sc_tel_ne _ _ _ (by omega) | exact sc_up_ne _ _ _ (by omega) | exact sc_meet_ne _ _ (by omega) (by omega)))
  have hsc : mo_sc μ1 := by
    (repeat' split at h1) <;> first | (obtain ⟨-, rfl⟩ := h1; first | exact h.2.2.2 | exact mo_sc_cells h.2.2.2 (fun b hb => sc_meet_ne _ _ (by omega) (by omega)) | exact mo_sc_cells h.2.2.2 (fun b hb => sc_up_ne _ _ _ (by omega))) | (obtain ⟨-, k⟩ := h1; exact mo_sc_cells h.2.2.2 (fun b hb => (k b (by omega)).trans (by first | rfl | exact sc_tel_ne _ _ _ (by omega) | exact sc_up_ne _ _ _ (by omega) | exact sc_meet_ne _ _ (by omega) (by omega))))
  have hw := mo_sm_w hm h.1.1
  have hs2 : mo_sm (sc_up μ 24 x.toNat (sc_bor (μ 24 x.toNat) (sc_bshl 1 z))) (sc_up μ1 24 x.toNat (sc_bor (μ 24 x.toNat) (sc_bshl 1 z))) := fun b hb => by funext j; simp only [sc_up, hm b hb]
  refine ⟨_, sp_Mo_worthOf l G e μ1 N hw hsc (na_sd μ N) (by rw [hm 20 (by omega), hm 21 (by omega)]; exact iv_W h.1.1) x z hx hz, fun r2 μ2 h2 => ?_⟩
  try dsimp only at h2
  rw [hm 20 (by omega), hm 24 (by omega), md_best_sm hm, md_best_sm hs2, hm 18 (by omega)] at h2
  by_cases hc2 : 0 ≤ x ∧ x < (N : Int) ∧ 0 ≤ z ∧ z < x
  · rw [if_pos hc2] at h1 h2
    by_cases hc4 : μ 20 x.toNat = 2 ∧ μ 20 z.toNat = 1
    · rw [if_pos hc4] at h1 h2
      by_cases hc6 : sc_band (sc_bshr (μ 24 x.toNat) z) 1 = 1
      · rw [if_pos hc6] at h1 h2
        obtain ⟨rfl, rfl⟩ := h1
        obtain ⟨rfl, rfl⟩ := h2
        exact ⟨rfl, ⟨_, rfl⟩, N, h⟩
      · rw [if_neg hc6] at h1 h2
        obtain ⟨rfl, k1⟩ := h1
        obtain ⟨rfl, k2, s2⟩ := h2
        exact ⟨rfl, ⟨_, rfl⟩, N, iv_tel h _ _ k1 (mo_kq_kp k2) s2⟩
    · rw [if_neg hc4] at h1 h2
      obtain ⟨rfl, rfl⟩ := h1
      obtain ⟨rfl, rfl⟩ := h2
      exact ⟨rfl, ⟨_, rfl⟩, N, iv_meet h 3 (by omega)⟩
  · rw [if_neg hc2] at h1 h2
    obtain ⟨rfl, rfl⟩ := h1
    obtain ⟨rfl, rfl⟩ := h2
    exact ⟨rfl, ⟨_, rfl⟩, N, h⟩⟩
theorem pi_needless (l : Launch) (G : sc_G) (d e : Nat) (x : Int) (z : Int) (hx : sc_in x) (hz : sc_in z) : iv_pi iv_I l G (d + 8) (e + 5) mq_Sc_needless mq_Mo_needless [.inl (x), .inl (z)] := fun μ N h => ⟨_, sp_Sc_needless l G d μ N h.1 x z hx hz, fun r1 μ1 h1 => by
  try dsimp only at h1
  have hm : mo_sm μ μ1 := by
    (repeat' split at h1) <;> first | (obtain ⟨-, rfl⟩ := h1; first | exact fun b _ => rfl | exact fun b hb => sc_meet_ne _ _ (by omega) (by omega) | exact fun b hb => sc_up_ne _ _ _ (by omega)) | (obtain ⟨-, k⟩ := h1; exact fun b hb => (k b (by omega)).trans (by first | rfl | exact sc_tel_ne _ _ _ (by omega) | exact sc_up_ne _ _ _ (by omega) | exact sc_meet_ne _ _ (by omega) (by omega)))
  have hsc : mo_sc μ1 := by
    (repeat' split at h1) <;> first | (obtain ⟨-, rfl⟩ := h1; first | exact h.2.2.2 | exact mo_sc_cells h.2.2.2 (fun b hb => sc_meet_ne _ _ (by omega) (by omega)) | exact mo_sc_cells h.2.2.2 (fun b hb => sc_up_ne _ _ _ (by omega))) | (obtain ⟨-, k⟩ := h1; exact mo_sc_cells h.2.2.2 (fun b hb => (k b (by omega)).trans (by first | rfl | exact sc_tel_ne _ _ _ (by omega) | exact sc_up_ne _ _ _ (by omega) | exact sc_meet_ne _ _ (by omega) (by omega))))
  have hw := mo_sm_w hm h.1.1
  have hs2 : mo_sm (sc_up μ 24 x.toNat (sc_band (μ 24 x.toNat) (sc_bxor (sc_bshl 1 z) (-1)))) (sc_up μ1 24 x.toNat (sc_band (μ 24 x.toNat) (sc_bxor (sc_bshl 1 z) (-1)))) := fun b hb => by funext j; simp only [sc_up, hm b hb]
  refine ⟨_, sp_Mo_needless l G e μ1 N hw hsc (na_sd μ N) (by rw [hm 20 (by omega), hm 21 (by omega)]; exact iv_W h.1.1) x z hx hz, fun r2 μ2 h2 => ?_⟩
  try dsimp only at h2
  rw [hm 20 (by omega), hm 24 (by omega), md_best_sm hm, md_best_sm hs2] at h2
  by_cases hc2 : 0 ≤ x ∧ x < (N : Int) ∧ 0 ≤ z ∧ z < (N : Int)
  · rw [if_pos hc2] at h1 h2
    by_cases hc4 : μ 20 x.toNat = 2
    · rw [if_pos hc4] at h1 h2
      by_cases hc6 : sc_band (sc_bshr (μ 24 x.toNat) z) 1 = 1
      · rw [if_pos hc6] at h1 h2
        obtain ⟨rfl, k1⟩ := h1
        obtain ⟨rfl, k2, s2⟩ := h2
        exact ⟨rfl, ⟨_, rfl⟩, N, iv_kp h k1 (mo_kq_kp k2) s2⟩
      · rw [if_neg hc6] at h1 h2
        obtain ⟨rfl, rfl⟩ := h1
        obtain ⟨rfl, rfl⟩ := h2
        exact ⟨rfl, ⟨_, rfl⟩, N, h⟩
    · rw [if_neg hc4] at h1 h2
      obtain ⟨rfl, rfl⟩ := h1
      obtain ⟨rfl, rfl⟩ := h2
      exact ⟨rfl, ⟨_, rfl⟩, N, iv_meet h 3 (by omega)⟩
  · rw [if_neg hc2] at h1 h2
    obtain ⟨rfl, rfl⟩ := h1
    obtain ⟨rfl, rfl⟩ := h2
    exact ⟨rfl, ⟨_, rfl⟩, N, h⟩⟩
theorem pi_chance (l : Launch) (G : sc_G) (d e : Nat) (x : Int) (s : Int) (hx : sc_in x) (hs : sc_in s) : iv_pi iv_I l G (d + 6) (e + 4) mq_Sc_chance mq_Mo_chance [.inl (x), .inl (s)] := fun μ N h => ⟨_, sp_Sc_chance l G d μ N h.1 x s hx hs, fun r1 μ1 h1 => by
  try dsimp only at h1
  have hm : mo_sm μ μ1 := by
    (repeat' split at h1) <;> first | (obtain ⟨-, rfl⟩ := h1; first | exact fun b _ => rfl | exact fun b hb => sc_meet_ne _ _ (by omega) (by omega) | exact fun b hb => sc_up_ne _ _ _ (by omega)) | (obtain ⟨-, k⟩ := h1; exact fun b hb => (k b (by omega)).trans (by first | rfl | exact sc_tel_ne _ _ _ (by omega) | exact sc_up_ne _ _ _ (by omega) | exact sc_meet_ne _ _ (by omega) (by omega)))
  have hsc : mo_sc μ1 := by
    (repeat' split at h1) <;> first | (obtain ⟨-, rfl⟩ := h1; first | exact h.2.2.2 | exact mo_sc_cells h.2.2.2 (fun b hb => sc_meet_ne _ _ (by omega) (by omega)) | exact mo_sc_cells h.2.2.2 (fun b hb => sc_up_ne _ _ _ (by omega))) | (obtain ⟨-, k⟩ := h1; exact mo_sc_cells h.2.2.2 (fun b hb => (k b (by omega)).trans (by first | rfl | exact sc_tel_ne _ _ _ (by omega) | exact sc_up_ne _ _ _ (by omega) | exact sc_meet_ne _ _ (by omega) (by omega))))
  have hw := mo_sm_w hm h.1.1
  refine ⟨_, sp_Mo_chance l G e μ1 N hw hsc (na_sd μ N) (by rw [hm 20 (by omega), hm 21 (by omega)]; exact iv_W h.1.1) x s hx hs, fun r2 μ2 h2 => ?_⟩
  try dsimp only at h2
  rw [hm 20 (by omega), hm 21 (by omega), md_dg_sm hm, md_cm_sm hm, md_kn_sm hm, md_PL_sm hm, md_wt_sm hm, hm 18 (by omega)] at h2
  by_cases hc2 : 0 ≤ x ∧ x < (N : Int)
  · rw [if_pos hc2] at h1 h2
    by_cases hc4 : μ 20 x.toNat = 0
    · rw [if_pos hc4] at h1 h2
      obtain ⟨rfl, rfl⟩ := h1
      obtain ⟨rfl, rfl⟩ := h2
      exact ⟨rfl, ⟨_, rfl⟩, N, iv_meet h 3 (by omega)⟩
    · rw [if_neg hc4] at h1 h2
      by_cases hc6 : 0 ≤ s ∧ s < μ 21 x.toNat
      · rw [if_pos hc6] at h1 h2
        obtain ⟨rfl, k1⟩ := h1
        obtain ⟨rfl, k2, s2⟩ := h2
        exact ⟨rfl, ⟨_, rfl⟩, N, iv_tel h _ _ k1 (mo_kq_kp k2) s2⟩
      · rw [if_neg hc6] at h1 h2
        obtain ⟨rfl, rfl⟩ := h1
        obtain ⟨rfl, rfl⟩ := h2
        exact ⟨rfl, ⟨_, rfl⟩, N, iv_meet h 2 (by omega)⟩
  · rw [if_neg hc2] at h1 h2
    obtain ⟨rfl, rfl⟩ := h1
    obtain ⟨rfl, rfl⟩ := h2
    exact ⟨rfl, ⟨_, rfl⟩, N, h⟩⟩
theorem pi_mark (l : Launch) (G : sc_G) (d e : Nat) (x : Int) (k : Int) (hx : sc_in x) (hk : sc_in k) : iv_pi iv_I l G (d + 2) (e + 2) mq_Sc_mark mq_Mo_mark [.inl (x), .inl (k)] := fun μ N h => ⟨_, sp_Sc_mark l G d μ N h.1 x k hx hk, fun r1 μ1 h1 => by
  try dsimp only at h1
  have hm : mo_sm μ μ1 := by
    (repeat' split at h1) <;> first | (obtain ⟨-, rfl⟩ := h1; first | exact fun b _ => rfl | exact fun b hb => sc_meet_ne _ _ (by omega) (by omega) | exact fun b hb => sc_up_ne _ _ _ (by omega)) | (obtain ⟨-, k⟩ := h1; exact fun b hb => (k b (by omega)).trans (by first | rfl | exact sc_tel_ne _ _ _ (by omega) | exact sc_up_ne _ _ _ (by omega) | exact sc_meet_ne _ _ (by omega) (by omega)))
  have hsc : mo_sc μ1 := by
    (repeat' split at h1) <;> first | (obtain ⟨-, rfl⟩ := h1; first | exact h.2.2.2 | exact mo_sc_cells h.2.2.2 (fun b hb => sc_meet_ne _ _ (by omega) (by omega)) | exact mo_sc_cells h.2.2.2 (fun b hb => sc_up_ne _ _ _ (by omega))) | (obtain ⟨-, k⟩ := h1; exact mo_sc_cells h.2.2.2 (fun b hb => (k b (by omega)).trans (by first | rfl | exact sc_tel_ne _ _ _ (by omega) | exact sc_up_ne _ _ _ (by omega) | exact sc_meet_ne _ _ (by omega) (by omega))))
  have hw := mo_sm_w hm h.1.1
  have hmk : mo_mk μ1 = mo_mk μ := by funext a b c; unfold mo_mk; rw [hm 22 (by omega), hm 23 (by omega), hm 24 (by omega)]
  refine ⟨_, sp_Mo_mark l G e μ1 N hw x k hx hk, fun r2 μ2 h2 => ?_⟩
  try dsimp only at h2
  rw [hm 20 (by omega), hm 25 (by omega), hmk] at h2
  by_cases hc2 : (0 ≤ x ∧ x < (N : Int)) ∧ (1 ≤ k ∧ k ≤ 3)
  · rw [if_pos hc2] at h1 h2
    by_cases hc4 : (if μ 20 x.toNat = 2 ∧ 0 ≤ μ 25 x.toNat then (3 : Int) else μ 20 x.toNat) = k ∨ (k = 2 ∧ μ 20 x.toNat = 2)
    · rw [if_pos hc4] at h1 h2
      obtain ⟨rfl, rfl⟩ := h1
      obtain ⟨rfl, rfl⟩ := h2
      exact ⟨rfl, ⟨_, rfl⟩, N, h⟩
    · rw [if_neg hc4] at h1 h2
      obtain ⟨rfl, rfl⟩ := h1
      obtain ⟨rfl, rfl⟩ := h2
      exact ⟨rfl, ⟨_, rfl⟩, N, iv_meet h 3 (by omega)⟩
  · rw [if_neg hc2] at h1 h2
    obtain ⟨rfl, rfl⟩ := h1
    obtain ⟨rfl, rfl⟩ := h2
    exact ⟨rfl, ⟨_, rfl⟩, N, h⟩⟩
theorem pi_span (l : Launch) (G : sc_G) (d e : Nat) (x : Int) (z : Int) (hi : Int) (hx : sc_in x) (hz : sc_in z) (hhi : sc_in hi) : iv_pi iv_I l G (d + 6) (e + 5) mq_Sc_span mq_Mo_span [.inl (x), .inl (z), .inl (hi)] := fun μ N h => ⟨_, sp_Sc_span l G d μ N h.1 x z hi hx hz hhi, fun r1 μ1 h1 => by
  try dsimp only at h1
  have hm : mo_sm μ μ1 := by
    (repeat' split at h1) <;> first | (obtain ⟨-, rfl⟩ := h1; first | exact fun b _ => rfl | exact fun b hb => sc_meet_ne _ _ (by omega) (by omega) | exact fun b hb => sc_up_ne _ _ _ (by omega)) | (obtain ⟨-, k⟩ := h1; exact fun b hb => (k b (by omega)).trans (by first | rfl | exact sc_tel_ne _ _ _ (by omega) | exact sc_up_ne _ _ _ (by omega) | exact sc_meet_ne _ _ (by omega) (by omega)))
  have hsc : mo_sc μ1 := by
    (repeat' split at h1) <;> first | (obtain ⟨-, rfl⟩ := h1; first | exact h.2.2.2 | exact mo_sc_cells h.2.2.2 (fun b hb => sc_meet_ne _ _ (by omega) (by omega)) | exact mo_sc_cells h.2.2.2 (fun b hb => sc_up_ne _ _ _ (by omega))) | (obtain ⟨-, k⟩ := h1; exact mo_sc_cells h.2.2.2 (fun b hb => (k b (by omega)).trans (by first | rfl | exact sc_tel_ne _ _ _ (by omega) | exact sc_up_ne _ _ _ (by omega) | exact sc_meet_ne _ _ (by omega) (by omega))))
  have hw := mo_sm_w hm h.1.1
  have hff : mo_ff μ1 N N = mo_ff μ N N := by
    have : ∀ j, mo_ff μ1 N j = mo_ff μ N j := fun j => by
      induction j with
      | zero => rfl
      | succ j ih => rw [mo_ff, mo_ff, ih, hm 20 (by omega), hm 25 (by omega)]
    exact this N
  have hfd : ∀ c, (fun v => md_fd (sc_up μ1 26 (27 * x.toNat + z.toNat) v) N (na_sd μ N) c) = (fun v => md_fd (sc_up μ 26 (27 * x.toNat + z.toNat) v) N (na_sd μ N) c) := fun c => by
    funext v
    exact md_fd_sm (fun b hb => by funext j; simp only [sc_up, hm b hb]) N (na_sd μ N) c
  have hF : mo_fF μ1 N := fun k hk h0 => by
    rw [hm 25 (by omega)] at h0
    have := h.1.2.1.1 k hk
    rw [hm 20 (by omega), hm 21 (by omega), hm 25 (by omega)]
    omega
  refine ⟨_, sp_Mo_span l G e μ1 N hw hsc (na_sd μ N) (by rw [hm 20 (by omega), hm 21 (by omega)]; exact iv_W h.1.1) hF x z hi hx hz hhi, fun r2 μ2 h2 => ?_⟩
  try dsimp only at h2
  rw [hm 20 (by omega), hm 21 (by omega), hm 22 (by omega), hm 23 (by omega), hff, hfd, md_fd_sm hm, hm 26 (by omega)] at h2
  by_cases hc2 : 0 ≤ x ∧ x < (N : Int)
  · rw [if_pos hc2] at h1 h2
    by_cases hc4 : μ 20 x.toNat = 0
    · rw [if_pos hc4] at h1 h2
      by_cases hc6 : 0 ≤ z ∧ z < mo_by (μ 21) (μ 23) x.toNat (μ 22 x.toNat).toNat
      · rw [if_pos hc6] at h1 h2
        by_cases hc8 : mo_ff μ N N = N
        · rw [if_pos hc8] at h1 h2
          obtain ⟨rfl, rfl⟩ := h1
          obtain ⟨rfl, rfl⟩ := h2
          exact ⟨rfl, ⟨_, rfl⟩, N, h⟩
        · rw [if_neg hc8] at h1 h2
          obtain ⟨rfl, k1⟩ := h1
          obtain ⟨rfl, k2, s2⟩ := h2
          exact ⟨rfl, ⟨_, rfl⟩, N, iv_ask h _ k1 (mo_kq_kp k2) s2⟩
      · rw [if_neg hc6] at h1 h2
        obtain ⟨rfl, rfl⟩ := h1
        obtain ⟨rfl, rfl⟩ := h2
        exact ⟨rfl, ⟨_, rfl⟩, N, iv_meet h 2 (by omega)⟩
    · rw [if_neg hc4] at h1 h2
      obtain ⟨rfl, rfl⟩ := h1
      obtain ⟨rfl, rfl⟩ := h2
      exact ⟨rfl, ⟨_, rfl⟩, N, iv_meet h 3 (by omega)⟩
  · rw [if_neg hc2] at h1 h2
    obtain ⟨rfl, rfl⟩ := h1
    obtain ⟨rfl, rfl⟩ := h2
    exact ⟨rfl, ⟨_, rfl⟩, N, h⟩⟩
theorem pi_meanSights (l : Launch) (G : sc_G) (d e : Nat) : iv_pi iv_I l G (d + 1) (e + 1) mq_Sc_meanSights mq_Mo_meanSights [] := fun μ N h => ⟨_, sp_Sc_meanSights l G d μ N h.1, fun r1 μ1 h1 => by
  try dsimp only at h1
  have hm : mo_sm μ μ1 := by
    (repeat' split at h1) <;> first | (obtain ⟨-, rfl⟩ := h1; first | exact fun b _ => rfl | exact fun b hb => sc_meet_ne _ _ (by omega) (by omega) | exact fun b hb => sc_up_ne _ _ _ (by omega)) | (obtain ⟨-, k⟩ := h1; exact fun b hb => (k b (by omega)).trans (by first | rfl | exact sc_tel_ne _ _ _ (by omega) | exact sc_up_ne _ _ _ (by omega) | exact sc_meet_ne _ _ (by omega) (by omega)))
  have hsc : mo_sc μ1 := by
    (repeat' split at h1) <;> first | (obtain ⟨-, rfl⟩ := h1; first | exact h.2.2.2 | exact mo_sc_cells h.2.2.2 (fun b hb => sc_meet_ne _ _ (by omega) (by omega)) | exact mo_sc_cells h.2.2.2 (fun b hb => sc_up_ne _ _ _ (by omega))) | (obtain ⟨-, k⟩ := h1; exact mo_sc_cells h.2.2.2 (fun b hb => (k b (by omega)).trans (by first | rfl | exact sc_tel_ne _ _ _ (by omega) | exact sc_up_ne _ _ _ (by omega) | exact sc_meet_ne _ _ (by omega) (by omega))))
  have hw := mo_sm_w hm h.1.1
  refine ⟨_, sp_Mo_meanSights l G e μ1 N hw, fun r2 μ2 h2 => ?_⟩
  try dsimp only at h2
  rw [hm 20 (by omega), hm 24 (by omega)] at h2
  by_cases hc : mo_ct (μ 20) 2 N = 0
  · rw [if_pos hc] at h1 h2
    obtain ⟨rfl, rfl⟩ := h1
    obtain ⟨rfl, rfl⟩ := h2
    exact ⟨rfl, ⟨_, rfl⟩, N, iv_meet h 4 (by omega)⟩
  · rw [if_neg hc] at h1 h2
    obtain ⟨rfl, rfl⟩ := h1
    obtain ⟨rfl, rfl⟩ := h2
    exact ⟨rfl, ⟨_, rfl⟩, N, h⟩⟩
theorem pi_does (l : Launch) (G : sc_G) (d e : Nat) (x z : Int) (hx : sc_in x) (hz : sc_in z) : iv_pi iv_I l G (d + 5) (e + 4) mq_Sc_does mq_Mo_does [.inl (x), .inl (z)] := fun μ N h => ⟨_, sp_Sc_does l G d μ N h.1 h.2.2.1 x z hx hz, fun r1 μ1 h1 => by
  try dsimp only at h1
  have hm : mo_sm μ μ1 := by
    (repeat' split at h1) <;> first | (obtain ⟨-, rfl⟩ := h1; first | exact fun b _ => rfl | exact fun b hb => sc_meet_ne _ _ (by omega) (by omega) | exact fun b hb => sc_up_ne _ _ _ (by omega)) | (obtain ⟨-, k⟩ := h1; exact fun b hb => (k b (by omega)).trans (by first | rfl | exact sc_tel_ne _ _ _ (by omega) | exact sc_up_ne _ _ _ (by omega) | exact sc_meet_ne _ _ (by omega) (by omega)))
  have hsc : mo_sc μ1 := by
    (repeat' split at h1) <;> first | (obtain ⟨-, rfl⟩ := h1; first | exact h.2.2.2 | exact mo_sc_cells h.2.2.2 (fun b hb => sc_meet_ne _ _ (by omega) (by omega)) | exact mo_sc_cells h.2.2.2 (fun b hb => sc_up_ne _ _ _ (by omega))) | (obtain ⟨-, k⟩ := h1; exact mo_sc_cells h.2.2.2 (fun b hb => (k b (by omega)).trans (by first | rfl | exact sc_tel_ne _ _ _ (by omega) | exact sc_up_ne _ _ _ (by omega) | exact sc_meet_ne _ _ (by omega) (by omega))))
  have hw := mo_sm_w hm h.1.1
  have hmr : μ1 33 = μ 33 ∧ μ1 34 = μ 34 := by
    (repeat' split at h1) <;> first | (obtain ⟨-, rfl⟩ := h1; first | exact ⟨rfl, rfl⟩ | exact ⟨sc_meet_ne _ _ (by omega) (by omega), sc_meet_ne _ _ (by omega) (by omega)⟩) | (obtain ⟨-, k⟩ := h1; exact ⟨(k 33 (by omega)).trans (by first | rfl | exact sc_meet_ne _ _ (by omega) (by omega)), (k 34 (by omega)).trans (by first | rfl | exact sc_meet_ne _ _ (by omega) (by omega))⟩)
  refine ⟨_, sp_Mo_does l G e μ1 N hw hsc (na_sd μ N) (by rw [hm 20 (by omega), hm 21 (by omega)]; exact iv_W h.1.1) (by rw [hmr.1]; exact h.2.2.1.1) (by rw [hmr.2]; exact h.2.2.1.2.1) x z hx hz, fun r2 μ2 h2 => ?_⟩
  try dsimp only at h2
  have hdo : ∀ c f, md_do μ1 N (na_sd μ N) c f = md_do μ N (na_sd μ N) c f := fun c f => by
    unfold md_do
    rw [hm 25 (by omega), hm 20 (by omega), hm 21 (by omega), md_PL_sm hm, md_kn_sm hm]
  rw [hm 20 (by omega), hm 21 (by omega), hmr.1, hmr.2, md_kn_sm hm, hdo] at h2
  by_cases c1 : (0 ≤ x ∧ x < (N : Int)) ∧ (0 ≤ z ∧ z ≤ 3)
  · rw [if_pos c1] at h1 h2
    by_cases c2 : μ 20 x.toNat = 2
    · rw [if_pos c2] at h1 h2
      by_cases c3 : μ 33 z.toNat < 0
      · rw [if_pos c3] at h1 h2
        obtain ⟨rfl, rfl⟩ := h1
        obtain ⟨rfl, rfl⟩ := h2
        exact ⟨rfl, ⟨_, rfl⟩, N, iv_meet h 1 (by omega)⟩
      · rw [if_neg c3] at h1 h2
        by_cases c4 : μ 33 z.toNat < x
        · rw [if_pos c4] at h1 h2
          obtain ⟨rfl, rfl⟩ := h1
          obtain ⟨rfl, rfl⟩ := h2
          exact ⟨rfl, ⟨_, rfl⟩, N, iv_meet h 5 (by omega)⟩
        · rw [if_neg c4] at h1 h2
          by_cases c5 : mo_th (md_kn μ x.toNat) (μ 21) (fun k => μ 34 (27 * z.toNat + k)) N = true
          · rw [if_pos c5] at h1 h2
            obtain ⟨rfl, k1⟩ := h1
            obtain ⟨rfl, k2, s2⟩ := h2
            exact ⟨rfl, ⟨_, rfl⟩, N, iv_kp h k1 (mo_kq_kp k2) s2⟩
          · rw [if_neg c5] at h1 h2
            obtain ⟨rfl, k1⟩ := h1
            obtain ⟨rfl, rfl⟩ := h2
            exact ⟨rfl, ⟨_, rfl⟩, N, iv_meet_kp h 2 (by omega) k1⟩
    · rw [if_neg c2] at h1 h2
      obtain ⟨rfl, rfl⟩ := h1
      obtain ⟨rfl, rfl⟩ := h2
      exact ⟨rfl, ⟨_, rfl⟩, N, iv_meet h 3 (by omega)⟩
  · rw [if_neg c1] at h1 h2
    obtain ⟨rfl, rfl⟩ := h1
    obtain ⟨rfl, rfl⟩ := h2
    exact ⟨rfl, ⟨_, rfl⟩, N, h⟩⟩
theorem pi_tear (l : Launch) (G : sc_G) (d e : Nat) (x : Int) (hx : sc_in x) : iv_pi iv_I l G (d + 1) (e + 3) mq_Sc_tear mq_Mo_tear [.inl (x)] := fun μ N h => ⟨_, sp_Sc_tear2 l G d μ h.2.2.1 x hx, fun r1 μ1 h1 => by
  try dsimp only at h1
  have hm : μ1 33 = μ 33 := by
    (repeat' split at h1) <;> (obtain ⟨-, rfl⟩ := h1) <;> first | rfl | exact sc_meet_ne _ _ (by omega) (by omega) | exact sc_up_ne _ _ _ (by omega)
  refine ⟨_, sp_Mo_tear l G e μ1 x hx (fun i => by rw [hm]; have := h.2.2.1.1 i; exact ⟨by omega, by omega⟩), fun r2 μ2 h2 => ?_⟩
  try dsimp only at h2
  rw [hm] at h2
  by_cases c1 : 0 ≤ x ∧ x ≤ 3
  · rw [if_pos c1] at h1 h2
    by_cases c2 : μ 33 x.toNat < 0
    · rw [if_pos c2] at h1 h2
      obtain ⟨rfl, rfl⟩ := h1
      obtain ⟨rfl, rfl⟩ := h2
      exact ⟨rfl, ⟨_, rfl⟩, N, iv_meet h 1 (by omega)⟩
    · rw [if_neg c2] at h1 h2
      obtain ⟨rfl, rfl⟩ := h1
      obtain ⟨rfl, rfl⟩ := h2
      obtain ⟨r1, r2, r3, r4⟩ := h.2.2.1
      have en : ∀ b, b ≠ 16 → b ≠ 33 → sc_up (sc_up μ 16 x.toNat (-1)) 33 x.toNat (-9) b = μ b := fun b b1 b2 => by rw [sc_up_ne _ _ _ b2, sc_up_ne _ _ _ b1]
      have e33 : ∀ j, sc_up (sc_up μ 16 x.toNat (-1)) 33 x.toNat (-9) 33 j = if j = x.toNat then -9 else μ 33 j := fun j => by rw [sc_up_eq, sc_up_ne _ _ _ (by decide)]
      have e16 : ∀ j, sc_up (sc_up μ 16 x.toNat (-1)) 33 x.toNat (-9) 16 j = if j = x.toNat then -1 else μ 16 j := fun j => by rw [sc_up_ne _ _ _ (by decide), sc_up_eq]
      refine ⟨rfl, ⟨_, rfl⟩, N, iv_rows h (fun b hb => en b (by omega) (by omega)) ⟨fun i => ?_, by rw [en 34 (by decide) (by decide)]; exact r2, fun r hr => ?_, fun r hr i hi => ?_⟩⟩
      · rw [e33]
        split
        · omega
        · exact r1 i
      · rw [e16, e33]
        by_cases hq : r = x.toNat
        · rw [if_pos hq, if_pos hq, if_pos (by decide)]
        · rw [if_neg hq, if_neg hq]
          exact r3 r hr
      · rw [en 34 (by decide) (by decide), en (36 + r) (by omega) (by omega)]
        exact r4 r hr i hi
  · rw [if_neg c1] at h1 h2
    obtain ⟨rfl, rfl⟩ := h1
    obtain ⟨rfl, rfl⟩ := h2
    exact ⟨rfl, ⟨_, rfl⟩, N, h⟩⟩
theorem pi_row (l : Launch) (G : sc_G) (d e : Nat) (x z : Int) (hx : sc_in x) (hz : sc_in z) : iv_pi iv_I l G (d + 1) (e + 2) mq_Sc_row mq_Mo_row [.inl (x), .inl (z)] := fun μ N h => ⟨_, sp_Sc_row l G d μ x z hx hz, fun r1 μ1 h1 => by
  try dsimp only at h1
  refine ⟨_, sp_Mo_row l G e μ1 x z hx hz, fun r2 μ2 h2 => ?_⟩
  try dsimp only at h2
  by_cases c1 : (0 ≤ x ∧ x ≤ 3) ∧ z ≤ 27
  · rw [if_pos c1] at h1 h2
    by_cases c2 : z < 0
    · rw [if_pos c2] at h1 h2
      obtain ⟨rfl, rfl⟩ := h1
      obtain ⟨rfl, rfl⟩ := h2
      exact ⟨rfl, ⟨_, rfl⟩, N, iv_meet h 5 (by omega)⟩
    · rw [if_neg c2] at h1 h2
      obtain ⟨rfl, rfl⟩ := h1
      obtain ⟨rfl, rfl⟩ := h2
      obtain ⟨n, rfl⟩ := Int.eq_ofNat_of_zero_le c1.1.1
      simp only [Int.toNat_natCast]
      have hn4 : n < 4 := by omega
      have en : ∀ b, b ≠ 16 → b ≠ 33 → b ≠ 34 → b ≠ 36 + n → mo_rz (sc_up (sc_up (sc_fil μ (36 + n) 0 27) 16 n z) 33 n z) n 27 b = μ b := fun b b1 b2 b3 b4 => by
        unfold mo_rz
        rw [sc_arr_ne _ _ b3, sc_up_ne _ _ _ b2, sc_up_ne _ _ _ b1, sc_fil_ne _ _ _ b4]
      have e33 : ∀ j, mo_rz (sc_up (sc_up (sc_fil μ (36 + n) 0 27) 16 n z) 33 n z) n 27 33 j = if j = n then z else μ 33 j := fun j => by
        unfold mo_rz
        rw [sc_arr_ne _ _ (by decide), sc_up_eq, sc_up_ne _ _ _ (by decide), sc_fil_ne _ _ _ (by omega)]
      have e16 : ∀ j, mo_rz (sc_up (sc_up (sc_fil μ (36 + n) 0 27) 16 n z) 33 n z) n 27 16 j = if j = n then z else μ 16 j := fun j => by
        unfold mo_rz
        rw [sc_arr_ne _ _ (by decide), sc_up_ne _ _ _ (by decide), sc_up_eq, sc_fil_ne _ _ _ (by omega)]
      have e34 : ∀ j, mo_rz (sc_up (sc_up (sc_fil μ (36 + n) 0 27) 16 n z) 33 n z) n 27 34 j = if 27 * n ≤ j ∧ j < 27 * n + 27 then 0 else μ 34 j := fun j => by
        unfold mo_rz
        rw [sc_arr_eq, sc_up_ne _ _ _ (by decide), sc_up_ne _ _ _ (by decide), sc_fil_ne _ _ _ (by omega)]
      have er : ∀ j, mo_rz (sc_up (sc_up (sc_fil μ (36 + n) 0 27) 16 n z) 33 n z) n 27 (36 + n) j = if j < 27 then 0 else μ (36 + n) j := fun j => by
        unfold mo_rz
        rw [sc_arr_ne _ _ (by omega), sc_up_ne _ _ _ (by omega), sc_up_ne _ _ _ (by omega)]
        show (if 36 + n = 36 + n ∧ j < 27 then (0 : Int) else μ (36 + n) j) = _
        simp
      obtain ⟨r1, r2, r3, r4⟩ := h.2.2.1
      refine ⟨trivial, ⟨_, rfl⟩, N, iv_rows h (fun b hb => en b (by omega) (by omega) (by omega) (by omega)) ⟨fun i => ?_, fun i => ?_, fun r hr => ?_, fun r hr i hi => ?_⟩⟩
      · rw [e33]
        split
        · omega
        · exact r1 i
      · rw [e34]
        split
        · exact sc_zero
        · exact r2 i
      · rw [e16, e33]
        by_cases hq : r = n
        · rw [if_pos hq, if_pos hq, if_neg c2]
        · rw [if_neg hq, if_neg hq]
          exact r3 r hr
      · rw [e34]
        by_cases hq : r = n
        · subst hq
          rw [er, if_pos hi, if_pos (by omega)]
        · rw [en (36 + r) (by omega) (by omega) (by omega) (by omega), if_neg (by omega)]
          exact r4 r hr i hi
  · rw [if_neg c1] at h1 h2
    obtain ⟨rfl, rfl⟩ := h1
    obtain ⟨rfl, rfl⟩ := h2
    exact ⟨rfl, ⟨_, rfl⟩, N, h⟩⟩
theorem pi_lay (l : Launch) (G : sc_G) (d e : Nat) (x z v : Int) (hx : sc_in x) (hz : sc_in z) (hv : sc_in v) : iv_pi iv_I l G (d + 1) (e + 3) mq_Sc_lay mq_Mo_lay [.inl (x), .inl (z), .inl (v)] := fun μ N h => ⟨_, sp_Sc_lay l G d μ h.2.2.1 x z v hx hz, fun r1 μ1 h1 => by
  try dsimp only at h1
  by_cases c1 : 0 ≤ x ∧ x ≤ 3
  · obtain ⟨n, rfl⟩ := Int.eq_ofNat_of_zero_le c1.1
    have hn4 : n < 4 := by omega
    have hm : μ1 33 = μ 33 ∧ μ1 34 = μ 34 := by
      rw [if_pos c1, Int.toNat_natCast] at h1
      (repeat' split at h1) <;> (obtain ⟨-, rfl⟩ := h1)
      · exact ⟨sc_meet_ne _ _ (by omega) (by omega), sc_meet_ne _ _ (by omega) (by omega)⟩
      · exact ⟨by rw [sc_up_ne _ _ _ (by omega), sc_up_ne _ _ _ (by omega)], by rw [sc_up_ne _ _ _ (by omega), sc_up_ne _ _ _ (by omega)]⟩
      · exact ⟨sc_meet_ne _ _ (by omega) (by omega), sc_meet_ne _ _ (by omega) (by omega)⟩
    refine ⟨_, sp_Mo_lay l G e μ1 (n : Int) z v hx hz (by rw [hm.1]; exact h.2.2.1.1), fun r2 μ2 h2 => ?_⟩
    try dsimp only at h2
    rw [hm.1, hm.2] at h2
    rw [if_pos c1, Int.toNat_natCast] at h1 h2
    by_cases c2 : μ 33 n < 0
    · rw [if_pos c2] at h1 h2
      obtain ⟨rfl, rfl⟩ := h1
      obtain ⟨rfl, rfl⟩ := h2
      exact ⟨rfl, ⟨_, rfl⟩, N, iv_meet h 1 (by omega)⟩
    · rw [if_neg c2] at h1 h2
      by_cases c3 : 0 ≤ z ∧ z < μ 33 n
      · rw [if_pos c3] at h1 h2
        obtain ⟨q, rfl⟩ := Int.eq_ofNat_of_zero_le c3.1
        rw [Int.toNat_natCast] at h1 h2
        obtain ⟨rfl, rfl⟩ := h1
        obtain ⟨rfl, rfl⟩ := h2
        obtain ⟨r1, r2, r3, r4⟩ := h.2.2.1
        have hq27 : q < 27 := by have := r1 n; omega
        refine ⟨rfl, ⟨_, rfl⟩, N, ?_⟩
        have h9 : iv_ok (sc_up (sc_up μ (36 + n) q v) 34 (27 * n + q) v) N := by
          have en : ∀ b, b ≠ 36 + n → b ≠ 34 → sc_up (sc_up μ (36 + n) q v) 34 (27 * n + q) v b = μ b := fun b b1 b2 => by rw [sc_up_ne _ _ _ b2, sc_up_ne _ _ _ b1]
          have e34 : ∀ j, sc_up (sc_up μ (36 + n) q v) 34 (27 * n + q) v 34 j = if j = 27 * n + q then v else μ 34 j := fun j => by rw [sc_up_eq, sc_up_ne _ _ _ (by omega)]
          have er : ∀ j, sc_up (sc_up μ (36 + n) q v) 34 (27 * n + q) v (36 + n) j = if j = q then v else μ (36 + n) j := fun j => by rw [sc_up_ne _ _ _ (by omega), sc_up_eq]
          refine iv_rows h (fun b hb => en b (by omega) (by omega)) ⟨by rw [en 33 (by omega) (by decide)]; exact r1, fun i => ?_, by rw [en 33 (by omega) (by decide), en 16 (by omega) (by decide)]; exact r3, fun r hr i hi => ?_⟩
          · rw [e34]
            split
            · exact hv
            · exact r2 i
          · rw [e34]
            by_cases hq : r = n
            · subst hq
              rw [er]
              by_cases hiq : i = q
              · rw [if_pos hiq, if_pos (by omega)]
              · rw [if_neg hiq, if_neg (by omega)]
                exact r4 r hr i hi
            · rw [en (36 + r) (by omega) (by omega), if_neg (by omega)]
              exact r4 r hr i hi
        have e2 : sc_up (sc_up (sc_up (sc_up μ (36 + n) q v) 0 7 (μ 34 (27 * n + q))) 18 2 (μ 34 (27 * n + q))) 34 (27 * n + q) v = sc_up (sc_up (sc_up (sc_up μ (36 + n) q v) 34 (27 * n + q) v) 0 7 (μ 34 (27 * n + q))) 18 2 (μ 34 (27 * n + q)) := by
          funext b j
          simp only [sc_up]
          by_cases hb1 : b = 34 ∧ j = 27 * n + q
          · rw [if_pos hb1, if_neg (by omega), if_neg (by omega), if_pos hb1]
          · rw [if_neg hb1, if_neg hb1]
        rw [e2]
        exact iv_ask h9 _ (fun _ _ => rfl) (fun _ _ => rfl) (mo_sc_cells h9.2.2.2 (fun b hb => by rw [sc_up_ne _ _ _ (by omega), sc_up_ne _ _ _ (by omega)]))
      · rw [if_neg c3] at h1 h2
        obtain ⟨rfl, rfl⟩ := h1
        obtain ⟨rfl, rfl⟩ := h2
        exact ⟨rfl, ⟨_, rfl⟩, N, iv_meet h 2 (by omega)⟩
  · rw [if_neg c1] at h1
    obtain ⟨rfl, rfl⟩ := h1
    refine ⟨_, sp_Mo_lay l G e μ1 x z v hx hz h.2.2.1.1, fun r2 μ2 h2 => ?_⟩
    try dsimp only at h2
    rw [if_neg c1] at h2
    obtain ⟨rfl, rfl⟩ := h2
    exact ⟨rfl, ⟨_, rfl⟩, N, h⟩⟩
theorem pi_firm (l : Launch) (G : sc_G) (d e : Nat) (x : Int) (z : Int) (hx : sc_in x) (hz : sc_in z) : iv_pi iv_I l G (d + 1) (e + 2) mq_Sc_firm mq_Mo_firm [.inl (x), .inl (z)] := fun μ N h => ⟨_, sp_Sc_firm l G d μ N h.1 x z hx hz, fun r1 μ1 h1 => by
  try dsimp only at h1
  have hm : mo_sm μ μ1 := by
    (repeat' split at h1) <;> first | (obtain ⟨-, rfl⟩ := h1; first | exact fun b _ => rfl | exact (fun b hb => by rw [sc_up_ne _ _ _ (by omega), sc_up_ne _ _ _ (by omega)]) | exact fun b hb => sc_wg_ne _ _ _ _ _ _ (by omega) | exact fun b hb => sc_fl_ne _ _ _ _ (by omega) | exact fun b hb => sc_meet_ne _ _ (by omega) (by omega) | exact fun b hb => sc_up_ne _ _ _ (by omega)) | (obtain ⟨-, k⟩ := h1; exact fun b hb => (k b (by omega)).trans (by first | rfl | exact sc_tel_ne _ _ _ (by omega) | exact sc_up_ne _ _ _ (by omega) | exact sc_meet_ne _ _ (by omega) (by omega)))
  have hsc : mo_sc μ1 := by
    (repeat' split at h1) <;> first | (obtain ⟨-, rfl⟩ := h1; first | exact h.2.2.2 | exact mo_sc_cells h.2.2.2 (fun b hb => by rw [sc_up_ne _ _ _ (by omega), sc_up_ne _ _ _ (by omega)]) | exact mo_sc_cells h.2.2.2 (fun b hb => sc_wg_ne _ _ _ _ _ _ (by omega)) | exact mo_sc_cells h.2.2.2 (fun b hb => sc_fl_ne _ _ _ _ (by omega)) | exact mo_sc_cells h.2.2.2 (fun b hb => sc_meet_ne _ _ (by omega) (by omega)) | exact mo_sc_cells h.2.2.2 (fun b hb => sc_up_ne _ _ _ (by omega))) | (obtain ⟨-, k⟩ := h1; exact mo_sc_cells h.2.2.2 (fun b hb => (k b (by omega)).trans (by first | rfl | exact sc_tel_ne _ _ _ (by omega) | exact sc_up_ne _ _ _ (by omega) | exact sc_meet_ne _ _ (by omega) (by omega))))
  have hw := mo_sm_w hm h.1.1
  refine ⟨_, sp_Mo_firm l G e μ1 N hw x z hx hz, fun r2 μ2 h2 => ?_⟩
  try dsimp only at h2
  rw [hm 20 (by omega), hm 21 (by omega), hm 25 (by omega)] at h2
  by_cases hc2 : 0 ≤ x ∧ x < (N : Int)
  · rw [if_pos hc2] at h1 h2
    by_cases hc4 : μ 20 x.toNat = 2
    · rw [if_pos hc4] at h1 h2
      by_cases hc6 : z = -9 ∨ 0 ≤ z ∧ z < μ 21 x.toNat
      · rw [if_pos hc6] at h1 h2
        obtain ⟨rfl, rfl⟩ := h1
        obtain ⟨rfl, rfl⟩ := h2
        exact ⟨rfl, ⟨_, rfl⟩, N, iv_firm h x.toNat (by omega) (by assumption) z (by assumption)⟩
      · rw [if_neg hc6] at h1 h2
        obtain ⟨rfl, rfl⟩ := h1
        obtain ⟨rfl, rfl⟩ := h2
        exact ⟨rfl, ⟨_, rfl⟩, N, iv_meet h 2 (by omega)⟩
    · rw [if_neg hc4] at h1 h2
      obtain ⟨rfl, rfl⟩ := h1
      obtain ⟨rfl, rfl⟩ := h2
      exact ⟨rfl, ⟨_, rfl⟩, N, iv_meet h 3 (by omega)⟩
  · rw [if_neg hc2] at h1 h2
    obtain ⟨rfl, rfl⟩ := h1
    obtain ⟨rfl, rfl⟩ := h2
    exact ⟨rfl, ⟨_, rfl⟩, N, h⟩⟩
theorem pi_sight (l : Launch) (G : sc_G) (d e : Nat) (x : Int) (z : Int) (hx : sc_in x) (hz : sc_in z) : iv_pi iv_I l G (d + 2) (e + 3) mq_Sc_sight mq_Mo_sight [.inl (x), .inl (z)] := fun μ N h => ⟨_, sp_Sc_sight l G d μ N h.1 x z hx hz, fun r1 μ1 h1 => by
  try dsimp only at h1
  have hm : mo_sm μ μ1 := by
    (repeat' split at h1) <;> first | (obtain ⟨-, rfl⟩ := h1; first | exact fun b _ => rfl | exact (fun b hb => by rw [sc_up_ne _ _ _ (by omega), sc_up_ne _ _ _ (by omega)]) | exact fun b hb => sc_wg_ne _ _ _ _ _ _ (by omega) | exact fun b hb => sc_fl_ne _ _ _ _ (by omega) | exact fun b hb => sc_meet_ne _ _ (by omega) (by omega) | exact fun b hb => sc_up_ne _ _ _ (by omega)) | (obtain ⟨-, k⟩ := h1; exact fun b hb => (k b (by omega)).trans (by first | rfl | exact sc_tel_ne _ _ _ (by omega) | exact sc_up_ne _ _ _ (by omega) | exact sc_meet_ne _ _ (by omega) (by omega)))
  have hsc : mo_sc μ1 := by
    (repeat' split at h1) <;> first | (obtain ⟨-, rfl⟩ := h1; first | exact h.2.2.2 | exact mo_sc_cells h.2.2.2 (fun b hb => by rw [sc_up_ne _ _ _ (by omega), sc_up_ne _ _ _ (by omega)]) | exact mo_sc_cells h.2.2.2 (fun b hb => sc_wg_ne _ _ _ _ _ _ (by omega)) | exact mo_sc_cells h.2.2.2 (fun b hb => sc_fl_ne _ _ _ _ (by omega)) | exact mo_sc_cells h.2.2.2 (fun b hb => sc_meet_ne _ _ (by omega) (by omega)) | exact mo_sc_cells h.2.2.2 (fun b hb => sc_up_ne _ _ _ (by omega))) | (obtain ⟨-, k⟩ := h1; exact mo_sc_cells h.2.2.2 (fun b hb => (k b (by omega)).trans (by first | rfl | exact sc_tel_ne _ _ _ (by omega) | exact sc_up_ne _ _ _ (by omega) | exact sc_meet_ne _ _ (by omega) (by omega))))
  have hw := mo_sm_w hm h.1.1
  refine ⟨_, sp_Mo_sight l G e μ1 N hw x z hx hz, fun r2 μ2 h2 => ?_⟩
  try dsimp only at h2
  rw [hm 20 (by omega), hm 24 (by omega)] at h2
  by_cases hc2 : 0 ≤ x ∧ x < (N : Int) ∧ 0 ≤ z ∧ z < x
  · rw [if_pos hc2] at h1 h2
    by_cases hc4 : μ 20 x.toNat = 2 ∧ μ 20 z.toNat = 1
    · rw [if_pos hc4] at h1 h2
      by_cases hc6 : sc_band (sc_bshr (μ 24 x.toNat) z) 1 = 1
      · rw [if_pos hc6] at h1 h2
        obtain ⟨rfl, rfl⟩ := h1
        obtain ⟨rfl, rfl⟩ := h2
        exact ⟨rfl, ⟨_, rfl⟩, N, h⟩
      · rw [if_neg hc6] at h1 h2
        obtain ⟨rfl, rfl⟩ := h1
        obtain ⟨rfl, rfl⟩ := h2
        have hV := (h.1.1.2.2.1 x.toNat (by omega)).2.2.2.2.2.1
        have hN1 := h.1.1.1
        obtain ⟨q, rfl⟩ := Int.eq_ofNat_of_zero_le hc2.2.2.1
        rw [Int.toNat_natCast] at hc4
        exact ⟨rfl, ⟨_, rfl⟩, N, iv_sig h x.toNat (by omega) hc4.1 _ (sc_bset_lt (μ 24 x.toNat) hV q (by omega)) (fun k hk hb9 => by
          rcases (mo_bt_or _ _ hV (sc_one_lt q (by omega)) k hk).mp hb9 with h9 | h9
          · exact h.1.2.1.2.1 x.toNat (by omega) k hk h9
          · rw [(mo_bt_one q k (by omega) hk).mp h9]; exact ⟨by omega, hc4.2⟩)⟩
    · rw [if_neg hc4] at h1 h2
      obtain ⟨rfl, rfl⟩ := h1
      obtain ⟨rfl, rfl⟩ := h2
      exact ⟨rfl, ⟨_, rfl⟩, N, iv_meet h 3 (by omega)⟩
  · rw [if_neg hc2] at h1 h2
    obtain ⟨rfl, rfl⟩ := h1
    obtain ⟨rfl, rfl⟩ := h2
    exact ⟨rfl, ⟨_, rfl⟩, N, h⟩⟩
theorem pi_blind (l : Launch) (G : sc_G) (d e : Nat) (x : Int) (z : Int) (hx : sc_in x) (hz : sc_in z) : iv_pi iv_I l G (d + 2) (e + 3) mq_Sc_blind mq_Mo_blind [.inl (x), .inl (z)] := fun μ N h => ⟨_, sp_Sc_blind l G d μ N h.1 x z hx hz, fun r1 μ1 h1 => by
  try dsimp only at h1
  have hm : mo_sm μ μ1 := by
    (repeat' split at h1) <;> first | (obtain ⟨-, rfl⟩ := h1; first | exact fun b _ => rfl | exact (fun b hb => by rw [sc_up_ne _ _ _ (by omega), sc_up_ne _ _ _ (by omega)]) | exact fun b hb => sc_wg_ne _ _ _ _ _ _ (by omega) | exact fun b hb => sc_fl_ne _ _ _ _ (by omega) | exact fun b hb => sc_meet_ne _ _ (by omega) (by omega) | exact fun b hb => sc_up_ne _ _ _ (by omega)) | (obtain ⟨-, k⟩ := h1; exact fun b hb => (k b (by omega)).trans (by first | rfl | exact sc_tel_ne _ _ _ (by omega) | exact sc_up_ne _ _ _ (by omega) | exact sc_meet_ne _ _ (by omega) (by omega)))
  have hsc : mo_sc μ1 := by
    (repeat' split at h1) <;> first | (obtain ⟨-, rfl⟩ := h1; first | exact h.2.2.2 | exact mo_sc_cells h.2.2.2 (fun b hb => by rw [sc_up_ne _ _ _ (by omega), sc_up_ne _ _ _ (by omega)]) | exact mo_sc_cells h.2.2.2 (fun b hb => sc_wg_ne _ _ _ _ _ _ (by omega)) | exact mo_sc_cells h.2.2.2 (fun b hb => sc_fl_ne _ _ _ _ (by omega)) | exact mo_sc_cells h.2.2.2 (fun b hb => sc_meet_ne _ _ (by omega) (by omega)) | exact mo_sc_cells h.2.2.2 (fun b hb => sc_up_ne _ _ _ (by omega))) | (obtain ⟨-, k⟩ := h1; exact mo_sc_cells h.2.2.2 (fun b hb => (k b (by omega)).trans (by first | rfl | exact sc_tel_ne _ _ _ (by omega) | exact sc_up_ne _ _ _ (by omega) | exact sc_meet_ne _ _ (by omega) (by omega))))
  have hw := mo_sm_w hm h.1.1
  refine ⟨_, sp_Mo_blind l G e μ1 N hw x z hx hz, fun r2 μ2 h2 => ?_⟩
  try dsimp only at h2
  rw [hm 20 (by omega), hm 24 (by omega)] at h2
  by_cases hc2 : 0 ≤ x ∧ x < (N : Int) ∧ 0 ≤ z ∧ z < (N : Int)
  · rw [if_pos hc2] at h1 h2
    by_cases hc4 : μ 20 x.toNat = 2
    · rw [if_pos hc4] at h1 h2
      by_cases hc6 : sc_band (sc_bshr (μ 24 x.toNat) z) 1 = 1
      · rw [if_pos hc6] at h1 h2
        obtain ⟨rfl, rfl⟩ := h1
        obtain ⟨rfl, rfl⟩ := h2
        have hV := (h.1.1.2.2.1 x.toNat (by omega)).2.2.2.2.2.1
        have hN1 := h.1.1.1
        obtain ⟨q, rfl⟩ := Int.eq_ofNat_of_zero_le hc2.2.2.1
        exact ⟨rfl, ⟨_, rfl⟩, N, iv_sig h x.toNat (by omega) hc4 _ (sc_bclr_lt (μ 24 x.toNat) hV q (by omega)) (fun k hk hb9 => h.1.2.1.2.1 x.toNat (by omega) k hk (mo_bt_clr _ hV _ k hk hb9))⟩
      · rw [if_neg hc6] at h1 h2
        obtain ⟨rfl, rfl⟩ := h1
        obtain ⟨rfl, rfl⟩ := h2
        exact ⟨rfl, ⟨_, rfl⟩, N, h⟩
    · rw [if_neg hc4] at h1 h2
      obtain ⟨rfl, rfl⟩ := h1
      obtain ⟨rfl, rfl⟩ := h2
      exact ⟨rfl, ⟨_, rfl⟩, N, iv_meet h 3 (by omega)⟩
  · rw [if_neg hc2] at h1 h2
    obtain ⟨rfl, rfl⟩ := h1
    obtain ⟨rfl, rfl⟩ := h2
    exact ⟨rfl, ⟨_, rfl⟩, N, h⟩⟩
theorem pi_worth (l : Launch) (G : sc_G) (d e : Nat) (x : Int) (z : Int) (v : Int) (hx : sc_in x) (hz : sc_in z) (hv : sc_in v) : iv_pi iv_I l G (d + 1) (e + 2) mq_Sc_worth mq_Mo_worth [.inl (x), .inl (z), .inl (v)] := fun μ N h => ⟨_, sp_Sc_worth l G d μ N h.1 x z v hx hz hv, fun r1 μ1 h1 => by
  try dsimp only at h1
  have hm : mo_sm μ μ1 := by
    (repeat' split at h1) <;> first | (obtain ⟨-, rfl⟩ := h1; first | exact fun b _ => rfl | exact (fun b hb => by rw [sc_up_ne _ _ _ (by omega), sc_up_ne _ _ _ (by omega)]) | exact fun b hb => sc_wg_ne _ _ _ _ _ _ (by omega) | exact fun b hb => sc_fl_ne _ _ _ _ (by omega) | exact fun b hb => sc_meet_ne _ _ (by omega) (by omega) | exact fun b hb => sc_up_ne _ _ _ (by omega)) | (obtain ⟨-, k⟩ := h1; exact fun b hb => (k b (by omega)).trans (by first | rfl | exact sc_tel_ne _ _ _ (by omega) | exact sc_up_ne _ _ _ (by omega) | exact sc_meet_ne _ _ (by omega) (by omega)))
  have hsc : mo_sc μ1 := by
    (repeat' split at h1) <;> first | (obtain ⟨-, rfl⟩ := h1; first | exact h.2.2.2 | exact mo_sc_cells h.2.2.2 (fun b hb => by rw [sc_up_ne _ _ _ (by omega), sc_up_ne _ _ _ (by omega)]) | exact mo_sc_cells h.2.2.2 (fun b hb => sc_wg_ne _ _ _ _ _ _ (by omega)) | exact mo_sc_cells h.2.2.2 (fun b hb => sc_fl_ne _ _ _ _ (by omega)) | exact mo_sc_cells h.2.2.2 (fun b hb => sc_meet_ne _ _ (by omega) (by omega)) | exact mo_sc_cells h.2.2.2 (fun b hb => sc_up_ne _ _ _ (by omega))) | (obtain ⟨-, k⟩ := h1; exact mo_sc_cells h.2.2.2 (fun b hb => (k b (by omega)).trans (by first | rfl | exact sc_tel_ne _ _ _ (by omega) | exact sc_up_ne _ _ _ (by omega) | exact sc_meet_ne _ _ (by omega) (by omega))))
  have hw := mo_sm_w hm h.1.1
  refine ⟨_, sp_Mo_worth l G e μ1 N hw x z v hx hz hv, fun r2 μ2 h2 => ?_⟩
  try dsimp only at h2
  rw [hm 20 (by omega), hm 21 (by omega), hm 22 (by omega), hm 23 (by omega), hm 26 (by omega)] at h2
  by_cases hc2 : (0 ≤ x ∧ x < (N : Int)) ∧ (-100 ≤ v ∧ v ≤ 100)
  · rw [if_pos hc2] at h1 h2
    by_cases hc4 : μ 20 x.toNat = 0
    · rw [if_pos hc4] at h1 h2
      by_cases hc6 : 0 ≤ z ∧ z < mo_by (μ 21) (μ 23) x.toNat (μ 22 x.toNat).toNat
      · rw [if_pos hc6] at h1 h2
        obtain ⟨n, rfl⟩ := Int.eq_ofNat_of_zero_le hc2.1.1
        obtain ⟨q, rfl⟩ := Int.eq_ofNat_of_zero_le hc6.1
        rw [Int.toNat_natCast, Int.toNat_natCast] at h1 h2
        rw [Int.toNat_natCast] at hc4 hc6
        obtain ⟨rfl, rfl⟩ := h1
        obtain ⟨rfl, rfl⟩ := h2
        have hby := mo_byb h.1.1 n (by omega)
        have hq27 : q < 27 := by omega
        refine ⟨rfl, ⟨_, rfl⟩, N, ?_⟩
        have h9 : iv_ok (sc_up (sc_up μ (42 + 3 * n) q v) 26 (27 * n + q) v) N := by
          have e26 : ∀ j, sc_up (sc_up μ (42 + 3 * n) q v) 26 (27 * n + q) v 26 j = if j = 27 * n + q then v else μ 26 j := fun j => by rw [sc_up_eq, sc_up_ne _ _ _ (by omega)]
          have et : ∀ j, sc_up (sc_up μ (42 + 3 * n) q v) 26 (27 * n + q) v (42 + 3 * n) j = if j = q then v else μ (42 + 3 * n) j := fun j => by rw [sc_up_ne _ _ _ (by omega), sc_up_eq]
          refine iv_tab h n (by omega) (fun b b1 b2 => by rw [sc_up_ne _ _ _ b1, sc_up_ne _ _ _ b2]) (fun k i hk hi => ?_) (fun i hi => ?_) (fun hK => ?_) (fun hK i hi => ?_)
          · rw [e26, if_neg (by omega)]
          · rw [e26]
            split
            · exact ⟨hc2.2.1, hc2.2.2, fun hK => by omega⟩
            · exact (h.1.1.2.2.1 n (by omega)).2.2.2.2.2.2.2 i hi
          · omega
          · rw [e26, et]
            by_cases hiq : i = q
            · rw [if_pos hiq, if_pos (by omega)]
            · rw [if_neg hiq, if_neg (by omega)]
              exact (h.1.2.2.2.1.2.2 n (by omega)).2.2.2.2.2.2.2.2 hK i hi
        have e2 : sc_up (sc_up (sc_up (sc_up μ (42 + 3 * n) q v) 0 7 (μ 26 (27 * n + q))) 18 2 (μ 26 (27 * n + q))) 26 (27 * n + q) v = sc_up (sc_up (sc_up (sc_up μ (42 + 3 * n) q v) 26 (27 * n + q) v) 0 7 (μ 26 (27 * n + q))) 18 2 (μ 26 (27 * n + q)) := by
          funext b j
          simp only [sc_up]
          by_cases hb1 : b = 26 ∧ j = 27 * n + q
          · rw [if_pos hb1, if_neg (by omega), if_neg (by omega), if_pos hb1]
          · rw [if_neg hb1, if_neg hb1]
        rw [e2]
        exact iv_ask h9 _ (fun _ _ => rfl) (fun _ _ => rfl) (mo_sc_cells h9.2.2.2 (fun b hb => by rw [sc_up_ne _ _ _ (by omega), sc_up_ne _ _ _ (by omega)]))
      · rw [if_neg hc6] at h1 h2
        obtain ⟨rfl, rfl⟩ := h1
        obtain ⟨rfl, rfl⟩ := h2
        exact ⟨rfl, ⟨_, rfl⟩, N, iv_meet h 2 (by omega)⟩
    · rw [if_neg hc4] at h1 h2
      obtain ⟨rfl, rfl⟩ := h1
      obtain ⟨rfl, rfl⟩ := h2
      exact ⟨rfl, ⟨_, rfl⟩, N, iv_meet h 3 (by omega)⟩
  · rw [if_neg hc2] at h1 h2
    obtain ⟨rfl, rfl⟩ := h1
    obtain ⟨rfl, rfl⟩ := h2
    exact ⟨rfl, ⟨_, rfl⟩, N, h⟩⟩
theorem pi_weigh (l : Launch) (G : sc_G) (d e : Nat) (x : Int) (z : Int) (a : Int) (b : Int) (hx : sc_in x) (hz : sc_in z) (ha : sc_in a) (hb : sc_in b) : iv_pi iv_I l G (d + 1) (e + 2) mq_Sc_weigh mq_Mo_weigh [.inl (x), .inl (z), .inl (a), .inl (b)] := fun μ N h => ⟨_, sp_Sc_weigh l G d μ N h.1 x z a b hx hz ha hb, fun r1 μ1 h1 => by
  try dsimp only at h1
  have hm : mo_sm μ μ1 := by
    (repeat' split at h1) <;> first | (obtain ⟨-, rfl⟩ := h1; first | exact fun b _ => rfl | exact (fun b hb => by rw [sc_up_ne _ _ _ (by omega), sc_up_ne _ _ _ (by omega)]) | exact fun b hb => sc_wg_ne _ _ _ _ _ _ (by omega) | exact fun b hb => sc_fl_ne _ _ _ _ (by omega) | exact fun b hb => sc_meet_ne _ _ (by omega) (by omega) | exact fun b hb => sc_up_ne _ _ _ (by omega)) | (obtain ⟨-, k⟩ := h1; exact fun b hb => (k b (by omega)).trans (by first | rfl | exact sc_tel_ne _ _ _ (by omega) | exact sc_up_ne _ _ _ (by omega) | exact sc_meet_ne _ _ (by omega) (by omega)))
  have hsc : mo_sc μ1 := by
    (repeat' split at h1) <;> first | (obtain ⟨-, rfl⟩ := h1; first | exact h.2.2.2 | exact mo_sc_cells h.2.2.2 (fun b hb => by rw [sc_up_ne _ _ _ (by omega), sc_up_ne _ _ _ (by omega)]) | exact mo_sc_cells h.2.2.2 (fun b hb => sc_wg_ne _ _ _ _ _ _ (by omega)) | exact mo_sc_cells h.2.2.2 (fun b hb => sc_fl_ne _ _ _ _ (by omega)) | exact mo_sc_cells h.2.2.2 (fun b hb => sc_meet_ne _ _ (by omega) (by omega)) | exact mo_sc_cells h.2.2.2 (fun b hb => sc_up_ne _ _ _ (by omega))) | (obtain ⟨-, k⟩ := h1; exact mo_sc_cells h.2.2.2 (fun b hb => (k b (by omega)).trans (by first | rfl | exact sc_tel_ne _ _ _ (by omega) | exact sc_up_ne _ _ _ (by omega) | exact sc_meet_ne _ _ (by omega) (by omega))))
  have hw := mo_sm_w hm h.1.1
  refine ⟨_, sp_Mo_weigh l G e μ1 N hw x z a b hx hz ha hb, fun r2 μ2 h2 => ?_⟩
  try dsimp only at h2
  rw [hm 20 (by omega), hm 21 (by omega), hm 22 (by omega), hm 23 (by omega)] at h2
  by_cases hc2 : (0 ≤ x ∧ x < (N : Int)) ∧ (0 ≤ a ∧ a ≤ 12) ∧ (0 ≤ b ∧ b ≤ 12) ∧ a + b ≤ 12 ∧ ¬ (μ 20 x.toNat = 1 ∧ μ 21 x.toNat = 2 ∧ a + b < 12)
  · rw [if_pos hc2] at h1 h2
    by_cases hc4 : μ 20 x.toNat = 1
    · rw [if_pos hc4] at h1 h2
      by_cases hc6 : 0 ≤ z ∧ z < mo_by (μ 21) (μ 23) x.toNat (μ 22 x.toNat).toNat
      · rw [if_pos hc6] at h1 h2
        obtain ⟨n, rfl⟩ := Int.eq_ofNat_of_zero_le hc2.1.1
        obtain ⟨q, rfl⟩ := Int.eq_ofNat_of_zero_le hc6.1
        rw [Int.toNat_natCast] at hc2 hc4 hc6
        rw [Int.toNat_natCast, Int.toNat_natCast] at h1 h2
        obtain ⟨rfl, rfl⟩ := h1
        obtain ⟨rfl, rfl⟩ := h2
        have hn : n < N := by omega
        have hby := mo_byb h.1.1 n hn
        have hb9 := hby.2.2 hc4
        have hS2 := (h.1.1.2.2.1 n hn).2.2.1 (by omega)
        have hta := (h.1.2.2.2.1.2.2 n hn).2.2.2.2.2.2.2.1 hc4
        obtain ⟨S, hS⟩ := Int.eq_ofNat_of_zero_le (show 0 ≤ μ 21 n by omega)
        have hSt : (μ 21 n).toNat = S := by omega
        rw [hSt]
        refine ⟨rfl, ⟨_, rfl⟩, N, iv_tab h n hn (fun b' b1 b2 => by rw [mo_wg_ne _ _ _ _ b1, sc_wg_ne _ _ _ _ _ _ b2]) (fun k i hk hi => ?_) (fun i hi => ?_) (fun hK r s hr hs => ?_) (fun hK => ?_)⟩
        · rw [mo_wg_tb, if_neg (by omega), if_neg (by omega), if_neg (by omega), sc_wg_ne _ _ _ _ _ _ (by omega)]
        · rw [mo_wg_tb, sc_wg_ne _ _ _ _ _ _ (by omega)]
          split
          · exact ⟨by omega, by omega, fun _ => ⟨by omega, by omega⟩⟩
          · split
            · exact ⟨by omega, by omega, fun _ => ⟨by omega, by omega⟩⟩
            · split
              · exact ⟨by omega, by omega, fun _ => ⟨by omega, by omega⟩⟩
              · exact (h.1.1.2.2.1 n hn).2.2.2.2.2.2.2 i hi
        · have ho := hta r s hr hs
          rw [hSt] at ho ⊢
          rw [mo_wg_tb, sc_wg_ne _ _ _ _ _ _ (by omega), mo_wg_ne _ _ _ _ (by omega), sc_wg_tb]
          have hS3 : S = 2 ∨ S = 3 := by omega
          rcases hS3 with rfl | rfl
          · rw [if_neg (by omega)]
            by_cases c1 : r * 2 + s = q * 2 + 1
            · rw [if_pos c1, if_neg (by omega), if_pos (by omega)]
            · rw [if_neg c1]
              by_cases c2 : r * 2 + s = q * 2
              · rw [if_pos c2, if_neg (by omega), if_neg (by omega), if_pos (by omega)]
              · rw [if_neg c2, if_neg (by omega), if_neg (by omega), if_neg (by omega)]
                exact ho
          · by_cases c0 : r * 3 + s = q * 3 + 2
            · rw [if_pos ⟨rfl, c0⟩, if_pos (by omega)]
            · rw [if_neg (fun k => c0 k.2), if_neg (show ¬ 27 * n + 3 * r + s = 27 * n + 3 * q + 2 by omega)]
              by_cases c1 : r * 3 + s = q * 3 + 1
              · rw [if_pos c1, if_pos (by omega)]
              · rw [if_neg c1, if_neg (show ¬ 27 * n + 3 * r + s = 27 * n + 3 * q + 1 by omega)]
                by_cases c2 : r * 3 + s = q * 3
                · rw [if_pos c2, if_pos (by omega)]
                · rw [if_neg c2, if_neg (by omega)]
                  exact ho
        · omega
      · rw [if_neg hc6] at h1 h2
        obtain ⟨rfl, rfl⟩ := h1
        obtain ⟨rfl, rfl⟩ := h2
        exact ⟨rfl, ⟨_, rfl⟩, N, iv_meet h 2 (by omega)⟩
    · rw [if_neg hc4] at h1 h2
      obtain ⟨rfl, rfl⟩ := h1
      obtain ⟨rfl, rfl⟩ := h2
      exact ⟨rfl, ⟨_, rfl⟩, N, iv_meet h 3 (by omega)⟩
  · rw [if_neg hc2] at h1 h2
    obtain ⟨rfl, rfl⟩ := h1
    obtain ⟨rfl, rfl⟩ := h2
    exact ⟨rfl, ⟨_, rfl⟩, N, h⟩⟩
theorem pi_fill (l : Launch) (G : sc_G) (d e : Nat) (x : Int) (z : Int) (hx : sc_in x) (hz : sc_in z) : iv_pi iv_I l G (d + 1) (e + 2) mq_Sc_fill mq_Mo_fill [.inl (x), .inl (z)] := fun μ N h => ⟨_, sp_Sc_fill l G d μ N h.1 h.2.2.1 x z hx hz, fun r1 μ1 h1 => by
  try dsimp only at h1
  have hm : mo_sm μ μ1 := by
    (repeat' split at h1) <;> first | (obtain ⟨-, rfl⟩ := h1; first | exact fun b _ => rfl | exact (fun b hb => by rw [sc_up_ne _ _ _ (by omega), sc_up_ne _ _ _ (by omega)]) | exact fun b hb => sc_wg_ne _ _ _ _ _ _ (by omega) | exact fun b hb => sc_fl_ne _ _ _ _ (by omega) | exact fun b hb => sc_meet_ne _ _ (by omega) (by omega) | exact fun b hb => sc_up_ne _ _ _ (by omega)) | (obtain ⟨-, k⟩ := h1; exact fun b hb => (k b (by omega)).trans (by first | rfl | exact sc_tel_ne _ _ _ (by omega) | exact sc_up_ne _ _ _ (by omega) | exact sc_meet_ne _ _ (by omega) (by omega)))
  have hsc : mo_sc μ1 := by
    (repeat' split at h1) <;> first | (obtain ⟨-, rfl⟩ := h1; first | exact h.2.2.2 | exact mo_sc_cells h.2.2.2 (fun b hb => by rw [sc_up_ne _ _ _ (by omega), sc_up_ne _ _ _ (by omega)]) | exact mo_sc_cells h.2.2.2 (fun b hb => sc_wg_ne _ _ _ _ _ _ (by omega)) | exact mo_sc_cells h.2.2.2 (fun b hb => sc_fl_ne _ _ _ _ (by omega)) | exact mo_sc_cells h.2.2.2 (fun b hb => sc_meet_ne _ _ (by omega) (by omega)) | exact mo_sc_cells h.2.2.2 (fun b hb => sc_up_ne _ _ _ (by omega))) | (obtain ⟨-, k⟩ := h1; exact mo_sc_cells h.2.2.2 (fun b hb => (k b (by omega)).trans (by first | rfl | exact sc_tel_ne _ _ _ (by omega) | exact sc_up_ne _ _ _ (by omega) | exact sc_meet_ne _ _ (by omega) (by omega))))
  have hw := mo_sm_w hm h.1.1
  have h33 : μ1 33 = μ 33 ∧ μ1 34 = μ 34 := by
    (repeat' split at h1) <;> (obtain ⟨-, rfl⟩ := h1) <;> first | exact ⟨rfl, rfl⟩ | exact ⟨sc_meet_ne _ _ (by omega) (by omega), sc_meet_ne _ _ (by omega) (by omega)⟩ | exact ⟨sc_fl_ne _ _ _ _ (by omega), sc_fl_ne _ _ _ _ (by omega)⟩
  refine ⟨_, sp_Mo_fill l G e μ1 N hw x z hx hz (by rw [h33.1]; exact h.2.2.1.1) (by rw [h33.2]; exact h.2.2.1.2.1), fun r2 μ2 h2 => ?_⟩
  try dsimp only at h2
  rw [h33.1] at h2
  rw [hm 20 (by omega), hm 21 (by omega), hm 22 (by omega), hm 23 (by omega)] at h2
  by_cases hc2 : (0 ≤ x ∧ x < (N : Int)) ∧ (0 ≤ z ∧ z ≤ 3)
  · rw [if_pos hc2] at h1 h2
    by_cases hc4 : μ 20 x.toNat = 0
    · rw [if_pos hc4] at h1 h2
      by_cases hc6 : μ 33 z.toNat < 0
      · rw [if_pos hc6] at h1 h2
        obtain ⟨rfl, rfl⟩ := h1
        obtain ⟨rfl, rfl⟩ := h2
        exact ⟨rfl, ⟨_, rfl⟩, N, iv_meet h 1 (by omega)⟩
      · rw [if_neg hc6] at h1 h2
        obtain ⟨n, rfl⟩ := Int.eq_ofNat_of_zero_le hc2.1.1
        obtain ⟨q, rfl⟩ := Int.eq_ofNat_of_zero_le hc2.2.1
        rw [Int.toNat_natCast] at hc4 hc6
        rw [Int.toNat_natCast, Int.toNat_natCast] at h1 h2
        have hn : n < N := by omega
        have hby := mo_byb h.1.1 n hn
        have hta := (h.1.2.2.2.1.2.2 n hn).2.2.2.2.2.2.2.2 hc4
        have hta0 := (h.1.1.2.2.1 n hn).2.2.2.2.2.2.2
        have hcb : ∀ c : Int, (c = if mo_by (μ 21) (μ 23) n (μ 22 n).toNat < μ 33 q then mo_by (μ 21) (μ 23) n (μ 22 n).toNat else μ 33 q) → 0 ≤ c ∧ c ≤ 27 := fun c hc => by split at hc <;> omega
        generalize hcc : (if mo_by (μ 21) (μ 23) n (μ 22 n).toNat < μ 33 q then mo_by (μ 21) (μ 23) n (μ 22 n).toNat else μ 33 q) = c at h1 h2 hcb
        have hc27 := hcb c rfl
        clear hcb
        obtain ⟨rfl, rfl⟩ := h1
        obtain ⟨rfl, rfl⟩ := h2
        obtain ⟨C, rfl⟩ := Int.eq_ofNat_of_zero_le hc27.1
        rw [Int.toNat_natCast]
        have e26 : ∀ j, mo_fl (sc_fl μ n (27 * q) C) n (27 * q) C 26 j = if 27 * n ≤ j ∧ j < 27 * n + C then sc_clp (μ 34 (27 * q + (j - 27 * n))) else μ 26 j := fun j => by
          unfold mo_fl
          rw [sc_arr_eq, sc_fl_ne _ _ _ _ (by omega), sc_fl_ne _ _ _ _ (by omega)]
        have et : ∀ j, mo_fl (sc_fl μ n (27 * q) C) n (27 * q) C (42 + 3 * n) j = if j < C then sc_clp (μ 34 (27 * q + j)) else μ (42 + 3 * n) j := fun j => by
          unfold mo_fl sc_fl
          rw [sc_arr_ne _ _ (by omega), sc_arr_eq]
        have hcl : ∀ v, -100 ≤ sc_clp v ∧ sc_clp v ≤ 100 := fun v => by unfold sc_clp; split <;> (try split) <;> omega
        refine ⟨rfl, ⟨_, rfl⟩, N, iv_tab h n hn (fun b b1 b2 => by unfold mo_fl; rw [sc_arr_ne _ _ b1, sc_fl_ne _ _ _ _ b2]) (fun k i hk hi => ?_) (fun i hi => ?_) (fun hK => ?_) (fun hK i hi => ?_)⟩
        · rw [e26, if_neg (by omega)]
        · rw [e26]
          split
          · exact ⟨(hcl _).1, (hcl _).2, fun hK => by omega⟩
          · exact hta0 i hi
        · omega
        · rw [e26, et]
          by_cases hiq : i < C
          · rw [if_pos hiq, if_pos (by omega), show 27 * n + i - 27 * n = i by omega]
          · rw [if_neg hiq, if_neg (by omega)]
            exact hta i hi
    · rw [if_neg hc4] at h1 h2
      obtain ⟨rfl, rfl⟩ := h1
      obtain ⟨rfl, rfl⟩ := h2
      exact ⟨rfl, ⟨_, rfl⟩, N, iv_meet h 3 (by omega)⟩
  · rw [if_neg hc2] at h1 h2
    obtain ⟨rfl, rfl⟩ := h1
    obtain ⟨rfl, rfl⟩ := h2
    exact ⟨rfl, ⟨_, rfl⟩, N, h⟩⟩
theorem pi_parent (l : Launch) (G : sc_G) (d e : Nat) (x p : Int) (hx : sc_in x) (hp : sc_in p) : iv_pi iv_I l G (d + 3) (e + 2) mq_Sc_parent mq_Mo_parent [.inl (x), .inl (p)] := fun μ N h => ⟨_, sp_Sc_parent l G d μ N h.1 x p hx hp, fun r1 μ1 h1 => by
  try dsimp only at h1
  have hm : mo_sm μ μ1 := by
    by_cases c1 : (0 ≤ x ∧ x < N) ∧ (0 ≤ p ∧ p < x) ∧ ¬ μ 20 p.toNat = 0 ∧ ¬ sc_any (fun k => μ 23 (3 * x.toNat + k)) p (μ 22 x.toNat).toNat = true
    · rw [if_pos c1] at h1
      by_cases c2 : μ 20 x.toNat = 2
      · rw [if_pos c2] at h1
        obtain ⟨-, rfl⟩ := h1
        exact fun b hb => sc_meet_ne _ _ (by omega) (by omega)
      · rw [if_neg c2] at h1
        by_cases c3 : μ 22 x.toNat = (if μ 20 x.toNat = 0 then 3 else 2)
        · rw [if_pos c3] at h1
          obtain ⟨-, rfl⟩ := h1
          exact fun b _ => rfl
        · rw [if_neg c3] at h1
          obtain ⟨-, rfl⟩ := h1
          exact fun b hb => sc_apm_ne _ _ _ _ _ (by omega)
    · rw [if_neg c1] at h1
      obtain ⟨-, rfl⟩ := h1
      exact fun b _ => rfl
  have hw := mo_sm_w hm h.1.1
  refine ⟨_, sp_Mo_parent l G e μ1 N hw x p hx hp, fun r2 μ2 h2 => ?_⟩
  try dsimp only at h2
  rw [hm 20 (by omega), hm 22 (by omega), hm 23 (by omega)] at h2
  by_cases c1 : (0 ≤ x ∧ x < N) ∧ (0 ≤ p ∧ p < x) ∧ ¬ μ 20 p.toNat = 0 ∧ ¬ sc_any (fun k => μ 23 (3 * x.toNat + k)) p (μ 22 x.toNat).toNat = true
  · rw [if_pos c1] at h1 h2
    by_cases c2 : μ 20 x.toNat = 2
    · rw [if_pos c2] at h1 h2
      obtain ⟨rfl, rfl⟩ := h1
      obtain ⟨rfl, rfl⟩ := h2
      exact ⟨rfl, ⟨_, rfl⟩, N, iv_meet h 3 (by omega)⟩
    · rw [if_neg c2] at h1 h2
      by_cases c3 : μ 22 x.toNat = (if μ 20 x.toNat = 0 then 3 else 2)
      · rw [if_pos c3] at h1 h2
        obtain ⟨rfl, rfl⟩ := h1
        obtain ⟨rfl, rfl⟩ := h2
        exact ⟨rfl, ⟨_, rfl⟩, N, h⟩
      · rw [if_neg c3] at h1 h2
        obtain ⟨rfl, rfl⟩ := h1
        obtain ⟨rfl, rfl⟩ := h2
        obtain ⟨n, rfl⟩ := Int.eq_ofNat_of_zero_le c1.1.1
        obtain ⟨q, rfl⟩ := Int.eq_ofNat_of_zero_le c1.2.1.1
        rw [Int.toNat_natCast] at c1 c2 c3 ⊢
        rw [Int.toNat_natCast] at c1 ⊢
        have h22 := (h.1.1.2.2.1 n (by omega)).2.2.2.1
        have h20 := (h.1.1.2.2.1 n (by omega)).1
        refine ⟨rfl, ⟨_, rfl⟩, N, iv_par h n (by omega) q (by omega) c1.2.2.1 c2 (μ 22 n).toNat (by omega) ?_ (fun k hk he => c1.2.2.2 (sc_any_true hk he))⟩
        by_cases hz : μ 20 n = 0
        · rw [if_pos hz] at c3 ⊢; omega
        · rw [if_neg hz] at c3 ⊢; have := h22.2.2.1 (by omega); omega
  · rw [if_neg c1] at h1 h2
    obtain ⟨rfl, rfl⟩ := h1
    obtain ⟨rfl, rfl⟩ := h2
    exact ⟨rfl, ⟨_, rfl⟩, N, h⟩⟩
theorem pi_copy (l : Launch) (G : sc_G) (d e : Nat) (x i z j n : Int) (hx : sc_in x) (hi : sc_in i) (hz : sc_in z) (hj : sc_in j) (hn : sc_in n) : iv_pi iv_I l G (d + 1) (e + 2) mq_Sc_copy mq_Mo_copy [.inl (x), .inl (i), .inl (z), .inl (j), .inl (n)] := fun μ N h => ⟨_, sp_Sc_copy l G d μ h.2.2.1 x i z j n hx hi hz hj hn, fun r1 μ1 h1 => by
  try dsimp only at h1
  have hm : μ1 33 = μ 33 := by
    (repeat' split at h1) <;> (obtain ⟨-, rfl⟩ := h1) <;> first | rfl | exact sc_meet_ne _ _ (by omega) (by omega) | (unfold sc_cp; funext q; exact if_neg (by omega))
  refine ⟨_, sp_Mo_copy l G e μ1 x i z j n hx hi hz hj hn (fun i => by rw [hm]; exact h.2.2.1.1 i), fun r2 μ2 h2 => ?_⟩
  try dsimp only at h2
  rw [hm] at h2
  by_cases c1 : (0 ≤ x ∧ x ≤ 3) ∧ (0 ≤ z ∧ z ≤ 3)
  · rw [if_pos c1] at h1 h2
    by_cases c2 : n < 0
    · rw [if_pos c2] at h1 h2
      obtain ⟨rfl, rfl⟩ := h1
      obtain ⟨rfl, rfl⟩ := h2
      exact ⟨rfl, ⟨_, rfl⟩, N, iv_meet h 5 (by omega)⟩
    · rw [if_neg c2] at h1 h2
      by_cases c3 : μ 33 x.toNat < 0 ∨ μ 33 z.toNat < 0
      · rw [if_pos c3] at h1 h2
        obtain ⟨rfl, rfl⟩ := h1
        obtain ⟨rfl, rfl⟩ := h2
        exact ⟨rfl, ⟨_, rfl⟩, N, iv_meet h 1 (by omega)⟩
      · rw [if_neg c3] at h1 h2
        by_cases c4 : i < 0 ∨ j < 0 ∨ μ 33 x.toNat < i + n ∨ μ 33 z.toNat < j + n
        · rw [if_pos c4] at h1 h2
          obtain ⟨rfl, rfl⟩ := h1
          obtain ⟨rfl, rfl⟩ := h2
          exact ⟨rfl, ⟨_, rfl⟩, N, iv_meet h 2 (by omega)⟩
        · rw [if_neg c4] at h1 h2
          obtain ⟨rfl, rfl⟩ := h1
          obtain ⟨rfl, rfl⟩ := h2
          obtain ⟨q1, q2, q3, q4⟩ := h.2.2.1
          have x27 := (q1 x.toNat).2
          have z27 := (q1 z.toNat).2
          have hxx : x.toNat < 4 := by omega
          have hzz : z.toNat < 4 := by omega
          have hin : i.toNat + n.toNat ≤ 27 := by omega
          have hjn : j.toNat + n.toNat ≤ 27 := by omega
          clear hm c4 c3 x27 z27
          generalize x.toNat = X at *
          generalize z.toNat = Z at *
          generalize i.toNat = I' at *
          generalize j.toNat = J' at *
          generalize n.toNat = L at *
          have en : ∀ b, b ≠ 34 → b ≠ 35 → b ≠ 36 + Z → mo_cpy (sc_cp μ (36 + X) (36 + Z) I' J' L) (27 * X + I') (27 * Z + J') L b = μ b := fun b b1 b2 b3 => by
            unfold mo_cpy mo_cp2 mo_cp1
            rw [sc_arr_ne _ _ b1, sc_arr_ne _ _ b2]
            unfold sc_cp
            funext q
            exact if_neg (fun k => b3 k.1)
          have er : ∀ q, mo_cpy (sc_cp μ (36 + X) (36 + Z) I' J' L) (27 * X + I') (27 * Z + J') L (36 + Z) q = if J' ≤ q ∧ q < J' + L then μ (36 + X) (I' + (q - J')) else μ (36 + Z) q := fun q => by
            unfold mo_cpy mo_cp2 mo_cp1
            rw [sc_arr_ne _ _ (by omega), sc_arr_ne _ _ (by omega)]
            unfold sc_cp
            by_cases c : J' ≤ q ∧ q < J' + L
            · rw [if_pos ⟨rfl, c⟩, if_pos c]
            · rw [if_neg (fun k => c k.2), if_neg c]
          have e34 : ∀ q, mo_cpy (sc_cp μ (36 + X) (36 + Z) I' J' L) (27 * X + I') (27 * Z + J') L 34 q = if 27 * Z + J' ≤ q ∧ q < 27 * Z + J' + L then μ 34 (27 * X + I' + (q - (27 * Z + J'))) else μ 34 q := fun q => by
            have e9 : ∀ b, b ≠ 36 + Z → sc_cp μ (36 + X) (36 + Z) I' J' L b = μ b := fun b hb => by
              unfold sc_cp
              funext q
              exact if_neg (fun k => hb k.1)
            unfold mo_cpy mo_cp2
            rw [sc_arr_eq]
            unfold mo_cp1
            rw [sc_arr_eq, sc_arr_ne _ _ (by decide), e9 34 (by omega)]
            by_cases c : 27 * Z + J' ≤ q ∧ q < 27 * Z + J' + L
            · rw [if_pos c, if_pos c]
              exact if_pos (by omega)
            · rw [if_neg c, if_neg c]
          generalize mo_cpy (sc_cp μ (36 + X) (36 + Z) I' J' L) (27 * X + I') (27 * Z + J') L = m at en er e34 ⊢
          refine ⟨rfl, ⟨_, rfl⟩, N, iv_rows h (fun b hb => en b (by omega) (by omega) (by omega)) ⟨by rw [en 33 (by omega) (by omega) (by omega)]; exact q1, fun q => ?_, by rw [en 33 (by omega) (by omega) (by omega), en 16 (by omega) (by omega) (by omega)]; exact q3, fun r hr q hq => ?_⟩⟩
          · rw [e34]
            split
            · exact q2 _
            · exact q2 _
          · rw [e34]
            by_cases hrz : r = Z
            · subst hrz
              rw [er]
              by_cases c : J' ≤ q ∧ q < J' + L
              · rw [if_pos c, if_pos (by omega), q4 X hxx _ (by omega)]
                congr 1
                omega
              · rw [if_neg c, if_neg (by omega)]
                exact q4 r hr q hq
            · rw [en (36 + r) (by omega) (by omega) (by omega), if_neg (by omega)]
              exact q4 r hr q hq
  · rw [if_neg c1] at h1 h2
    obtain ⟨rfl, rfl⟩ := h1
    obtain ⟨rfl, rfl⟩ := h2
    exact ⟨rfl, ⟨_, rfl⟩, N, h⟩⟩
theorem pi_node (l : Launch) (G : sc_G) (d e : Nat) (x z : Int) (hx : sc_in x) (hz : sc_in z) : iv_pi iv_I l G (d + 4) (e + 2) mq_Sc_node mq_Mo_node [.inl (x), .inl (z)] := fun μ N h => ⟨_, sp_Sc_node l G d μ N h.1 x z hx hz, fun r1 μ1 h1 => by
  try dsimp only at h1
  have hm : mo_sm μ μ1 := by
    (repeat' split at h1) <;> (obtain ⟨-, rfl⟩ := h1) <;> first | exact fun b _ => rfl | exact fun b hb => sc_adm_ne _ _ _ _ (by omega) (by omega)
  have hw := mo_sm_w hm h.1.1
  refine ⟨_, sp_Mo_node l G e μ1 N hw x z hx hz, fun r2 μ2 h2 => ?_⟩
  try dsimp only at h2
  rw [hm 20 (by omega), hm 21 (by omega)] at h2
  by_cases c1 : (0 ≤ x ∧ x ≤ 2) ∧ (x = 0 ∨ (2 ≤ z ∧ z ≤ 3))
  · rw [if_pos c1] at h1 h2
    by_cases c2 : N = 10
    · rw [if_pos c2] at h1 h2
      obtain ⟨rfl, rfl⟩ := h1
      obtain ⟨rfl, rfl⟩ := h2
      exact ⟨rfl, ⟨_, rfl⟩, N, h⟩
    · rw [if_neg c2] at h1 h2
      by_cases c3 : ¬ x = 0 ∧ 243 < mo_sd (μ 20) (μ 21) N * z
      · rw [if_pos c3] at h1 h2
        obtain ⟨rfl, rfl⟩ := h1
        obtain ⟨rfl, rfl⟩ := h2
        exact ⟨rfl, ⟨_, rfl⟩, N, h⟩
      · rw [if_neg c3] at h1 h2
        obtain ⟨rfl, rfl⟩ := h1
        obtain ⟨rfl, rfl⟩ := h2
        have hN1 := h.1.1.1
        refine ⟨rfl, ⟨_, rfl⟩, N + 1, ?_⟩
        by_cases h0 : x = 0
        · rw [if_pos h0]
          exact iv_nod h (by omega) x 0 c1.1 (fun _ => rfl) (fun h9 => absurd h0 h9)
        · rw [if_neg h0]
          obtain ⟨S, rfl⟩ := Int.eq_ofNat_of_zero_le (show 0 ≤ z by omega)
          exact iv_nod h (by omega) x S c1.1 (fun h9 => absurd h9 h0) (fun _ => ⟨by omega, by
            generalize mo_sd (μ 20) (μ 21) N * (S : Int) = q at c3 ⊢
            omega⟩)
  · rw [if_neg c1] at h1 h2
    obtain ⟨rfl, rfl⟩ := h1
    obtain ⟨rfl, rfl⟩ := h2
    exact ⟨rfl, ⟨_, rfl⟩, N, h⟩⟩
theorem pi_bestForgetting (l : Launch) (G : sc_G) (d e : Nat) : iv_pi iv_I l G (d + 6) (e + 5) mq_Sc_bestForgetting mq_Mo_bestForgetting [] := fun μ N h => ⟨_, sp_Sc_bestForgetting l G d μ N h.1, fun r1 μ1 h1 => by
  try dsimp only at h1
  by_cases c1 : 512 < fo_pl μ N
  · rw [if_pos c1] at h1
    obtain ⟨rfl, k1⟩ := h1
    obtain ⟨hs, hw, hsc⟩ := iv_ref h k1 (fun b hb => rfl)
    refine ⟨_, sp_Mo_bestForgetting l G e μ1 N hw hsc (na_sd μ N) (by rw [hs 20 (by omega), hs 21 (by omega)]; exact iv_W h.1.1), fun r2 μ2 h2 => ?_⟩
    try dsimp only at h2
    rw [fo_pl_sm hs, if_pos c1] at h2
    obtain ⟨rfl, rfl⟩ := h2
    exact ⟨rfl, ⟨_, rfl⟩, N, iv_kp h k1 (fun b hb => rfl) hsc⟩
  · rw [if_neg c1] at h1
    obtain ⟨rfl, k1⟩ := h1
    obtain ⟨hs, hw, hsc⟩ := iv_ref h k1 (fun b hb => sc_tel_ne _ _ _ (by omega))
    refine ⟨_, sp_Mo_bestForgetting l G e μ1 N hw hsc (na_sd μ N) (by rw [hs 20 (by omega), hs 21 (by omega)]; exact iv_W h.1.1), fun r2 μ2 h2 => ?_⟩
    try dsimp only at h2
    rw [fo_pl_sm hs, if_neg c1] at h2
    obtain ⟨rfl, k2, s2⟩ := h2
    rw [fo_sum_sm hs, hs 20 (by omega), hs 18 (by omega)] at k2
    exact ⟨rfl, ⟨_, rfl⟩, N, iv_tel h _ _ k1 (mo_kq_kp k2) s2⟩⟩
theorem pi_lost (l : Launch) (G : sc_G) (d e : Nat) : iv_pi iv_I l G (d + 8) (e + 5) mq_Sc_lost mq_Mo_lost [] := fun μ N h => ⟨_, sp_Sc_lost l G d μ N h.1, fun r1 μ1 h1 => by
  try dsimp only at h1
  by_cases c1 : 512 < fo_pl μ N
  · rw [if_pos c1] at h1
    obtain ⟨rfl, k1⟩ := h1
    obtain ⟨hs, hw, hsc⟩ := iv_ref h k1 (fun b hb => rfl)
    refine ⟨_, sp_Mo_lost l G e μ1 N hw hsc (na_sd μ N) (by rw [hs 20 (by omega), hs 21 (by omega)]; exact iv_W h.1.1), fun r2 μ2 h2 => ?_⟩
    try dsimp only at h2
    rw [fo_pl_sm hs, if_pos c1] at h2
    obtain ⟨rfl, rfl⟩ := h2
    exact ⟨rfl, ⟨_, rfl⟩, N, iv_kp h k1 (fun b hb => rfl) hsc⟩
  · rw [if_neg c1] at h1
    obtain ⟨rfl, k1⟩ := h1
    obtain ⟨hs, hw, hsc⟩ := iv_ref h k1 (fun b hb => sc_tel_ne _ _ _ (by omega))
    refine ⟨_, sp_Mo_lost l G e μ1 N hw hsc (na_sd μ N) (by rw [hs 20 (by omega), hs 21 (by omega)]; exact iv_W h.1.1), fun r2 μ2 h2 => ?_⟩
    try dsimp only at h2
    rw [fo_pl_sm hs, if_neg c1] at h2
    obtain ⟨rfl, k2, s2⟩ := h2
    rw [fo_sum_sm hs, md_best_sm hs, hs 20 (by omega), hs 18 (by omega)] at k2
    exact ⟨rfl, ⟨_, rfl⟩, N, iv_tel h _ _ k1 (mo_kq_kp k2) s2⟩⟩
