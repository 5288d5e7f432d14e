theorem iv_gen {μ μ2 : sc_M} {N : Nat} (h : iv_ok μ N) (e : ∀ b, b = 2 ∨ b = 16 ∨ (20 ≤ b ∧ b ≤ 26) ∨ b = 33 ∨ b = 34 ∨ 36 ≤ b → μ2 b = μ b) (e5 : μ2 18 5 = μ 18 5) (e13 : μ2 18 13 = μ 18 13) (t : iv_tl μ2) (s : mo_sc μ2) : iv_ok μ2 N := ⟨iv_ch_cells h.1 (fun b hb => e b (by omega)) e5 e13, t, iv_rw_cells h.2.2.1 (fun b hb => e b (by omega)), s⟩
theorem sc_tel_ne (μ : sc_M) (u l : Int) {b : Nat} (h : b ≠ 0) : sc_tel μ u l b = μ b := by
  unfold sc_tel
  rw [sc_up_ne _ _ _ h, sc_up_ne _ _ _ h]
theorem mo_tel_ne (μ : sc_M) (u l : Int) {b : Nat} (h : b ≠ 18) : mo_tel μ u l b = μ b := by
  unfold mo_tel
  rw [sc_up_ne _ _ _ h, sc_up_ne _ _ _ h]
theorem iv_tel {μ μ1 μ2 : sc_M} {N : Nat} (h : iv_ok μ N) (u l : Int) (k1 : sc_kp (sc_tel μ u l) μ1) (k2 : mo_kq (mo_tel μ1 u l) μ2) (s : mo_sc μ2) : iv_ok μ2 N := by
  obtain ⟨t1, t2, t3, t4, t5⟩ := h.2.1
  have e18 : ∀ j, μ2 18 j = if j = 4 then l.tdiv (Nat.gcd u.natAbs l.natAbs : Int) else if j = 3 then u.tdiv (Nat.gcd u.natAbs l.natAbs : Int) else μ 18 j := fun j => by
    rw [k2 18 (by omega)]
    unfold mo_tel
    rw [sc_up_eq, sc_up_eq, k1 18 (by omega), sc_tel_ne _ _ _ (by decide)]
  have e0 : ∀ j, μ2 0 j = if j = 9 then l.tdiv (Nat.gcd u.natAbs l.natAbs : Int) else if j = 8 then u.tdiv (Nat.gcd u.natAbs l.natAbs : Int) else μ 0 j := fun j => by
    rw [k2 0 (by omega), mo_tel_ne _ _ _ (by decide), k1 0 (by omega)]
    unfold sc_tel
    rw [sc_up_eq, sc_up_eq]
  refine iv_gen h (fun b hb => ?_) (by rw [e18]; rfl) (by rw [e18]; rfl) ⟨by rw [e0, e18]; exact t1, by rw [e0, e18]; exact t2, by rw [e0, e18]; rfl, by rw [e0, e18]; rfl, fun k hk => ?_⟩ s
  · rw [k2 b (by omega), mo_tel_ne _ _ _ (by omega), k1 b (by omega), sc_tel_ne _ _ _ (by omega)]
  · rw [k2 17 (by omega), k2 19 (by omega), mo_tel_ne _ _ _ (by decide), mo_tel_ne _ _ _ (by decide), k1 17 (by omega), k1 19 (by omega), sc_tel_ne _ _ _ (by decide), sc_tel_ne _ _ _ (by decide)]
    exact t5 k hk
theorem iv_ask {μ μ1 μ2 : sc_M} {N : Nat} (h : iv_ok μ N) (v : Int) (k1 : sc_kp (sc_up μ 0 7 v) μ1) (k2 : mo_kq (sc_up μ1 18 2 v) μ2) (s : mo_sc μ2) : iv_ok μ2 N := by
  obtain ⟨t1, t2, t3, t4, t5⟩ := h.2.1
  have e18 : ∀ j, μ2 18 j = if j = 2 then v else μ 18 j := fun j => by
    rw [k2 18 (by omega), sc_up_eq, k1 18 (by omega), sc_up_ne _ _ _ (by decide)]
  have e0 : ∀ j, μ2 0 j = if j = 7 then v else μ 0 j := fun j => by
    rw [k2 0 (by omega), sc_up_ne _ _ _ (by decide), k1 0 (by omega), sc_up_eq]
  have eb : ∀ b, b ≠ 0 → b ≠ 18 → (b = 2 ∨ (15 ≤ b ∧ b ≤ 26) ∨ b = 33 ∨ b = 34 ∨ 36 ≤ b) → μ2 b = μ b := fun b h1 h2 h3 => by
    rw [k2 b (by omega), sc_up_ne _ _ _ h2, k1 b (by omega), sc_up_ne _ _ _ h1]
  refine iv_gen h (fun b hb => eb b (by omega) (by omega) (by omega)) (by rw [e18]; rfl) (by rw [e18]; rfl) ⟨by rw [e0, e18]; exact t1, by rw [e0, e18]; rfl, by rw [e0, e18]; exact t3, by rw [e0, e18]; exact t4, fun k hk => ?_⟩ s
  rw [eb 17 (by omega) (by omega) (by omega), eb 19 (by omega) (by omega) (by omega)]
  exact t5 k hk
theorem iv_kp {μ μ1 μ2 : sc_M} {N : Nat} (h : iv_ok μ N) (k1 : sc_kp μ μ1) (k2 : mo_kq μ1 μ2) (s : mo_sc μ2) : iv_ok μ2 N := by
  obtain ⟨t1, t2, t3, t4, t5⟩ := h.2.1
  have eb : ∀ b, b = 0 ∨ b = 2 ∨ (15 ≤ b ∧ b ≤ 26) ∨ b = 33 ∨ b = 34 ∨ 36 ≤ b → μ2 b = μ b := fun b h3 => by rw [k2 b (by omega), k1 b (by omega)]
  refine iv_gen h (fun b hb => eb b (by omega)) (by rw [eb 18 (by omega)]) (by rw [eb 18 (by omega)]) ?_ s
  unfold iv_tl
  rw [eb 0 (by omega), eb 17 (by omega), eb 18 (by omega), eb 19 (by omega)]
  exact h.2.1
/-- what the reference finds behind the class's call -/
theorem iv_ref {μ ν μ1 : sc_M} {N : Nat} (h : iv_ok μ N) (k1 : sc_kp ν μ1) (e : ∀ b, (18 ≤ b ∧ b ≤ 35) → ν b = μ b) : mo_sm μ μ1 ∧ mo_w μ1 N ∧ mo_sc μ1 := by
  have hs : mo_sm μ μ1 := fun b hb => by rw [k1 b (by omega), e b (by omega)]
  exact ⟨hs, mo_sm_w hs h.1.1, mo_sc_cells h.2.2.2 (fun b hb => by rw [k1 b (by omega), e b (by omega)])⟩
theorem iv_meet_kp {μ μ1 : sc_M} {N : Nat} (h : iv_ok μ N) (x : Nat) (hx : x < 6) (k1 : sc_kp (sc_meet μ x) μ1) : iv_ok (mo_meet μ1 x) N := by
  have h2 := iv_meet h x hx
  have e : ∀ b, b = 0 ∨ b = 2 ∨ b = 3 ∨ 15 ≤ b → mo_meet μ1 x b = mo_meet (sc_meet μ x) x b := fun b hb => by
    unfold mo_meet
    funext j
    simp only [sc_up, k1 b hb, k1 19 (by omega)]
  exact ⟨iv_ch_cells h2.1 (fun b hb => e b (by omega)) (by rw [e 18 (by omega)]) (by rw [e 18 (by omega)]), by unfold iv_tl; rw [e 0 (by omega), e 17 (by omega), e 18 (by omega), e 19 (by omega)]; exact h2.2.1, iv_rw_cells h2.2.2.1 (fun b hb => e b (by omega)), mo_sc_cells h2.2.2.2 (fun b hb => e b (by omega))⟩
theorem pr_best (l : Launch) (G : sc_G) (d e : Nat) : iv_pr l G (d + 8) (e + 5) mq_Sc_best mq_Mo_best [] := fun μ N h => ⟨_, sp_Sc_best l G d μ N h.1, fun r1 μ1 h1 => by
  obtain ⟨rfl, k1⟩ := h1
  obtain ⟨hs, hw, hsc⟩ := iv_ref h k1 (fun b hb => sc_tel_ne _ _ _ (by omega))
  refine ⟨_, sp_Mo_best l G e μ1 N hw hsc (na_sd μ N) (by rw [hs 20 (by omega), hs 21 (by omega)]; exact iv_W h.1.1), fun r2 μ2 h2 => ?_⟩
  obtain ⟨rfl, k2, s2⟩ := h2
  rw [md_best_sm hs, hs 20 (by omega), hs 18 (by omega)] at k2
  exact ⟨rfl, N, iv_tel h _ _ k1 (mo_kq_kp k2) s2⟩⟩
theorem pr_knowing (l : Launch) (G : sc_G) (d e : Nat) : iv_pr l G (d + 8) (e + 5) mq_Sc_knowing mq_Mo_knowing [] := fun μ N h => ⟨_, sp_Sc_knowing l G d μ N h.1, fun r1 μ1 h1 => by
  obtain ⟨rfl, k1⟩ := h1
  obtain ⟨hs, hw, hsc⟩ := iv_ref h k1 (fun b hb => sc_tel_ne _ _ _ (by omega))
  refine ⟨_, sp_Mo_knowing l G e μ1 N hw hsc (na_sd μ N) (by rw [hs 20 (by omega), hs 21 (by omega)]; exact iv_W h.1.1), fun r2 μ2 h2 => ?_⟩
  obtain ⟨rfl, k2, s2⟩ := h2
  have eall : mo_all μ1 N = mo_all μ N := by unfold mo_all; rw [hs 20 (by omega), hs 24 (by omega)]
  have hs2 : mo_sm (sc_arr μ 24 (mo_all μ N)) (sc_arr μ1 24 (mo_all μ1 N)) := fun b hb => by
    by_cases h4 : b = 24
    · subst h4; rw [sc_arr_eq, sc_arr_eq, eall]
    · rw [sc_arr_ne _ _ h4, sc_arr_ne _ _ h4, hs b hb]
  rw [md_best_sm hs, md_best_sm hs2, hs 20 (by omega), hs 18 (by omega)] at k2
  exact ⟨rfl, N, iv_tel h _ _ k1 k2 s2⟩⟩
theorem pr_end (l : Launch) (G : sc_G) (d e : Nat) (most : Int) (hm : sc_in most) : iv_pr l G (d + 6) (e + 4) mq_Sc_end mq_Mo_end [.inl (most)] := fun μ N h => ⟨_, sp_Sc_end l G d μ N h.1 most hm, fun r1 μ1 h1 => by
  obtain ⟨rfl, k1⟩ := h1
  obtain ⟨hs, hw, hsc⟩ := iv_ref h k1 (fun b hb => sc_up_ne _ _ _ (by omega))
  refine ⟨_, sp_Mo_end l G e μ1 N hw hsc (na_sd μ N) (by rw [hs 20 (by omega), hs 21 (by omega)]; exact iv_W h.1.1) most hm, fun r2 μ2 h2 => ?_⟩
  obtain ⟨rfl, k2, s2⟩ := h2
  rw [md_cm_sm hs, md_kn_sm hs, md_PL_sm hs, md_wt_sm hs, md_on_sm hs] at k2
  exact ⟨rfl, N, iv_ask h _ k1 (mo_kq_kp k2) s2⟩⟩
theorem pr_told (l : Launch) (G : sc_G) (d e : Nat) (x t : Int) (hx : sc_in x) (ht : sc_in t) : iv_pr l G (d + 2) (e + 3) mq_Sc_told mq_Mo_told [.inl (x), .inl (t)] := fun μ N h => ⟨_, sp_Sc_told l G d μ N h.1 x t hx ht, fun r1 μ1 h1 => by
  obtain ⟨rfl, rfl⟩ := h1
  refine ⟨_, sp_Mo_told l G e μ1 N h.1.1 x t hx ht, fun r2 μ2 h2 => ?_⟩
  obtain ⟨rfl, rfl⟩ := h2
  exact ⟨rfl, N, h⟩⟩
theorem pr_count (l : Launch) (G : sc_G) (d e : Nat) (t : Int) (ht : sc_in t) : iv_pr l G (d + 1) (e + 1) mq_Sc_count mq_Mo_count [.inl (t)] := fun μ N h => ⟨_, sp_Sc_count l G d μ N h.1 t ht, fun r1 μ1 h1 => by
  obtain ⟨rfl, rfl⟩ := h1
  refine ⟨_, sp_Mo_count l G e μ1 N h.1.1 t ht, fun r2 μ2 h2 => ?_⟩
  obtain ⟨rfl, rfl⟩ := h2
  exact ⟨rfl, N, h⟩⟩
theorem pr_digest (l : Launch) (G : sc_G) (d e : Nat) : iv_pr l G (d + 3) (e + 3) mq_Sc_digest mq_Mo_digest [] := fun μ N h => ⟨_, sp_Sc_digest l G d μ N h.1 h.2.2.1, fun r1 μ1 h1 => by
  obtain ⟨rfl, rfl⟩ := h1
  refine ⟨_, sp_Mo_digest l G e μ1 N h.1.1 h.2.2.1.1 h.2.2.1.2.1, fun r2 μ2 h2 => ?_⟩
  obtain ⟨rfl, rfl⟩ := h2
  exact ⟨rfl, N, h⟩⟩
