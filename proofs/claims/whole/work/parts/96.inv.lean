/-! BOTH SIDES TOGETHER -/
def iv_ch (μ : sc_M) (N : Nat) : Prop := mo_w μ N ∧ mo_x μ N ∧ μ 18 13 = -9 ∧ cn_ok μ μ N ∧ (∀ n, n < N → μ (40 + 3 * n) 4 = μ 24 n) ∧ ∀ n, N ≤ n → n < 10 → μ (40 + 3 * n) 4 = 0 ∧ μ (40 + 3 * n) 5 = 0
def iv_tl (μ : sc_M) : Prop := μ 0 6 = μ 18 0 ∧ μ 0 7 = μ 18 2 ∧ μ 0 8 = μ 18 3 ∧ μ 0 9 = μ 18 4 ∧ ∀ k, k < 6 → μ 17 k = μ 19 k
def iv_rw (μ : sc_M) : Prop := (∀ i, -9 ≤ μ 33 i ∧ μ 33 i ≤ 27) ∧ (∀ i, sc_in (μ 34 i)) ∧ (∀ r, r < 4 → μ 16 r = if μ 33 r < 0 then -1 else μ 33 r) ∧ ∀ r, r < 4 → ∀ i, i < 27 → μ (36 + r) i = μ 34 (27 * r + i)
def iv_ok (μ : sc_M) (N : Nat) : Prop := iv_ch μ N ∧ iv_tl μ ∧ iv_rw μ ∧ mo_sc μ
theorem mo_w_cells2 {μ μ' : sc_M} {N : Nat} (h : mo_w μ N) (e : ∀ b, 20 ≤ b ∧ b ≤ 26 → μ' b = μ b) (e5 : μ' 18 5 = μ 18 5) (e13 : μ' 18 13 = μ 18 13) : mo_w μ' N := by
  unfold mo_w mo_nd at *
  rw [e 20 (by omega), e 21 (by omega), e 22 (by omega), e 23 (by omega), e 24 (by omega), e 25 (by omega), e 26 (by omega), e5, e13]
  exact h
theorem mo_x_cells {μ μ' : sc_M} {N : Nat} (h : mo_x μ N) (e : ∀ b, 20 ≤ b ∧ b ≤ 25 → μ' b = μ b) : mo_x μ' N := by
  unfold mo_x at *
  rw [e 20 (by omega), e 21 (by omega), e 22 (by omega), e 23 (by omega), e 24 (by omega), e 25 (by omega)]
  exact h
theorem cn_ok_chart {M M' μ : sc_M} {N : Nat} (h : cn_ok M μ N) (e : ∀ b, 20 ≤ b ∧ b ≤ 26 → M' b = M b) : cn_ok M' μ N := by
  unfold cn_ok cn_nd at *
  rw [e 20 (by omega), e 21 (by omega), e 22 (by omega), e 23 (by omega), e 25 (by omega), e 26 (by omega)]
  exact h
theorem iv_ch_cells {μ μ' : sc_M} {N : Nat} (h : iv_ch μ N) (e : ∀ b, b = 2 ∨ (20 ≤ b ∧ b ≤ 26) ∨ 40 ≤ b → μ' b = μ b) (e5 : μ' 18 5 = μ 18 5) (e13 : μ' 18 13 = μ 18 13) : iv_ch μ' N := by
  obtain ⟨h1, h2, h3, h4, h5, h6⟩ := h
  refine ⟨mo_w_cells2 h1 (fun b hb => e b (by omega)) e5 e13, mo_x_cells h2 (fun b hb => e b (by omega)), by rw [e13]; exact h3, cn_ok_chart (cn_ok_cells h4 (fun b hb => e b (by omega))) (fun b hb => e b (by omega)), fun n hn => ?_, fun n h7 h8 => ?_⟩
  · rw [e (40 + 3 * n) (by omega), e 24 (by omega)]
    exact h5 n hn
  · rw [e (40 + 3 * n) (by omega)]
    exact h6 n h7 h8
theorem iv_rw_cells {μ μ' : sc_M} (h : iv_rw μ) (e : ∀ b, b = 16 ∨ b = 33 ∨ b = 34 ∨ (36 ≤ b ∧ b ≤ 39) → μ' b = μ b) : iv_rw μ' := by
  obtain ⟨h1, h2, h3, h4⟩ := h
  refine ⟨by rw [e 33 (by omega)]; exact h1, by rw [e 34 (by omega)]; exact h2, by rw [e 33 (by omega), e 16 (by omega)]; exact h3, fun r hr => ?_⟩
  rw [e 34 (by omega), e (36 + r) (by omega)]
  exact h4 r hr
theorem mo_sc_cells {μ μ' : sc_M} (h : mo_sc μ) (e : ∀ b, 28 ≤ b ∧ b ≤ 30 → μ' b = μ b) : mo_sc μ' := by
  unfold mo_sc
  rw [e 28 (by omega), e 29 (by omega), e 30 (by omega)]
  exact h
/-- a finding, met on both sides -/
theorem iv_meet {μ : sc_M} {N : Nat} (h : iv_ok μ N) (x : Nat) (hx : x < 6) : iv_ok (mo_meet (sc_meet μ x) x) N := by
  obtain ⟨h1, ⟨t1, t2, t3, t4, t5⟩, h3, h4⟩ := h
  have e : ∀ b, b ≠ 0 → b ≠ 17 → b ≠ 18 → b ≠ 19 → mo_meet (sc_meet μ x) x b = μ b := fun b b1 b2 b3 b4 => by
    unfold mo_meet sc_meet
    rw [sc_up_ne _ _ _ b4, sc_up_ne _ _ _ b3, sc_up_ne _ _ _ b2, sc_up_ne _ _ _ b1]
  have e0 : ∀ j, mo_meet (sc_meet μ x) x 0 j = if j = 6 then (x : Int) else μ 0 j := fun j => by
    unfold mo_meet sc_meet
    rw [sc_up_ne _ _ _ (by decide), sc_up_ne _ _ _ (by decide), sc_up_ne _ _ _ (by decide), sc_up_eq]
  have e18 : ∀ j, mo_meet (sc_meet μ x) x 18 j = if j = 0 then (x : Int) else μ 18 j := fun j => by
    unfold mo_meet sc_meet
    rw [sc_up_ne _ _ _ (by decide), sc_up_eq, sc_up_ne _ _ _ (by decide), sc_up_ne _ _ _ (by decide)]
  have e17 : ∀ j, mo_meet (sc_meet μ x) x 17 j = if j = x then μ 17 x + 1 else μ 17 j := fun j => by
    unfold mo_meet sc_meet
    rw [sc_up_ne _ _ _ (by decide), sc_up_ne _ _ _ (by decide), sc_up_eq, sc_up_ne _ _ _ (by decide)]
  have e19 : ∀ j, mo_meet (sc_meet μ x) x 19 j = if j = x then μ 19 x + 1 else μ 19 j := fun j => by
    unfold mo_meet sc_meet
    rw [sc_up_eq, sc_up_ne _ _ _ (by decide), sc_up_ne _ _ _ (by decide), sc_up_ne _ _ _ (by decide)]
    simp only []
    rw [sc_up_ne _ _ _ (by decide), sc_up_ne _ _ _ (by decide)]
  refine ⟨iv_ch_cells h1 (fun b hb => e b (by omega) (by omega) (by omega) (by omega)) (by rw [e18]; rfl) (by rw [e18]; rfl), ⟨by rw [e0, e18]; rfl, by rw [e0, e18]; exact t2, by rw [e0, e18]; exact t3, by rw [e0, e18]; exact t4, fun k hk => ?_⟩, iv_rw_cells h3 (fun b hb => e b (by omega) (by omega) (by omega) (by omega)), mo_sc_cells h4 (fun b hb => e b (by omega) (by omega) (by omega) (by omega))⟩
  rw [e17, e19]
  split
  · rw [t5 x hx]
  · exact t5 k hk
/-- what one call asks of both sides: the same answer, and all in order -/
def iv_pr (l : Launch) (G : sc_G) (dc dm : Nat) (yc ym : sc_Q) (args : List sc_V) : Prop := ∀ (μ : sc_M) (N : Nat), iv_ok μ N → ∃ P1, sc_Sp l G dc yc (.inr (.inr (.inl (0))) :: args) μ P1 ∧ ∀ r1 μ1, P1 r1 μ1 → ∃ P2, sc_Sp l G dm ym (.inr (.inr (.inl (18))) :: args) μ1 P2 ∧ ∀ r2 μ2, P2 r2 μ2 → r1 = r2 ∧ ∃ N', iv_ok μ2 N'
theorem sc_meet_ne (μ : sc_M) (x : Nat) {b : Nat} (h : b ≠ 0) (h2 : b ≠ 17) : sc_meet μ x b = μ b := by
  unfold sc_meet
  rw [sc_up_ne _ _ _ h2, sc_up_ne _ _ _ h]
theorem mo_w_meet {μ : sc_M} {N : Nat} (h : mo_w μ N) (x : Nat) : mo_w (sc_meet μ x) N := mo_w_cells h (fun b hb => sc_meet_ne _ _ (by omega) (by omega))
theorem pr_asked (l : Launch) (G : sc_G) (d e : Nat) : iv_pr l G d e mq_Sc_asked mq_Mo_asked [] := fun μ N h => ⟨_, sp_Sc_asked l G d μ, fun r1 μ1 h1 => by
  obtain ⟨rfl, rfl⟩ := h1
  refine ⟨_, sp_Mo_asked l G e μ1, fun r2 μ2 h2 => ?_⟩
  obtain ⟨rfl, rfl⟩ := h2
  exact ⟨by rw [h.2.1.2.1], N, h⟩⟩
theorem pr_upper (l : Launch) (G : sc_G) (d e : Nat) : iv_pr l G d e mq_Sc_upper mq_Mo_upper [] := fun μ N h => ⟨_, sp_Sc_upper l G d μ, fun r1 μ1 h1 => by
  obtain ⟨rfl, rfl⟩ := h1
  refine ⟨_, sp_Mo_upper l G e μ1, fun r2 μ2 h2 => ?_⟩
  obtain ⟨rfl, rfl⟩ := h2
  exact ⟨by rw [h.2.1.2.2.1], N, h⟩⟩
theorem pr_lower (l : Launch) (G : sc_G) (d e : Nat) : iv_pr l G d e mq_Sc_lower mq_Mo_lower [] := fun μ N h => ⟨_, sp_Sc_lower l G d μ, fun r1 μ1 h1 => by
  obtain ⟨rfl, rfl⟩ := h1
  refine ⟨_, sp_Mo_lower l G e μ1, fun r2 μ2 h2 => ?_⟩
  obtain ⟨rfl, rfl⟩ := h2
  exact ⟨by rw [h.2.1.2.2.2.1], N, h⟩⟩
theorem pr_finding (l : Launch) (G : sc_G) (d e : Nat) : iv_pr l G d e mq_Sc_finding mq_Mo_finding [] := fun μ N h => ⟨_, sp_Sc_finding l G d μ, fun r1 μ1 h1 => by
  obtain ⟨rfl, rfl⟩ := h1
  refine ⟨_, sp_Mo_finding l G e μ1, fun r2 μ2 h2 => ?_⟩
  obtain ⟨rfl, rfl⟩ := h2
  exact ⟨by rw [h.2.1.1], N, h⟩⟩
theorem pr_findings (l : Launch) (G : sc_G) (d e : Nat) (x : Int) (hx : sc_in x) : iv_pr l G d (e + 1) mq_Sc_findings mq_Mo_findings [.inl (x)] := fun μ N h => ⟨_, sp_Sc_findings l G d μ x hx, fun r1 μ1 h1 => by
  obtain ⟨rfl, rfl⟩ := h1
  refine ⟨_, sp_Mo_findings l G e μ1 x hx, fun r2 μ2 h2 => ?_⟩
  obtain ⟨rfl, rfl⟩ := h2
  refine ⟨?_, N, h⟩
  by_cases hq : 1 ≤ x ∧ x ≤ 5
  · rw [if_pos hq, if_pos hq, h.2.1.2.2.2.2 x.toNat (by omega)]
  · rw [if_neg hq, if_neg hq]⟩
