theorem iv_rows {μ μ2 : sc_M} {N : Nat} (h : iv_ok μ N) (e : ∀ b, b = 0 ∨ b = 2 ∨ (17 ≤ b ∧ b ≤ 26) ∨ (28 ≤ b ∧ b ≤ 30) ∨ 40 ≤ b → μ2 b = μ b) (r : iv_rw μ2) : iv_ok μ2 N := ⟨iv_ch_cells h.1 (fun b hb => e b (by omega)) (by rw [e 18 (by omega)]) (by rw [e 18 (by omega)]), by unfold iv_tl; rw [e 0 (by omega), e 17 (by omega), e 18 (by omega), e 19 (by omega)]; exact h.2.1, r, mo_sc_cells h.2.2.2 (fun b hb => e b (by omega))⟩
set_option maxRecDepth 100000 in
set_option maxHeartbeats 4000000 in
theorem sp_Sc_tear2 (l : Launch) (G : sc_G) (d : Nat) (μ : sc_M) (h : iv_rw μ) (x : Int) (hx : sc_in x) : sc_Sp l G (d + 1) mq_Sc_tear [.inr (.inr (.inl (0))), .inl (x)] μ (fun r μ' => if 0 ≤ x ∧ x ≤ 3 then (if μ 33 x.toNat < 0 then r = .inl (-3) ∧ μ' = sc_meet μ 1 else r = .inl (1) ∧ μ' = sc_up μ 16 x.toNat (-1)) else r = .inl (-1) ∧ μ' = μ) := by
  have c1 := sp_Sc_isRow l G d μ x hx
  have f1 := sp_Sc_find l G d μ 1 (by omega)
  refine sc_enter cm_Sc_tear (plainFor_of_name (by decide)) [.inr (.inr (.inl (0))), .inl (x)] rfl rfl ?_
  by_cases hA : 0 ≤ x ∧ x ≤ 3
  · rw [if_pos hA] at c1
    obtain ⟨n, rfl⟩ := Int.eq_ofNat_of_zero_le hA.1
    have hn4 : n < 4 := by omega
    have hs := iv_sz h n hn4
    have h33 := h.1 n
    simp only [hA, and_self, if_true, Int.toNat_natCast]
    by_cases hB : μ 33 n < 0
    · simp only [if_pos hB]
      have e16 := hs.1.mpr hB
      refine sc_rp ?_
      repeat' first | (with_reducible refine sc_st1 tk_Sc_tear ?_; simp only [sc_dz, sc_gz, sc_brn, sc_stp, sc_nth, sc_sto_0, sc_sto_1, sc_sto_s, sc_stoJ_0, sc_stoJ_1, sc_stoJ_s, sc_k1_i, sc_k1_j, sc_k1_r, sc_k1_u, sc_x1, sc_x2, sc_xv, sc_xc, sc_1i, sc_2i, sc_1j, sc_2j, sc_1r, sc_ir, sc_iir, sc_jir, sc_xr, sc_jr, sc_1v, sc_2v, sc_vI, sc_vJ, sc_vR, sc_retI, sc_call, sc_callS, sc_args, sc_psh_i, sc_psh_j, sc_psh_r, sc_psh_u, sc_cats, sc_sw, sc_cpy, sc_isJ, fv_0_0, ft_0_0, fv_0_1, ft_0_1, fv_0_2, ft_0_2, fv_1_0, ft_1_0, fv_1_1, ft_1_1, fv_1_2, ft_1_2, fv_1_3, ft_1_3, fv_2_0, ft_2_0, fv_2_1, ft_2_1, fv_2_2, ft_2_2, fv_2_3, ft_2_3, fv_2_4, ft_2_4, fv_2_5, ft_2_5, fv_2_6, ft_2_6, fv_2_7, ft_2_7, fv_2_8, ft_2_8, fv_3_0, ft_3_0, fv_3_1, ft_3_1, fv_3_2, ft_3_2, fv_3_3, ft_3_3, fv_3_4, ft_3_4, fv_3_5, ft_3_5, fv_3_6, ft_3_6, fv_3_7, ft_3_7, fv_3_8, ft_3_8, fv_3_9, ft_3_9, fv_3_10, ft_3_10, fv_3_11, ft_3_11, fv_4_0, ft_4_0, fv_4_1, ft_4_1, fv_4_2, ft_4_2, fv_4_3, ft_4_3, fv_4_4, ft_4_4, fv_4_5, ft_4_5, fv_4_6, ft_4_6, fv_4_7, ft_4_7, fv_4_8, ft_4_8, fv_4_9, ft_4_9, fv_5_0, ft_5_0, fv_5_1, ft_5_1, fv_5_2, ft_5_2, fv_5_3, ft_5_3, fv_5_4, ft_5_4, fv_5_5, ft_5_5, fv_5_6, ft_5_6, fv_5_7, ft_5_7, fv_5_8, ft_5_8, fv_5_9, ft_5_9, fv_5_10, ft_5_10, fv_5_11, ft_5_11, fv_5_12, ft_5_12, fv_5_13, ft_5_13, fv_5_14, ft_5_14, fv_5_15, ft_5_15, fv_5_16, ft_5_16, fv_5_17, ft_5_17, fv_5_18, ft_5_18, fv_5_19, ft_5_19, fv_5_20, ft_5_20, fv_5_21, ft_5_21, fv_5_22, ft_5_22, kd_0, kd_1, kd_2, kd_3, kd_4, kd_5, kd_6, kd_7, kd_8, kd_9, kd_10, kd_11, kd_12, kd_13, kd_14, kd_15, kd_16, kd_17, kd_18, kd_19, kd_20, kd_21, kd_22, kd_23, kd_24, kd_25, kd_26, kd_27, kd_28, kd_29, kd_30, kd_31, kd_32, kd_33, kd_34, kd_35, kd_36, kd_37, kd_38, kd_39, rt_0_0, rt_0_1, rt_0_2, rt_0_3, rt_0_4, rt_0_5, rt_1_0, rt_1_1, rt_1_2, rt_1_3, rt_1_4, rt_1_5, rt_1_6, rt_1_7, rt_1_8, rt_2_0, rt_12_0, rt_12_1, rt_18_1, rt_18_6, rt_18_7, rt_18_8, rt_18_9, rt_18_10, rt_18_11, rt_18_12, rt_18_14, rt_18_15, rt_18_16, rt_18_17, rt_18_18, rt_18_19, rt_18_20, rt_18_21, rt_18_22, rt_N7, rt_N8, ra_3, ra_15, sc_pu, Nat.reduceAdd, Int.toNat_natCast, true_and, and_true, reduceIte, forall_const, Nat.reduceLeDiff, Nat.zero_le, sc_in, sc_in6, Int.reduceLE, Int.reduceNeg, Int.reduceLT, Int.reduceEq, Nat.reduceEqDiff, ne_eq, not_false_eq_true, lk_Sc_tear_0, lk_Sc_tear_1, lk_Sc_tear_4, lk_Sc_tear_7, lk_Sc_tear_8, lk_Sc_tear_9, lk_Sc_tear_10, lk_Sc_tear_13, lk_Sc_tear_14, lk_Sc_tear_15, lk_Sc_tear_16, lk_Sc_tear_19, lk_Sc_tear_20, lk_Sc_tear_21, lk_Sc_tear_24, lk_Sc_tear_25, lk_Sc_tear_26, lk_Sc_tear_29, lk_Sc_tear_30, lk_Sc_tear_31, lk_Sc_tear_32, lk_Sc_tear_33, e16]) | with_reducible apply And.intro | with_reducible intro _ | omega | (refine ⟨_, c1, ?_⟩; rintro _ _ ⟨rfl, rfl⟩) | (refine ⟨_, f1, ?_⟩; rintro _ _ ⟨rfl, rfl⟩)
      all_goals first | rfl | omega | (exfalso; omega) | grind [sc_in, sc_in6]
    · simp only [if_neg hB]
      have e16 := hs.2.1 hB
      refine sc_rp ?_
      repeat' first | (with_reducible refine sc_st1 tk_Sc_tear ?_; simp only [sc_dz, sc_gz, sc_brn, sc_stp, sc_nth, sc_sto_0, sc_sto_1, sc_sto_s, sc_stoJ_0, sc_stoJ_1, sc_stoJ_s, sc_k1_i, sc_k1_j, sc_k1_r, sc_k1_u, sc_x1, sc_x2, sc_xv, sc_xc, sc_1i, sc_2i, sc_1j, sc_2j, sc_1r, sc_ir, sc_iir, sc_jir, sc_xr, sc_jr, sc_1v, sc_2v, sc_vI, sc_vJ, sc_vR, sc_retI, sc_call, sc_callS, sc_args, sc_psh_i, sc_psh_j, sc_psh_r, sc_psh_u, sc_cats, sc_sw, sc_cpy, sc_isJ, fv_0_0, ft_0_0, fv_0_1, ft_0_1, fv_0_2, ft_0_2, fv_1_0, ft_1_0, fv_1_1, ft_1_1, fv_1_2, ft_1_2, fv_1_3, ft_1_3, fv_2_0, ft_2_0, fv_2_1, ft_2_1, fv_2_2, ft_2_2, fv_2_3, ft_2_3, fv_2_4, ft_2_4, fv_2_5, ft_2_5, fv_2_6, ft_2_6, fv_2_7, ft_2_7, fv_2_8, ft_2_8, fv_3_0, ft_3_0, fv_3_1, ft_3_1, fv_3_2, ft_3_2, fv_3_3, ft_3_3, fv_3_4, ft_3_4, fv_3_5, ft_3_5, fv_3_6, ft_3_6, fv_3_7, ft_3_7, fv_3_8, ft_3_8, fv_3_9, ft_3_9, fv_3_10, ft_3_10, fv_3_11, ft_3_11, fv_4_0, ft_4_0, fv_4_1, ft_4_1, fv_4_2, ft_4_2, fv_4_3, ft_4_3, fv_4_4, ft_4_4, fv_4_5, ft_4_5, fv_4_6, ft_4_6, fv_4_7, ft_4_7, fv_4_8, ft_4_8, fv_4_9, ft_4_9, fv_5_0, ft_5_0, fv_5_1, ft_5_1, fv_5_2, ft_5_2, fv_5_3, ft_5_3, fv_5_4, ft_5_4, fv_5_5, ft_5_5, fv_5_6, ft_5_6, fv_5_7, ft_5_7, fv_5_8, ft_5_8, fv_5_9, ft_5_9, fv_5_10, ft_5_10, fv_5_11, ft_5_11, fv_5_12, ft_5_12, fv_5_13, ft_5_13, fv_5_14, ft_5_14, fv_5_15, ft_5_15, fv_5_16, ft_5_16, fv_5_17, ft_5_17, fv_5_18, ft_5_18, fv_5_19, ft_5_19, fv_5_20, ft_5_20, fv_5_21, ft_5_21, fv_5_22, ft_5_22, kd_0, kd_1, kd_2, kd_3, kd_4, kd_5, kd_6, kd_7, kd_8, kd_9, kd_10, kd_11, kd_12, kd_13, kd_14, kd_15, kd_16, kd_17, kd_18, kd_19, kd_20, kd_21, kd_22, kd_23, kd_24, kd_25, kd_26, kd_27, kd_28, kd_29, kd_30, kd_31, kd_32, kd_33, kd_34, kd_35, kd_36, kd_37, kd_38, kd_39, rt_0_0, rt_0_1, rt_0_2, rt_0_3, rt_0_4, rt_0_5, rt_1_0, rt_1_1, rt_1_2, rt_1_3, rt_1_4, rt_1_5, rt_1_6, rt_1_7, rt_1_8, rt_2_0, rt_12_0, rt_12_1, rt_18_1, rt_18_6, rt_18_7, rt_18_8, rt_18_9, rt_18_10, rt_18_11, rt_18_12, rt_18_14, rt_18_15, rt_18_16, rt_18_17, rt_18_18, rt_18_19, rt_18_20, rt_18_21, rt_18_22, rt_N7, rt_N8, ra_3, ra_15, sc_pu, Nat.reduceAdd, Int.toNat_natCast, true_and, and_true, reduceIte, forall_const, Nat.reduceLeDiff, Nat.zero_le, sc_in, sc_in6, Int.reduceLE, Int.reduceNeg, Int.reduceLT, Int.reduceEq, Nat.reduceEqDiff, ne_eq, not_false_eq_true, lk_Sc_tear_0, lk_Sc_tear_1, lk_Sc_tear_4, lk_Sc_tear_7, lk_Sc_tear_8, lk_Sc_tear_9, lk_Sc_tear_10, lk_Sc_tear_13, lk_Sc_tear_14, lk_Sc_tear_15, lk_Sc_tear_16, lk_Sc_tear_19, lk_Sc_tear_20, lk_Sc_tear_21, lk_Sc_tear_24, lk_Sc_tear_25, lk_Sc_tear_26, lk_Sc_tear_29, lk_Sc_tear_30, lk_Sc_tear_31, lk_Sc_tear_32, lk_Sc_tear_33, e16]) | with_reducible apply And.intro | with_reducible intro _ | omega | (refine ⟨_, c1, ?_⟩; rintro _ _ ⟨rfl, rfl⟩)
      all_goals first | rfl | omega | (exfalso; omega) | grind [sc_in, sc_in6]
  · rw [if_neg hA] at c1
    simp only [hA, if_false]
    refine sc_rp ?_
    repeat' first | (with_reducible refine sc_st1 tk_Sc_tear ?_; simp only [sc_dz, sc_gz, sc_brn, sc_stp, sc_nth, sc_sto_0, sc_sto_1, sc_sto_s, sc_stoJ_0, sc_stoJ_1, sc_stoJ_s, sc_k1_i, sc_k1_j, sc_k1_r, sc_k1_u, sc_x1, sc_x2, sc_xv, sc_xc, sc_1i, sc_2i, sc_1j, sc_2j, sc_1r, sc_ir, sc_iir, sc_jir, sc_xr, sc_jr, sc_1v, sc_2v, sc_vI, sc_vJ, sc_vR, sc_retI, sc_call, sc_callS, sc_args, sc_psh_i, sc_psh_j, sc_psh_r, sc_psh_u, sc_cats, sc_sw, sc_cpy, sc_isJ, fv_0_0, ft_0_0, fv_0_1, ft_0_1, fv_0_2, ft_0_2, fv_1_0, ft_1_0, fv_1_1, ft_1_1, fv_1_2, ft_1_2, fv_1_3, ft_1_3, fv_2_0, ft_2_0, fv_2_1, ft_2_1, fv_2_2, ft_2_2, fv_2_3, ft_2_3, fv_2_4, ft_2_4, fv_2_5, ft_2_5, fv_2_6, ft_2_6, fv_2_7, ft_2_7, fv_2_8, ft_2_8, fv_3_0, ft_3_0, fv_3_1, ft_3_1, fv_3_2, ft_3_2, fv_3_3, ft_3_3, fv_3_4, ft_3_4, fv_3_5, ft_3_5, fv_3_6, ft_3_6, fv_3_7, ft_3_7, fv_3_8, ft_3_8, fv_3_9, ft_3_9, fv_3_10, ft_3_10, fv_3_11, ft_3_11, fv_4_0, ft_4_0, fv_4_1, ft_4_1, fv_4_2, ft_4_2, fv_4_3, ft_4_3, fv_4_4, ft_4_4, fv_4_5, ft_4_5, fv_4_6, ft_4_6, fv_4_7, ft_4_7, fv_4_8, ft_4_8, fv_4_9, ft_4_9, fv_5_0, ft_5_0, fv_5_1, ft_5_1, fv_5_2, ft_5_2, fv_5_3, ft_5_3, fv_5_4, ft_5_4, fv_5_5, ft_5_5, fv_5_6, ft_5_6, fv_5_7, ft_5_7, fv_5_8, ft_5_8, fv_5_9, ft_5_9, fv_5_10, ft_5_10, fv_5_11, ft_5_11, fv_5_12, ft_5_12, fv_5_13, ft_5_13, fv_5_14, ft_5_14, fv_5_15, ft_5_15, fv_5_16, ft_5_16, fv_5_17, ft_5_17, fv_5_18, ft_5_18, fv_5_19, ft_5_19, fv_5_20, ft_5_20, fv_5_21, ft_5_21, fv_5_22, ft_5_22, kd_0, kd_1, kd_2, kd_3, kd_4, kd_5, kd_6, kd_7, kd_8, kd_9, kd_10, kd_11, kd_12, kd_13, kd_14, kd_15, kd_16, kd_17, kd_18, kd_19, kd_20, kd_21, kd_22, kd_23, kd_24, kd_25, kd_26, kd_27, kd_28, kd_29, kd_30, kd_31, kd_32, kd_33, kd_34, kd_35, kd_36, kd_37, kd_38, kd_39, rt_0_0, rt_0_1, rt_0_2, rt_0_3, rt_0_4, rt_0_5, rt_1_0, rt_1_1, rt_1_2, rt_1_3, rt_1_4, rt_1_5, rt_1_6, rt_1_7, rt_1_8, rt_2_0, rt_12_0, rt_12_1, rt_18_1, rt_18_6, rt_18_7, rt_18_8, rt_18_9, rt_18_10, rt_18_11, rt_18_12, rt_18_14, rt_18_15, rt_18_16, rt_18_17, rt_18_18, rt_18_19, rt_18_20, rt_18_21, rt_18_22, rt_N7, rt_N8, ra_3, ra_15, sc_pu, Nat.reduceAdd, Int.toNat_natCast, true_and, and_true, reduceIte, forall_const, Nat.reduceLeDiff, Nat.zero_le, sc_in, sc_in6, Int.reduceLE, Int.reduceNeg, Int.reduceLT, Int.reduceEq, Nat.reduceEqDiff, ne_eq, not_false_eq_true, lk_Sc_tear_0, lk_Sc_tear_1, lk_Sc_tear_4, lk_Sc_tear_7, lk_Sc_tear_8, lk_Sc_tear_9, lk_Sc_tear_10, lk_Sc_tear_13, lk_Sc_tear_14, lk_Sc_tear_15, lk_Sc_tear_16, lk_Sc_tear_19, lk_Sc_tear_20, lk_Sc_tear_21, lk_Sc_tear_24, lk_Sc_tear_25, lk_Sc_tear_26, lk_Sc_tear_29, lk_Sc_tear_30, lk_Sc_tear_31, lk_Sc_tear_32, lk_Sc_tear_33, if_true]) | with_reducible apply And.intro | with_reducible intro _ | (refine ⟨_, c1, ?_⟩; rintro _ _ ⟨rfl, rfl⟩)
    all_goals grind [sc_in, sc_in6]
theorem pr_tear (l : Launch) (G : sc_G) (d e : Nat) (x : Int) (hx : sc_in x) : iv_pr l G (d + 1) (e + 3) mq_Sc_tear mq_Mo_tear [.inl (x)] := fun μ N h => ⟨_, sp_Sc_tear2 l G d μ h.2.2.1 x hx, fun r1 μ1 h1 => by
  try dsimp only at h1
  have hm : μ1 33 = μ 33 := by
    (repeat' split at h1) <;> (obtain ⟨-, rfl⟩ := h1) <;> first | rfl | exact sc_meet_ne _ _ (by omega) (by omega) | exact sc_up_ne _ _ _ (by omega)
  refine ⟨_, sp_Mo_tear l G e μ1 x hx (fun i => by rw [hm]; have := h.2.2.1.1 i; exact ⟨by omega, by omega⟩), fun r2 μ2 h2 => ?_⟩
  try dsimp only at h2
  rw [hm] at h2
  by_cases c1 : 0 ≤ x ∧ x ≤ 3
  · rw [if_pos c1] at h1 h2
    by_cases c2 : μ 33 x.toNat < 0
    · rw [if_pos c2] at h1 h2
      obtain ⟨rfl, rfl⟩ := h1
      obtain ⟨rfl, rfl⟩ := h2
      exact ⟨rfl, N, iv_meet h 1 (by omega)⟩
    · rw [if_neg c2] at h1 h2
      obtain ⟨rfl, rfl⟩ := h1
      obtain ⟨rfl, rfl⟩ := h2
      obtain ⟨r1, r2, r3, r4⟩ := h.2.2.1
      have en : ∀ b, b ≠ 16 → b ≠ 33 → sc_up (sc_up μ 16 x.toNat (-1)) 33 x.toNat (-9) b = μ b := fun b b1 b2 => by rw [sc_up_ne _ _ _ b2, sc_up_ne _ _ _ b1]
      have e33 : ∀ j, sc_up (sc_up μ 16 x.toNat (-1)) 33 x.toNat (-9) 33 j = if j = x.toNat then -9 else μ 33 j := fun j => by rw [sc_up_eq, sc_up_ne _ _ _ (by decide)]
      have e16 : ∀ j, sc_up (sc_up μ 16 x.toNat (-1)) 33 x.toNat (-9) 16 j = if j = x.toNat then -1 else μ 16 j := fun j => by rw [sc_up_ne _ _ _ (by decide), sc_up_eq]
      refine ⟨rfl, N, iv_rows h (fun b hb => en b (by omega) (by omega)) ⟨fun i => ?_, by rw [en 34 (by decide) (by decide)]; exact r2, fun r hr => ?_, fun r hr i hi => ?_⟩⟩
      · rw [e33]
        split
        · omega
        · exact r1 i
      · rw [e16, e33]
        by_cases hq : r = x.toNat
        · rw [if_pos hq, if_pos hq, if_pos (by decide)]
        · rw [if_neg hq, if_neg hq]
          exact r3 r hr
      · rw [en 34 (by decide) (by decide), en (36 + r) (by omega) (by omega)]
        exact r4 r hr i hi
  · rw [if_neg c1] at h1 h2
    obtain ⟨rfl, rfl⟩ := h1
    obtain ⟨rfl, rfl⟩ := h2
    exact ⟨rfl, N, h⟩⟩
theorem pr_row (l : Launch) (G : sc_G) (d e : Nat) (x z : Int) (hx : sc_in x) (hz : sc_in z) : iv_pr l G (d + 1) (e + 2) mq_Sc_row mq_Mo_row [.inl (x), .inl (z)] := fun μ N h => ⟨_, sp_Sc_row l G d μ x z hx hz, fun r1 μ1 h1 => by
  try dsimp only at h1
  refine ⟨_, sp_Mo_row l G e μ1 x z hx hz, fun r2 μ2 h2 => ?_⟩
  try dsimp only at h2
  by_cases c1 : (0 ≤ x ∧ x ≤ 3) ∧ z ≤ 27
  · rw [if_pos c1] at h1 h2
    by_cases c2 : z < 0
    · rw [if_pos c2] at h1 h2
      obtain ⟨rfl, rfl⟩ := h1
      obtain ⟨rfl, rfl⟩ := h2
      exact ⟨rfl, N, iv_meet h 5 (by omega)⟩
    · rw [if_neg c2] at h1 h2
      obtain ⟨rfl, rfl⟩ := h1
      obtain ⟨rfl, rfl⟩ := h2
      obtain ⟨n, rfl⟩ := Int.eq_ofNat_of_zero_le c1.1.1
      simp only [Int.toNat_natCast]
      have hn4 : n < 4 := by omega
      have en : ∀ b, b ≠ 16 → b ≠ 33 → b ≠ 34 → b ≠ 36 + n → mo_rz (sc_up (sc_up (sc_fil μ (36 + n) 0 27) 16 n z) 33 n z) n 27 b = μ b := fun b b1 b2 b3 b4 => by
        unfold mo_rz
        rw [sc_arr_ne _ _ b3, sc_up_ne _ _ _ b2, sc_up_ne _ _ _ b1, sc_fil_ne _ _ _ b4]
      have e33 : ∀ j, mo_rz (sc_up (sc_up (sc_fil μ (36 + n) 0 27) 16 n z) 33 n z) n 27 33 j = if j = n then z else μ 33 j := fun j => by
        unfold mo_rz
        rw [sc_arr_ne _ _ (by decide), sc_up_eq, sc_up_ne _ _ _ (by decide), sc_fil_ne _ _ _ (by omega)]
      have e16 : ∀ j, mo_rz (sc_up (sc_up (sc_fil μ (36 + n) 0 27) 16 n z) 33 n z) n 27 16 j = if j = n then z else μ 16 j := fun j => by
        unfold mo_rz
        rw [sc_arr_ne _ _ (by decide), sc_up_ne _ _ _ (by decide), sc_up_eq, sc_fil_ne _ _ _ (by omega)]
      have e34 : ∀ j, mo_rz (sc_up (sc_up (sc_fil μ (36 + n) 0 27) 16 n z) 33 n z) n 27 34 j = if 27 * n ≤ j ∧ j < 27 * n + 27 then 0 else μ 34 j := fun j => by
        unfold mo_rz
        rw [sc_arr_eq, sc_up_ne _ _ _ (by decide), sc_up_ne _ _ _ (by decide), sc_fil_ne _ _ _ (by omega)]
      have er : ∀ j, mo_rz (sc_up (sc_up (sc_fil μ (36 + n) 0 27) 16 n z) 33 n z) n 27 (36 + n) j = if j < 27 then 0 else μ (36 + n) j := fun j => by
        unfold mo_rz
        rw [sc_arr_ne _ _ (by omega), sc_up_ne _ _ _ (by omega), sc_up_ne _ _ _ (by omega)]
        show (if 36 + n = 36 + n ∧ j < 27 then (0 : Int) else μ (36 + n) j) = _
        simp
      obtain ⟨r1, r2, r3, r4⟩ := h.2.2.1
      refine ⟨trivial, N, iv_rows h (fun b hb => en b (by omega) (by omega) (by omega) (by omega)) ⟨fun i => ?_, fun i => ?_, fun r hr => ?_, fun r hr i hi => ?_⟩⟩
      · rw [e33]
        split
        · omega
        · exact r1 i
      · rw [e34]
        split
        · exact sc_zero
        · exact r2 i
      · rw [e16, e33]
        by_cases hq : r = n
        · rw [if_pos hq, if_pos hq, if_neg c2]
        · rw [if_neg hq, if_neg hq]
          exact r3 r hr
      · rw [e34]
        by_cases hq : r = n
        · subst hq
          rw [er, if_pos hi, if_pos (by omega)]
        · rw [en (36 + r) (by omega) (by omega) (by omega) (by omega), if_neg (by omega)]
          exact r4 r hr i hi
  · rw [if_neg c1] at h1 h2
    obtain ⟨rfl, rfl⟩ := h1
    obtain ⟨rfl, rfl⟩ := h2
    exact ⟨rfl, N, h⟩⟩
