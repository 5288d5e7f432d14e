theorem md_wt_le {M : sc_M} {N : Nat} (hw : mo_w M N) (w : Nat) : 0 ≤ md_wt M N w ∧ md_wt M N w ≤ 61917364224 := by
  have e : ∀ b, b ≠ 27 → sc_arr M 27 (md_dg M w) b = M b := fun b hb => sc_arr_ne _ _ hb
  have h := mo_wn_le (sc_arr M 27 (md_dg M w)) (M 18 13) N hw.1 (mo_w_now (md_dg M w) hw).2.2.1 (by rw [sc_arr_eq, e 20 (by decide), e 21 (by decide)]; exact md_dg_ok hw w) N (Nat.le_refl _)
  rw [sc_arr_eq, e 20 (by decide), e 21 (by decide), e 22 (by decide), e 23 (by decide), e 26 (by decide)] at h
  have hNp : (12 : Int) ^ N ≤ 12 ^ 10 := (by decide : ∀ n, n < 11 → (12 : Int) ^ n ≤ 12 ^ 10) N (by have := hw.1; omega)
  have hP10 : (12 : Int) ^ 10 = 61917364224 := by decide
  exact ⟨h.1, by unfold md_wt; omega⟩
theorem md_on_le {M : sc_M} {N : Nat} (hw : mo_w M N) (w : Nat) : -1000 ≤ md_on M N w ∧ md_on M N w ≤ 1000 := by
  have e : ∀ b, b ≠ 27 → sc_arr M 27 (md_dg M w) b = M b := fun b hb => sc_arr_ne _ _ hb
  have h := mo_on_le (sc_arr M 27 (md_dg M w)) N (mo_w_now (md_dg M w) hw).2.2.1 (by rw [sc_arr_eq, e 20 (by decide), e 21 (by decide)]; exact md_dg_ok hw w) N (Nat.le_refl _)
  rw [sc_arr_eq, e 20 (by decide), e 21 (by decide), e 22 (by decide), e 23 (by decide), e 26 (by decide)] at h
  have := hw.1
  unfold md_on
  omega
theorem md_prod_le {M : sc_M} {N : Nat} (hw : mo_w M N) (w : Nat) : -61917364224000 ≤ md_wt M N w * md_on M N w ∧ md_wt M N w * md_on M N w ≤ 61917364224000 := by
  have h1 := md_wt_le hw w
  have h2 := md_on_le hw w
  have a1 := Int.mul_le_mul_of_nonneg_left h2.2 h1.1
  have a2 := Int.mul_le_mul_of_nonneg_left h2.1 h1.1
  constructor <;> omega
theorem md_tot_le {M : sc_M} {N W : Nat} (hw : mo_w M N) (hW : W ≤ 243) (kn : Nat → Int) (P : Nat → Nat → Int) : -15045919506432000 ≤ md_tot M N W kn P ∧ md_tot M N W kn P ≤ 15045919506432000 := by
  have h := sc_sum_le (fun w => sc_if (md_cm M N kn P w) (md_wt M N w * md_on M N w) 0) 61917364224000 W (fun w _ => by
    have := md_prod_le hw w
    by_cases hc : md_cm M N kn P w
    · simp only [sc_if_pos _ _ hc]; exact this
    · simp only [sc_if_neg _ _ hc]; omega)
  unfold md_tot
  omega
theorem mo_aw_le (K : Nat → Int) (h : Int) : ∀ n, 1 ≤ mo_aw K h n ∧ mo_aw K h n ≤ 12 ^ n
  | 0 => by simp [mo_aw]
  | n + 1 => by
    have h1 := mo_aw_le K h n
    rw [mo_aw, Int.pow_succ]
    split <;> omega
theorem mo_aw_10 (K : Nat → Int) (h : Int) {N : Nat} (hN : N ≤ 10) : 1 ≤ mo_aw K h N ∧ mo_aw K h N ≤ 61917364224 := by
  have h1 := mo_aw_le K h N
  have hNp : (12 : Int) ^ N ≤ 12 ^ 10 := (by decide : ∀ n, n < 11 → (12 : Int) ^ n ≤ 12 ^ 10) N (by omega)
  have hP10 : (12 : Int) ^ 10 = 61917364224 := by decide
  omega
def mo_tel (μ : sc_M) (up low : Int) : sc_M := sc_up (sc_up μ 18 3 (up.tdiv (Nat.gcd up.natAbs low.natAbs : Int))) 18 4 (low.tdiv (Nat.gcd up.natAbs low.natAbs : Int))
set_option maxRecDepth 100000 in
set_option maxHeartbeats 4000000 in
theorem sp_Mo_tell1 (l : Launch) (G : sc_G) (d : Nat) (μ : sc_M) (up low : Int) (hu : -1000000000000000000 ≤ up ∧ up ≤ 1000000000000000000) (hl : 1 ≤ low ∧ low ≤ 61917364224) : sc_Sp l G d mq_Mo_tell [.inr (.inr (.inl (18))), .inr (.inl (up)), .inr (.inl (low))] μ (fun r μ' => r = .inl (1) ∧ μ' = mo_tel μ up low) := by
  obtain ⟨n, rfl⟩ := Int.eq_ofNat_of_zero_le (show 0 ≤ low by omega)
  exact sp_Mo_tell l G d μ up ⟨by omega, by omega⟩ (by omega) n (by omega) ⟨by omega, by omega⟩
theorem mo_kp_up {μ m : sc_M} (h : mo_kp μ m) (a k : Nat) (v : Int) : mo_kp (sc_up μ a k v) (sc_up m a k v) := fun b hb => by
  funext j
  simp only [sc_up, h b hb]
theorem mo_kp_tel {μ m : sc_M} (h : mo_kp μ m) (u l : Int) : mo_kp (mo_tel μ u l) (mo_tel m u l) := mo_kp_up (mo_kp_up h _ _ _) _ _ _
theorem mo_sc_up {m : sc_M} (h : mo_sc m) {a : Nat} (k : Nat) (v : Int) (h1 : a ≠ 28) (h2 : a ≠ 29) (h3 : a ≠ 30) : mo_sc (sc_up m a k v) := by
  unfold mo_sc
  rw [sc_up_ne _ _ _ (Ne.symm h1), sc_up_ne _ _ _ (Ne.symm h2), sc_up_ne _ _ _ (Ne.symm h3)]
  exact h
theorem mo_sc_tel {m : sc_M} (h : mo_sc m) (u l : Int) : mo_sc (mo_tel m u l) := mo_sc_up (mo_sc_up h _ _ (by decide) (by decide) (by decide)) _ _ (by decide) (by decide) (by decide)
set_option maxRecDepth 100000 in
set_option maxHeartbeats 4000000 in
theorem sp_Mo_best (l : Launch) (G : sc_G) (d : Nat) (μ : sc_M) (N : Nat) (hw : mo_w μ N) (hsc : mo_sc μ) (W9 : Nat) (hW : mo_sd (μ 20) (μ 21) N = W9) : sc_Sp l G (d + 5) mq_Mo_best [.inr (.inr (.inl (18)))] μ (fun r μ' => r = .inl (1) ∧ mo_kp (mo_tel μ (md_best μ N W9) (mo_aw (μ 20) (μ 18 13) N)) μ' ∧ mo_sc μ') := by
  have h0 := sp_Mo_bestSum l G d μ N hw hsc W9 hW
  have hb : -15045919506432000 ≤ md_best μ N W9 ∧ md_best μ N W9 ≤ 15045919506432000 := md_tot_le hw (by have := hw.2.2.2.1; omega) _ _
  generalize md_best μ N W9 = best at h0 hb ⊢
  have ha := mo_aw_10 (μ 20) (μ 18 13) hw.1
  refine sc_enter cm_Mo_best (plainFor_of_name (by decide)) [.inr (.inr (.inl (18)))] rfl rfl ?_
  refine sc_rp ?_
  repeat' first | (with_reducible refine sc_st1 tk_Mo_best ?_; simp only [sc_dz, sc_gz, sc_brn, sc_stp, sc_nth, sc_sto_0, sc_sto_1, sc_sto_s, sc_stoJ_0, sc_stoJ_1, sc_stoJ_s, sc_k1_i, sc_k1_j, sc_k1_r, sc_k1_u, sc_x1, sc_x2, sc_xv, sc_xc, sc_1i, sc_2i, sc_1j, sc_2j, sc_1r, sc_ir, sc_iir, sc_jir, sc_xr, sc_jr, sc_1v, sc_2v, sc_vI, sc_vJ, sc_vR, sc_retI, sc_call, sc_callS, sc_args, sc_psh_i, sc_psh_j, sc_psh_r, sc_psh_u, sc_cats, sc_sw, sc_cpy, sc_isJ, fv_0_0, ft_0_0, fv_0_1, ft_0_1, fv_0_2, ft_0_2, fv_1_0, ft_1_0, fv_1_1, ft_1_1, fv_1_2, ft_1_2, fv_1_3, ft_1_3, fv_2_0, ft_2_0, fv_2_1, ft_2_1, fv_2_2, ft_2_2, fv_2_3, ft_2_3, fv_2_4, ft_2_4, fv_2_5, ft_2_5, fv_2_6, ft_2_6, fv_2_7, ft_2_7, fv_2_8, ft_2_8, fv_3_0, ft_3_0, fv_3_1, ft_3_1, fv_3_2, ft_3_2, fv_3_3, ft_3_3, fv_3_4, ft_3_4, fv_3_5, ft_3_5, fv_3_6, ft_3_6, fv_3_7, ft_3_7, fv_3_8, ft_3_8, fv_3_9, ft_3_9, fv_3_10, ft_3_10, fv_3_11, ft_3_11, fv_4_0, ft_4_0, fv_4_1, ft_4_1, fv_4_2, ft_4_2, fv_4_3, ft_4_3, fv_4_4, ft_4_4, fv_4_5, ft_4_5, fv_4_6, ft_4_6, fv_4_7, ft_4_7, fv_4_8, ft_4_8, fv_4_9, ft_4_9, fv_5_0, ft_5_0, fv_5_1, ft_5_1, fv_5_2, ft_5_2, fv_5_3, ft_5_3, fv_5_4, ft_5_4, fv_5_5, ft_5_5, fv_5_6, ft_5_6, fv_5_7, ft_5_7, fv_5_8, ft_5_8, fv_5_9, ft_5_9, fv_5_10, ft_5_10, fv_5_11, ft_5_11, fv_5_12, ft_5_12, fv_5_13, ft_5_13, fv_5_14, ft_5_14, fv_5_15, ft_5_15, fv_5_16, ft_5_16, fv_5_17, ft_5_17, fv_5_18, ft_5_18, fv_5_19, ft_5_19, fv_5_20, ft_5_20, fv_5_21, ft_5_21, fv_5_22, ft_5_22, kd_0, kd_1, kd_2, kd_3, kd_4, kd_5, kd_6, kd_7, kd_8, kd_9, kd_10, kd_11, kd_12, kd_13, kd_14, kd_15, kd_16, kd_17, kd_18, kd_19, kd_20, kd_21, kd_22, kd_23, kd_24, kd_25, kd_26, kd_27, kd_28, kd_29, kd_30, kd_31, kd_32, kd_33, kd_34, kd_35, kd_36, kd_37, kd_38, kd_39, rt_0_0, rt_0_1, rt_0_2, rt_0_3, rt_0_4, rt_0_5, rt_1_0, rt_1_1, rt_1_2, rt_1_3, rt_1_4, rt_1_5, rt_1_6, rt_1_7, rt_1_8, rt_2_0, rt_12_0, rt_12_1, rt_18_1, rt_18_6, rt_18_7, rt_18_8, rt_18_9, rt_18_10, rt_18_11, rt_18_12, rt_18_14, rt_18_15, rt_18_16, rt_18_17, rt_18_18, rt_18_19, rt_18_20, rt_18_21, rt_18_22, rt_N7, rt_N8, ra_3, ra_15, sc_pu, Nat.reduceAdd, Int.toNat_natCast, true_and, and_true, reduceIte, forall_const, Nat.reduceLeDiff, Nat.zero_le, sc_in, sc_in6, Int.reduceLE, Int.reduceNeg, Int.reduceLT, Int.reduceEq, Nat.reduceEqDiff, ne_eq, not_false_eq_true, lk_Mo_best_0, lk_Mo_best_1, lk_Mo_best_2, lk_Mo_best_5, lk_Mo_best_6, lk_Mo_best_9, lk_Mo_best_12]) | with_reducible apply And.intro | with_reducible intro _
  refine ⟨_, h0, ?_⟩
  rintro _ m ⟨rfl, k1, k2⟩
  have hs := mo_kp_sm k1
  have h1 := sp_Mo_allWeights l G (d + 4) m N (mo_sm_w hs hw)
  rw [hs 20 (by omega), hs 18 (by omega)] at h1
  generalize mo_aw (μ 20) (μ 18 13) N = aw at h1 ha ⊢
  have h2 := sp_Mo_tell1 l G (d + 4) m best aw (by omega) ha
  have q1 := mo_kp_tel k1 best aw
  have q2 := mo_sc_tel k2 best aw
  generalize mo_tel m best aw = m9 at h2 q1 q2
  repeat' first | (with_reducible refine sc_st1 tk_Mo_best ?_; simp only [sc_dz, sc_gz, sc_brn, sc_stp, sc_nth, sc_sto_0, sc_sto_1, sc_sto_s, sc_stoJ_0, sc_stoJ_1, sc_stoJ_s, sc_k1_i, sc_k1_j, sc_k1_r, sc_k1_u, sc_x1, sc_x2, sc_xv, sc_xc, sc_1i, sc_2i, sc_1j, sc_2j, sc_1r, sc_ir, sc_iir, sc_jir, sc_xr, sc_jr, sc_1v, sc_2v, sc_vI, sc_vJ, sc_vR, sc_retI, sc_call, sc_callS, sc_args, sc_psh_i, sc_psh_j, sc_psh_r, sc_psh_u, sc_cats, sc_sw, sc_cpy, sc_isJ, fv_0_0, ft_0_0, fv_0_1, ft_0_1, fv_0_2, ft_0_2, fv_1_0, ft_1_0, fv_1_1, ft_1_1, fv_1_2, ft_1_2, fv_1_3, ft_1_3, fv_2_0, ft_2_0, fv_2_1, ft_2_1, fv_2_2, ft_2_2, fv_2_3, ft_2_3, fv_2_4, ft_2_4, fv_2_5, ft_2_5, fv_2_6, ft_2_6, fv_2_7, ft_2_7, fv_2_8, ft_2_8, fv_3_0, ft_3_0, fv_3_1, ft_3_1, fv_3_2, ft_3_2, fv_3_3, ft_3_3, fv_3_4, ft_3_4, fv_3_5, ft_3_5, fv_3_6, ft_3_6, fv_3_7, ft_3_7, fv_3_8, ft_3_8, fv_3_9, ft_3_9, fv_3_10, ft_3_10, fv_3_11, ft_3_11, fv_4_0, ft_4_0, fv_4_1, ft_4_1, fv_4_2, ft_4_2, fv_4_3, ft_4_3, fv_4_4, ft_4_4, fv_4_5, ft_4_5, fv_4_6, ft_4_6, fv_4_7, ft_4_7, fv_4_8, ft_4_8, fv_4_9, ft_4_9, fv_5_0, ft_5_0, fv_5_1, ft_5_1, fv_5_2, ft_5_2, fv_5_3, ft_5_3, fv_5_4, ft_5_4, fv_5_5, ft_5_5, fv_5_6, ft_5_6, fv_5_7, ft_5_7, fv_5_8, ft_5_8, fv_5_9, ft_5_9, fv_5_10, ft_5_10, fv_5_11, ft_5_11, fv_5_12, ft_5_12, fv_5_13, ft_5_13, fv_5_14, ft_5_14, fv_5_15, ft_5_15, fv_5_16, ft_5_16, fv_5_17, ft_5_17, fv_5_18, ft_5_18, fv_5_19, ft_5_19, fv_5_20, ft_5_20, fv_5_21, ft_5_21, fv_5_22, ft_5_22, kd_0, kd_1, kd_2, kd_3, kd_4, kd_5, kd_6, kd_7, kd_8, kd_9, kd_10, kd_11, kd_12, kd_13, kd_14, kd_15, kd_16, kd_17, kd_18, kd_19, kd_20, kd_21, kd_22, kd_23, kd_24, kd_25, kd_26, kd_27, kd_28, kd_29, kd_30, kd_31, kd_32, kd_33, kd_34, kd_35, kd_36, kd_37, kd_38, kd_39, rt_0_0, rt_0_1, rt_0_2, rt_0_3, rt_0_4, rt_0_5, rt_1_0, rt_1_1, rt_1_2, rt_1_3, rt_1_4, rt_1_5, rt_1_6, rt_1_7, rt_1_8, rt_2_0, rt_12_0, rt_12_1, rt_18_1, rt_18_6, rt_18_7, rt_18_8, rt_18_9, rt_18_10, rt_18_11, rt_18_12, rt_18_14, rt_18_15, rt_18_16, rt_18_17, rt_18_18, rt_18_19, rt_18_20, rt_18_21, rt_18_22, rt_N7, rt_N8, ra_3, ra_15, sc_pu, Nat.reduceAdd, Int.toNat_natCast, true_and, and_true, reduceIte, forall_const, Nat.reduceLeDiff, Nat.zero_le, sc_in, sc_in6, Int.reduceLE, Int.reduceNeg, Int.reduceLT, Int.reduceEq, Nat.reduceEqDiff, ne_eq, not_false_eq_true, lk_Mo_best_0, lk_Mo_best_1, lk_Mo_best_2, lk_Mo_best_5, lk_Mo_best_6, lk_Mo_best_9, lk_Mo_best_12, if_true]) | with_reducible apply And.intro | with_reducible intro _ | (refine ⟨_, h1, ?_⟩; rintro _ _ ⟨rfl, rfl⟩) | (refine ⟨_, h2, ?_⟩; rintro _ _ ⟨rfl, rfl⟩)
  all_goals first | rfl | exact q1 | exact q2
/-- the same chart, the same plan -/
theorem md_dg_sm {M m : sc_M} (h : mo_sm M m) : md_dg m = md_dg M := by
  funext w
  unfold md_dg
  rw [h 20 (by omega), h 21 (by omega)]
theorem md_kn_sm {M m : sc_M} (h : mo_sm M m) : md_kn m = md_kn M := by
  funext w
  unfold md_kn
  rw [h 20 (by omega), h 22 (by omega), h 23 (by omega), h 24 (by omega), h 18 (by omega)]
theorem md_nb_sm {M m : sc_M} (h : mo_sm M m) : md_nb m = md_nb M := by
  funext N s w
  unfold md_nb
  rw [h 20 (by omega), h 21 (by omega), md_dg_sm h]
theorem md_wt_sm {M m : sc_M} (h : mo_sm M m) : md_wt m = md_wt M := by
  funext N w
  unfold md_wt
  rw [h 20 (by omega), h 21 (by omega), h 22 (by omega), h 23 (by omega), h 26 (by omega), h 18 (by omega), md_dg_sm h]
theorem md_on_sm {M m : sc_M} (h : mo_sm M m) : md_on m = md_on M := by
  funext N w
  unfold md_on
  rw [h 20 (by omega), h 21 (by omega), h 22 (by omega), h 23 (by omega), h 26 (by omega), md_dg_sm h]
theorem md_ic_sm {M m : sc_M} (h : mo_sm M m) : md_ic m = md_ic M := by
  funext k
  unfold md_ic
  rw [h 20 (by omega), h 18 (by omega)]
theorem md_go_sm {M m : sc_M} (h : mo_sm M m) : md_go m = md_go M := by
  funext N kn P w k
  unfold md_go
  rw [h 25 (by omega), md_dg_sm h, md_nb_sm h]
theorem md_bh_sm {M m : sc_M} (h : mo_sm M m) : md_bh m = md_bh M := by
  funext N kn P c w
  unfold md_bh
  rw [md_go_sm h, md_ic_sm h]
theorem md_cm_sm {M m : sc_M} (h : mo_sm M m) : md_cm m = md_cm M := by
  funext N kn P w
  unfold md_cm
  rw [md_go_sm h, md_ic_sm h]
theorem md_fo_sm {M m : sc_M} (h : mo_sm M m) : md_fo m = md_fo M := by
  funext c w
  unfold md_fo
  rw [h 25 (by omega), md_dg_sm h]
theorem md_st_sm {M m : sc_M} (h : mo_sm M m) : md_st m = md_st M := by
  funext N P W c key
  have e : md_tm m = md_tm M := by
    funext N P c key s w
    unfold md_tm
    rw [md_nb_sm h, md_kn_sm h, md_dg_sm h, md_bh_sm h, md_wt_sm h, md_on_sm h]
  have e2 : md_sm m = md_sm M := by
    funext N P W c key s
    unfold md_sm
    rw [e]
  have e3 : md_cb m = md_cb M := by
    funext N W c key
    unfold md_cb
    rw [md_nb_sm h, md_kn_sm h, md_wt_sm h, md_fo_sm h]
  unfold md_st
  rw [e2, e3, h 21 (by omega)]
theorem md_PL_sm {M m : sc_M} (h : mo_sm M m) (N W : Nat) : ∀ j, md_PL m N W j = md_PL M N W j
  | 0 => rfl
  | j + 1 => by
    funext k key
    rw [md_PL, md_PL, md_PL_sm h N W j, md_st_sm h]
    have e : md_ic m k = md_ic M k := by rw [md_ic_sm h]
    show (if k = N - 1 - j ∧ md_ic m k then md_st M N (md_PL M N W j) W k key else md_PL M N W j k key) = (if k = N - 1 - j ∧ md_ic M k then md_st M N (md_PL M N W j) W k key else md_PL M N W j k key)
    by_cases hc : k = N - 1 - j ∧ md_ic M k
    · rw [if_pos hc, if_pos (by rw [e]; exact hc)]
    · rw [if_neg hc, if_neg (by rw [e]; exact hc)]
theorem md_tot_sm {M m : sc_M} (h : mo_sm M m) : md_tot m = md_tot M := by
  funext N W kn P
  unfold md_tot
  rw [md_cm_sm h, md_wt_sm h, md_on_sm h]
theorem md_best_sm {M m : sc_M} (h : mo_sm M m) (N W : Nat) : md_best m N W = md_best M N W := by
  unfold md_best
  rw [md_tot_sm h, md_kn_sm h, md_PL_sm h]
theorem mo_w_24 {μ : sc_M} {N : Nat} (h : mo_w μ N) (f : Nat → Int) (hf : ∀ n, n < N → 0 ≤ f n ∧ f n < 1024) : mo_w (sc_arr μ 24 f) N := by
  have e : ∀ b, b ≠ 24 → sc_arr μ 24 f b = μ b := fun b hb => sc_arr_ne _ _ hb
  unfold mo_w mo_nd at *
  rw [e 18 (by decide), e 20 (by decide), e 21 (by decide), e 22 (by decide), e 23 (by decide), e 25 (by decide), e 26 (by decide), sc_arr_eq]
  refine ⟨h.1, h.2.1, fun n hn => ?_, h.2.2.2.1, h.2.2.2.2⟩
  obtain ⟨k1, k2, k3, k4, k5, k6, k7, k8⟩ := h.2.2.1 n hn
  exact ⟨k1, k2, k3, k4, k5, hf n hn, k7, k8⟩
theorem mo_w_24u {μ : sc_M} {N : Nat} (h : mo_w μ N) (x : Nat) (v : Int) (hv : 0 ≤ v ∧ v < 1024) : mo_w (sc_up μ 24 x v) N := by
  rw [sc_up_arr]
  refine mo_w_24 h _ (fun n hn => ?_)
  split
  · exact hv
  · exact (h.2.2.1 n hn).2.2.2.2.2.1
