theorem wo_ch_bt (K : Nat → Int) (k : Nat) (hk : k < 10) : ∀ n, n ≤ 10 → (0 ≤ wo_ch K n ∧ wo_ch K n < 1024) ∧ (mo_bt (wo_ch K n) k = 1 ↔ k < n ∧ K k = 1)
  | 0, _ => by
    refine ⟨by simp [wo_ch], ?_⟩
    rw [wo_ch]
    exact ⟨fun h => absurd h (mo_bt_0 k hk), fun h => by omega⟩
  | n + 1, hn => by
    obtain ⟨i1, i2⟩ := wo_ch_bt K k hk n (by omega)
    rw [wo_ch]
    by_cases hK : K n = 1
    · rw [if_pos hK]
      refine ⟨sc_bset_lt _ i1 n (by omega), ?_⟩
      rw [mo_bt_or _ _ i1 (sc_one_lt n (by omega)) k hk, i2, mo_bt_one n k (by omega) hk]
      constructor
      · rintro (h | h)
        · exact ⟨by omega, h.2⟩
        · subst h; exact ⟨by omega, hK⟩
      · rintro ⟨h1, h2⟩
        rcases Nat.lt_or_ge k n with h | h
        · exact Or.inl ⟨h, h2⟩
        · exact Or.inr (by omega)
    · rw [if_neg hK]
      refine ⟨i1, i2.trans ⟨fun h => ⟨by omega, h.2⟩, fun h => ⟨?_, h.2⟩⟩⟩
      rcases Nat.lt_or_ge k n with h3 | h3
      · exact h3
      · rw [show k = n by omega] at h; exact absurd h.2 hK
theorem mo_kw_bt (K V : Nat → Int) (n : Nat) (hV : 0 ≤ V n ∧ V n < 1024) (k : Nat) (hk : k < 10) : ∀ p, p ≤ 10 → (mo_bt (mo_kw K V n p) k = 1 ↔ mo_bt (V n) k = 1 ∨ (K n = 2 ∧ k < p ∧ K k = 1))
  | 0, _ => by
    rw [mo_kw]
    exact ⟨Or.inl, fun h => h.elim id (fun q => by omega)⟩
  | p + 1, hp => by
    have ih := mo_kw_bt K V n hV k hk p (by omega)
    have hl := mo_kw_lt K V n hV p (by omega)
    rw [mo_kw]
    by_cases hc : K n = 2 ∧ K p = 1
    · rw [if_pos hc, mo_bt_or _ _ hl (sc_one_lt p (by omega)) k hk, ih, mo_bt_one p k (by omega) hk]
      constructor
      · rintro ((h | h) | h)
        · exact Or.inl h
        · exact Or.inr ⟨h.1, by omega, h.2.2⟩
        · subst h; exact Or.inr ⟨hc.1, by omega, hc.2⟩
      · rintro (h | ⟨h1, h2, h3⟩)
        · exact Or.inl (Or.inl h)
        · rcases Nat.lt_or_ge k p with h | h
          · exact Or.inl (Or.inr ⟨h1, h, h3⟩)
          · exact Or.inr (by omega)
    · rw [if_neg hc, (sc_or_0 _ hl).1, ih]
      constructor
      · rintro (h | ⟨h1, h2, h3⟩)
        · exact Or.inl h
        · exact Or.inr ⟨h1, by omega, h3⟩
      · rintro (h | ⟨h1, h2, h3⟩)
        · exact Or.inl h
        · rcases Nat.lt_or_ge k p with h | h
          · exact Or.inr ⟨h1, h, h3⟩
          · rw [show k = p by omega] at h3; exact absurd ⟨h1, h3⟩ hc
theorem mo_all_ch {μ : sc_M} {N : Nat} (hw : mo_w μ N) (hx : mo_x μ N) (n : Nat) (hn : n < N) (hK : μ 20 n = 2) : mo_all μ N n = wo_ch (μ 20) n := by
  have hN1 := hw.1
  have hV := (hw.2.2.1 n hn).2.2.2.2.2.1
  unfold mo_all
  rw [if_pos hn]
  refine mo_bt_ext _ _ (mo_kw_lt _ _ n hV n (by omega)) (wo_ch_bt (μ 20) 0 (by omega) n (by omega)).1 (fun k hk => ?_)
  rw [mo_kw_bt _ _ n hV k hk n (by omega), (wo_ch_bt (μ 20) k hk n (by omega)).2]
  constructor
  · rintro (h | h)
    · exact hx.2.1 n hn k hk h
    · exact h.2
  · exact fun h => Or.inr ⟨hK, h⟩
theorem mo_all_0 {μ : sc_M} {N : Nat} (hw : mo_w μ N) (hx : mo_x μ N) (n : Nat) (hn : n < N) (hK : ¬ μ 20 n = 2) : mo_all μ N n = 0 := by
  have hN1 := hw.1
  have hV := (hw.2.2.1 n hn).2.2.2.2.2.1
  have h0 := hx.2.2.1 n hn hK
  unfold mo_all
  rw [if_pos hn]
  refine mo_bt_ext _ _ (mo_kw_lt _ _ n hV n (by omega)) ⟨by omega, by omega⟩ (fun k hk => ?_)
  rw [mo_kw_bt _ _ n hV k hk n (by omega), h0]
  exact ⟨fun h => h.elim id (fun q => absurd q.1 hK), Or.inl⟩
set_option maxRecDepth 100000 in
set_option maxHeartbeats 4000000 in
theorem sp_Sc_knowing (l : Launch) (G : sc_G) (d : Nat) (μ : sc_M) (N : Nat) (h : iv_ch μ N) : sc_Sp l G (d + 8) mq_Sc_knowing [.inr (.inr (.inl (0)))] μ (fun r μ' => r = .inl (1) ∧ sc_kp (sc_tel μ (md_best (sc_arr μ 24 (mo_all μ N)) N (na_sd μ N) - md_best μ N (na_sd μ N)) (mo_aw (μ 20) (μ 18 13) N)) μ') := by
  have hN1 := h.1.1
  have c2 := sp_Sc_bestOfChart l G d μ N h
  have hall : ∀ n, n < N → 0 ≤ mo_all μ N n ∧ mo_all μ N n < 1024 := fun n hn => by
    unfold mo_all
    rw [if_pos hn]
    exact mo_kw_lt _ _ n (h.1.2.2.1 n hn).2.2.2.2.2.1 n (by omega)
  have hb : -15045919506432000 ≤ md_best μ N (na_sd μ N) ∧ md_best μ N (na_sd μ N) ≤ 15045919506432000 := md_tot_le h.1 (na_sd_243 h.1 N (Nat.le_refl _)) _ _
  have hb2 : -15045919506432000 ≤ md_best (sc_arr μ 24 (mo_all μ N)) N (na_sd μ N) ∧ md_best (sc_arr μ 24 (mo_all μ N)) N (na_sd μ N) ≤ 15045919506432000 := md_tot_le (mo_w_24 h.1 _ hall) (na_sd_243 h.1 N (Nat.le_refl _)) _ _
  have ha := mo_aw_10 (μ 20) (μ 18 13) h.1.1
  have hww := iv_ww h N (Nat.le_refl _)
  refine sc_enter cm_Sc_knowing (plainFor_of_name (by decide)) [.inr (.inr (.inl (0))), .inr (.inr (.inr ())), .inr (.inr (.inr ()))] rfl rfl ?_
  refine sc_rp ?_
  repeat' first | (with_reducible refine sc_st1 tk_Sc_knowing ?_; simp only [sc_dz, sc_gz, sc_brn, sc_stp, sc_nth, sc_sto_0, sc_sto_1, sc_sto_s, sc_stoJ_0, sc_stoJ_1, sc_stoJ_s, sc_k1_i, sc_k1_j, sc_k1_r, sc_k1_u, sc_x1, sc_x2, sc_xv, sc_xc, sc_1i, sc_2i, sc_1j, sc_2j, sc_1r, sc_ir, sc_iir, sc_jir, sc_xr, sc_jr, sc_1v, sc_2v, sc_vI, sc_vJ, sc_vR, sc_retI, sc_call, sc_callS, sc_args, sc_psh_i, sc_psh_j, sc_psh_r, sc_psh_u, sc_cats, sc_sw, sc_cpy, sc_isJ, fv_0_0, ft_0_0, fv_0_1, ft_0_1, fv_0_2, ft_0_2, fv_1_0, ft_1_0, fv_1_1, ft_1_1, fv_1_2, ft_1_2, fv_1_3, ft_1_3, fv_2_0, ft_2_0, fv_2_1, ft_2_1, fv_2_2, ft_2_2, fv_2_3, ft_2_3, fv_2_4, ft_2_4, fv_2_5, ft_2_5, fv_2_6, ft_2_6, fv_2_7, ft_2_7, fv_2_8, ft_2_8, fv_3_0, ft_3_0, fv_3_1, ft_3_1, fv_3_2, ft_3_2, fv_3_3, ft_3_3, fv_3_4, ft_3_4, fv_3_5, ft_3_5, fv_3_6, ft_3_6, fv_3_7, ft_3_7, fv_3_8, ft_3_8, fv_3_9, ft_3_9, fv_3_10, ft_3_10, fv_3_11, ft_3_11, fv_4_0, ft_4_0, fv_4_1, ft_4_1, fv_4_2, ft_4_2, fv_4_3, ft_4_3, fv_4_4, ft_4_4, fv_4_5, ft_4_5, fv_4_6, ft_4_6, fv_4_7, ft_4_7, fv_4_8, ft_4_8, fv_4_9, ft_4_9, fv_5_0, ft_5_0, fv_5_1, ft_5_1, fv_5_2, ft_5_2, fv_5_3, ft_5_3, fv_5_4, ft_5_4, fv_5_5, ft_5_5, fv_5_6, ft_5_6, fv_5_7, ft_5_7, fv_5_8, ft_5_8, fv_5_9, ft_5_9, fv_5_10, ft_5_10, fv_5_11, ft_5_11, fv_5_12, ft_5_12, fv_5_13, ft_5_13, fv_5_14, ft_5_14, fv_5_15, ft_5_15, fv_5_16, ft_5_16, fv_5_17, ft_5_17, fv_5_18, ft_5_18, fv_5_19, ft_5_19, fv_5_20, ft_5_20, fv_5_21, ft_5_21, fv_5_22, ft_5_22, kd_0, kd_1, kd_2, kd_3, kd_4, kd_5, kd_6, kd_7, kd_8, kd_9, kd_10, kd_11, kd_12, kd_13, kd_14, kd_15, kd_16, kd_17, kd_18, kd_19, kd_20, kd_21, kd_22, kd_23, kd_24, kd_25, kd_26, kd_27, kd_28, kd_29, kd_30, kd_31, kd_32, kd_33, kd_34, kd_35, kd_36, kd_37, kd_38, kd_39, rt_0_0, rt_0_1, rt_0_2, rt_0_3, rt_0_4, rt_0_5, rt_1_0, rt_1_1, rt_1_2, rt_1_3, rt_1_4, rt_1_5, rt_1_6, rt_1_7, rt_1_8, rt_2_0, rt_12_0, rt_12_1, rt_18_1, rt_18_6, rt_18_7, rt_18_8, rt_18_9, rt_18_10, rt_18_11, rt_18_12, rt_18_14, rt_18_15, rt_18_16, rt_18_17, rt_18_18, rt_18_19, rt_18_20, rt_18_21, rt_18_22, rt_N7, rt_N8, ra_3, ra_15, sc_pu, Nat.reduceAdd, Int.toNat_natCast, true_and, and_true, reduceIte, forall_const, Nat.reduceLeDiff, Nat.zero_le, sc_in, sc_in6, Int.reduceLE, Int.reduceNeg, Int.reduceLT, Int.reduceEq, Nat.reduceEqDiff, ne_eq, not_false_eq_true, lk_Sc_knowing_0, lk_Sc_knowing_1, lk_Sc_knowing_4, lk_Sc_knowing_5, lk_Sc_knowing_6, lk_Sc_knowing_9, lk_Sc_knowing_12, lk_Sc_knowing_13, lk_Sc_knowing_16, lk_Sc_knowing_19, lk_Sc_knowing_20, lk_Sc_knowing_21, lk_Sc_knowing_24, lk_Sc_knowing_27, lk_Sc_knowing_28, lk_Sc_knowing_29, lk_Sc_knowing_32]) | with_reducible apply And.intro | with_reducible intro _
  refine ⟨_, c2, ?_⟩
  rintro _ m ⟨rfl, k1⟩
  have c3 := sp_Wo_takeChart l G (d + 7) m
  have k2 := sc_kp_trans k1 (sc_kp_tk m)
  have hcm : cn_ok μ (wo_tk m 10) N := sc_kp_cn k2 h.2.2.2.1
  have c4 := sp_Wo_supposeAllSights l G (d + 7) (wo_tk m 10) μ N h.1 hcm
  have k3 : sc_kp μ (wo_al μ (wo_tk m 10) N) := fun b hb => by rw [wo_al_ne _ _ _ (by omega)]; exact k2 b hb
  have c5 := sp_Wo_greatest1 l G (d + 1) μ (wo_al μ (wo_tk m 10) N) N h (mo_all μ N) hall (fun n hn k hk hb9 => by
    by_cases hK : μ 20 n = 2
    · rw [mo_all_ch h.1 h.2.1 n hn hK] at hb9
      exact (wo_ch_bt (μ 20) k hk n (by omega)).2.mp hb9
    · rw [mo_all_0 h.1 h.2.1 n hn hK] at hb9
      exact absurd hb9 (mo_bt_0 k hk)) (fun n hn hK => mo_all_0 h.1 h.2.1 n hn hK) k3 (by rw [wo_al_ne _ _ _ (by decide)]; exact wo_tk_11 m) (fun n hn hK => by
    rw [mo_all_ch h.1 h.2.1 n hn hK]
    unfold wo_al
    rw [sc_arr_eq]
    exact if_pos ⟨hn, hK⟩)
  generalize md_best (sc_arr μ 24 (mo_all μ N)) N (na_sd μ N) = b2 at hb2 c5 ⊢
  generalize md_best μ N (na_sd μ N) = b1 at hb ⊢
  generalize mo_aw (μ 20) (μ 18 13) N = aw at ha hww ⊢
  generalize wo_al μ (wo_tk m 10) N = m5 at c4 c5 k3
  repeat' first | (with_reducible refine sc_st1 tk_Sc_knowing ?_; simp only [sc_dz, sc_gz, sc_brn, sc_stp, sc_nth, sc_sto_0, sc_sto_1, sc_sto_s, sc_stoJ_0, sc_stoJ_1, sc_stoJ_s, sc_k1_i, sc_k1_j, sc_k1_r, sc_k1_u, sc_x1, sc_x2, sc_xv, sc_xc, sc_1i, sc_2i, sc_1j, sc_2j, sc_1r, sc_ir, sc_iir, sc_jir, sc_xr, sc_jr, sc_1v, sc_2v, sc_vI, sc_vJ, sc_vR, sc_retI, sc_call, sc_callS, sc_args, sc_psh_i, sc_psh_j, sc_psh_r, sc_psh_u, sc_cats, sc_sw, sc_cpy, sc_isJ, fv_0_0, ft_0_0, fv_0_1, ft_0_1, fv_0_2, ft_0_2, fv_1_0, ft_1_0, fv_1_1, ft_1_1, fv_1_2, ft_1_2, fv_1_3, ft_1_3, fv_2_0, ft_2_0, fv_2_1, ft_2_1, fv_2_2, ft_2_2, fv_2_3, ft_2_3, fv_2_4, ft_2_4, fv_2_5, ft_2_5, fv_2_6, ft_2_6, fv_2_7, ft_2_7, fv_2_8, ft_2_8, fv_3_0, ft_3_0, fv_3_1, ft_3_1, fv_3_2, ft_3_2, fv_3_3, ft_3_3, fv_3_4, ft_3_4, fv_3_5, ft_3_5, fv_3_6, ft_3_6, fv_3_7, ft_3_7, fv_3_8, ft_3_8, fv_3_9, ft_3_9, fv_3_10, ft_3_10, fv_3_11, ft_3_11, fv_4_0, ft_4_0, fv_4_1, ft_4_1, fv_4_2, ft_4_2, fv_4_3, ft_4_3, fv_4_4, ft_4_4, fv_4_5, ft_4_5, fv_4_6, ft_4_6, fv_4_7, ft_4_7, fv_4_8, ft_4_8, fv_4_9, ft_4_9, fv_5_0, ft_5_0, fv_5_1, ft_5_1, fv_5_2, ft_5_2, fv_5_3, ft_5_3, fv_5_4, ft_5_4, fv_5_5, ft_5_5, fv_5_6, ft_5_6, fv_5_7, ft_5_7, fv_5_8, ft_5_8, fv_5_9, ft_5_9, fv_5_10, ft_5_10, fv_5_11, ft_5_11, fv_5_12, ft_5_12, fv_5_13, ft_5_13, fv_5_14, ft_5_14, fv_5_15, ft_5_15, fv_5_16, ft_5_16, fv_5_17, ft_5_17, fv_5_18, ft_5_18, fv_5_19, ft_5_19, fv_5_20, ft_5_20, fv_5_21, ft_5_21, fv_5_22, ft_5_22, kd_0, kd_1, kd_2, kd_3, kd_4, kd_5, kd_6, kd_7, kd_8, kd_9, kd_10, kd_11, kd_12, kd_13, kd_14, kd_15, kd_16, kd_17, kd_18, kd_19, kd_20, kd_21, kd_22, kd_23, kd_24, kd_25, kd_26, kd_27, kd_28, kd_29, kd_30, kd_31, kd_32, kd_33, kd_34, kd_35, kd_36, kd_37, kd_38, kd_39, rt_0_0, rt_0_1, rt_0_2, rt_0_3, rt_0_4, rt_0_5, rt_1_0, rt_1_1, rt_1_2, rt_1_3, rt_1_4, rt_1_5, rt_1_6, rt_1_7, rt_1_8, rt_2_0, rt_12_0, rt_12_1, rt_18_1, rt_18_6, rt_18_7, rt_18_8, rt_18_9, rt_18_10, rt_18_11, rt_18_12, rt_18_14, rt_18_15, rt_18_16, rt_18_17, rt_18_18, rt_18_19, rt_18_20, rt_18_21, rt_18_22, rt_N7, rt_N8, ra_3, ra_15, sc_pu, Nat.reduceAdd, Int.toNat_natCast, true_and, and_true, reduceIte, forall_const, Nat.reduceLeDiff, Nat.zero_le, sc_in, sc_in6, Int.reduceLE, Int.reduceNeg, Int.reduceLT, Int.reduceEq, Nat.reduceEqDiff, ne_eq, not_false_eq_true, lk_Sc_knowing_0, lk_Sc_knowing_1, lk_Sc_knowing_4, lk_Sc_knowing_5, lk_Sc_knowing_6, lk_Sc_knowing_9, lk_Sc_knowing_12, lk_Sc_knowing_13, lk_Sc_knowing_16, lk_Sc_knowing_19, lk_Sc_knowing_20, lk_Sc_knowing_21, lk_Sc_knowing_24, lk_Sc_knowing_27, lk_Sc_knowing_28, lk_Sc_knowing_29, lk_Sc_knowing_32, if_true]) | with_reducible apply And.intro | with_reducible intro _ | (refine ⟨_, c3, ?_⟩; rintro _ _ ⟨u1, u2⟩; rw [u1, u2]) | (refine ⟨_, c4, ?_⟩; rintro _ _ ⟨u1, u2⟩; rw [u1, u2])
  all_goals try (first | omega | exact Or.inl trivial)
  refine ⟨_, c5, ?_⟩
  rintro _ m2 ⟨rfl, k4⟩
  have k5 := sc_kp_trans k3 k4
  have c6 := sp_Sc_tellFraction l G (d + 6) m2 N (sc_nw_cells h.2.2.2.1.1 (fun b hb => k5 b (by omega))) aw (by rw [sc_kp_ww k5]; exact hww) ha (b2 - b1) (by omega)
  have q1 := sc_kp_tel k5 (b2 - b1) aw
  generalize sc_tel m2 (b2 - b1) aw = m9 at c6 q1
  repeat' first | (with_reducible refine sc_st1 tk_Sc_knowing ?_; simp only [sc_dz, sc_gz, sc_brn, sc_stp, sc_nth, sc_sto_0, sc_sto_1, sc_sto_s, sc_stoJ_0, sc_stoJ_1, sc_stoJ_s, sc_k1_i, sc_k1_j, sc_k1_r, sc_k1_u, sc_x1, sc_x2, sc_xv, sc_xc, sc_1i, sc_2i, sc_1j, sc_2j, sc_1r, sc_ir, sc_iir, sc_jir, sc_xr, sc_jr, sc_1v, sc_2v, sc_vI, sc_vJ, sc_vR, sc_retI, sc_call, sc_callS, sc_args, sc_psh_i, sc_psh_j, sc_psh_r, sc_psh_u, sc_cats, sc_sw, sc_cpy, sc_isJ, fv_0_0, ft_0_0, fv_0_1, ft_0_1, fv_0_2, ft_0_2, fv_1_0, ft_1_0, fv_1_1, ft_1_1, fv_1_2, ft_1_2, fv_1_3, ft_1_3, fv_2_0, ft_2_0, fv_2_1, ft_2_1, fv_2_2, ft_2_2, fv_2_3, ft_2_3, fv_2_4, ft_2_4, fv_2_5, ft_2_5, fv_2_6, ft_2_6, fv_2_7, ft_2_7, fv_2_8, ft_2_8, fv_3_0, ft_3_0, fv_3_1, ft_3_1, fv_3_2, ft_3_2, fv_3_3, ft_3_3, fv_3_4, ft_3_4, fv_3_5, ft_3_5, fv_3_6, ft_3_6, fv_3_7, ft_3_7, fv_3_8, ft_3_8, fv_3_9, ft_3_9, fv_3_10, ft_3_10, fv_3_11, ft_3_11, fv_4_0, ft_4_0, fv_4_1, ft_4_1, fv_4_2, ft_4_2, fv_4_3, ft_4_3, fv_4_4, ft_4_4, fv_4_5, ft_4_5, fv_4_6, ft_4_6, fv_4_7, ft_4_7, fv_4_8, ft_4_8, fv_4_9, ft_4_9, fv_5_0, ft_5_0, fv_5_1, ft_5_1, fv_5_2, ft_5_2, fv_5_3, ft_5_3, fv_5_4, ft_5_4, fv_5_5, ft_5_5, fv_5_6, ft_5_6, fv_5_7, ft_5_7, fv_5_8, ft_5_8, fv_5_9, ft_5_9, fv_5_10, ft_5_10, fv_5_11, ft_5_11, fv_5_12, ft_5_12, fv_5_13, ft_5_13, fv_5_14, ft_5_14, fv_5_15, ft_5_15, fv_5_16, ft_5_16, fv_5_17, ft_5_17, fv_5_18, ft_5_18, fv_5_19, ft_5_19, fv_5_20, ft_5_20, fv_5_21, ft_5_21, fv_5_22, ft_5_22, kd_0, kd_1, kd_2, kd_3, kd_4, kd_5, kd_6, kd_7, kd_8, kd_9, kd_10, kd_11, kd_12, kd_13, kd_14, kd_15, kd_16, kd_17, kd_18, kd_19, kd_20, kd_21, kd_22, kd_23, kd_24, kd_25, kd_26, kd_27, kd_28, kd_29, kd_30, kd_31, kd_32, kd_33, kd_34, kd_35, kd_36, kd_37, kd_38, kd_39, rt_0_0, rt_0_1, rt_0_2, rt_0_3, rt_0_4, rt_0_5, rt_1_0, rt_1_1, rt_1_2, rt_1_3, rt_1_4, rt_1_5, rt_1_6, rt_1_7, rt_1_8, rt_2_0, rt_12_0, rt_12_1, rt_18_1, rt_18_6, rt_18_7, rt_18_8, rt_18_9, rt_18_10, rt_18_11, rt_18_12, rt_18_14, rt_18_15, rt_18_16, rt_18_17, rt_18_18, rt_18_19, rt_18_20, rt_18_21, rt_18_22, rt_N7, rt_N8, ra_3, ra_15, sc_pu, Nat.reduceAdd, Int.toNat_natCast, true_and, and_true, reduceIte, forall_const, Nat.reduceLeDiff, Nat.zero_le, sc_in, sc_in6, Int.reduceLE, Int.reduceNeg, Int.reduceLT, Int.reduceEq, Nat.reduceEqDiff, ne_eq, not_false_eq_true, lk_Sc_knowing_0, lk_Sc_knowing_1, lk_Sc_knowing_4, lk_Sc_knowing_5, lk_Sc_knowing_6, lk_Sc_knowing_9, lk_Sc_knowing_12, lk_Sc_knowing_13, lk_Sc_knowing_16, lk_Sc_knowing_19, lk_Sc_knowing_20, lk_Sc_knowing_21, lk_Sc_knowing_24, lk_Sc_knowing_27, lk_Sc_knowing_28, lk_Sc_knowing_29, lk_Sc_knowing_32, if_true]) | with_reducible apply And.intro | with_reducible intro _ | (refine ⟨_, c6, ?_⟩; rintro _ _ ⟨rfl, rfl⟩)
  all_goals first | rfl | exact q1 | omega
theorem sc_any_iff (f : Nat → Int) (p : Int) : ∀ n, sc_any f p n = true ↔ ∃ i, i < n ∧ f i = p
  | 0 => by
    constructor
    · intro h; exact absurd h (by simp [sc_any])
    · rintro ⟨i, h, -⟩; omega
  | n + 1 => by
    rw [sc_any, Bool.or_eq_true, sc_any_iff f p n, decide_eq_true_eq]
    constructor
    · rintro (⟨i, h1, h2⟩ | h)
      · exact ⟨i, by omega, h2⟩
      · exact ⟨n, by omega, h⟩
    · rintro ⟨i, h1, h2⟩
      rcases Nat.lt_or_ge i n with h | h
      · exact Or.inl ⟨i, h, h2⟩
      · rw [show i = n by omega] at h2; exact Or.inr h2
theorem wo_pc_bt (M : sc_M) (c : Nat) (k : Nat) (hk : k < 10) : ∀ p, p ≤ 10 → (0 ≤ wo_pc M c p ∧ wo_pc M c p < 1024) ∧ (mo_bt (wo_pc M c p) k = 1 ↔ k < p ∧ M 20 k = 1 ∧ ∃ i, i < (M 22 c).toNat ∧ M 23 (3 * c + i) = (k : Int))
  | 0, _ => by
    refine ⟨by simp [wo_pc], ?_⟩
    rw [wo_pc]
    exact ⟨fun h => absurd h (mo_bt_0 k hk), fun h => by omega⟩
  | p + 1, hp => by
    obtain ⟨i1, i2⟩ := wo_pc_bt M c k hk p (by omega)
    rw [wo_pc]
    by_cases hc : M 20 p = 1 ∧ ∃ i, i < (M 22 c).toNat ∧ M 23 (3 * c + i) = (p : Int)
    · rw [if_pos (show M 20 p = 1 ∧ sc_any (fun k => M 23 (3 * c + k)) (p : Int) (M 22 c).toNat = true from ⟨hc.1, (sc_any_iff _ _ _).mpr hc.2⟩)]
      refine ⟨sc_bset_lt _ i1 p (by omega), ?_⟩
      rw [mo_bt_or _ _ i1 (sc_one_lt p (by omega)) k hk, i2, mo_bt_one p k (by omega) hk]
      constructor
      · rintro (h | h)
        · exact ⟨by omega, h.2⟩
        · subst h; exact ⟨by omega, hc⟩
      · rintro ⟨h1, h2⟩
        rcases Nat.lt_or_ge k p with h | h
        · exact Or.inl ⟨h, h2⟩
        · exact Or.inr (by omega)
    · rw [if_neg (show ¬ (M 20 p = 1 ∧ sc_any (fun k => M 23 (3 * c + k)) (p : Int) (M 22 c).toNat = true) from fun q => hc ⟨q.1, (sc_any_iff _ _ _).mp q.2⟩)]
      refine ⟨i1, i2.trans ⟨fun h => ⟨by omega, h.2⟩, fun h => ⟨?_, h.2⟩⟩⟩
      rcases Nat.lt_or_ge k p with h3 | h3
      · exact h3
      · rw [show k = p by omega] at h; exact absurd h.2 hc
theorem mo_sof_bt {M : sc_M} {N : Nat} (hw : mo_w M N) (n : Nat) (hn : n < N) (k : Nat) (hk : k < 10) : ∀ j, j ≤ (M 22 n).toNat → (0 ≤ mo_sof (M 20) (M 23) (M 24) n j ∧ mo_sof (M 20) (M 23) (M 24) n j < 1024) ∧ (mo_bt (mo_sof (M 20) (M 23) (M 24) n j) k = 1 ↔ mo_bt (M 24 n) k = 1 ∨ (M 20 k = 1 ∧ ∃ i, i < j ∧ M 23 (3 * n + i) = (k : Int)))
  | 0, _ => by
    obtain ⟨-, -, -, -, k5, k6, -⟩ := hw.2.2.1 n hn
    refine ⟨k6, Or.inl, ?_⟩
    rintro (h | ⟨-, i, h, -⟩)
    · exact h
    · omega
  | j + 1, hj => by
    have hN1 := hw.1
    obtain ⟨i1, i2⟩ := mo_sof_bt hw n hn k hk j (by omega)
    have h5 := (hw.2.2.1 n hn).2.2.2.2.1 j (by omega)
    obtain ⟨p, hp⟩ := Int.eq_ofNat_of_zero_le h5.1
    rw [mo_sof, hp, Int.toNat_natCast]
    rw [hp] at h5
    by_cases hc : M 20 p = 1
    · rw [if_pos hc]
      refine ⟨sc_bset_lt _ i1 p (by omega), ?_⟩
      rw [mo_bt_or _ _ i1 (sc_one_lt p (by omega)) k hk, i2, mo_bt_one p k (by omega) hk]
      constructor
      · rintro ((h | ⟨h, i, h1, h2⟩) | h)
        · exact Or.inl h
        · exact Or.inr ⟨h, i, by omega, h2⟩
        · subst h; exact Or.inr ⟨hc, j, by omega, hp⟩
      · rintro (h | ⟨h, i, h1, h2⟩)
        · exact Or.inl (Or.inl h)
        · rcases Nat.lt_or_ge i j with h3 | h3
          · exact Or.inl (Or.inr ⟨h, i, h3, h2⟩)
          · rw [show i = j by omega, hp] at h2
            exact Or.inr (by omega)
    · rw [if_neg hc, (sc_or_0 _ i1).1]
      refine ⟨i1, i2.trans ⟨?_, ?_⟩⟩
      · rintro (h | ⟨h, i, h1, h2⟩)
        · exact Or.inl h
        · exact Or.inr ⟨h, i, by omega, h2⟩
      · rintro (h | ⟨h, i, h1, h2⟩)
        · exact Or.inl h
        · rcases Nat.lt_or_ge i j with h3 | h3
          · exact Or.inr ⟨h, i, h3, h2⟩
          · rw [show i = j by omega, hp] at h2
            rw [show k = p by omega] at h
            exact absurd h hc
