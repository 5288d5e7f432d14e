/-- what is supposed: hand and sights -/
def wo_ok (M μ : sc_M) (N : Nat) : Prop := μ 1 11 = M 18 13 ∧ ∀ n, n < N → md_ic M n → μ 4 n = mo_so (M 20) (M 22) (M 23) (M 24) (M 18 13) n
set_option maxRecDepth 100000 in
set_option maxHeartbeats 4000000 in
theorem sp_Wo_isFree (l : Launch) (G : sc_G) (d : Nat) (μ : sc_M) (M : sc_M) (N : Nat) (hw : mo_w M N) (hc : cn_ok M μ N) (hh : μ 1 11 = M 18 13) (n : Nat) (hn : n < N) : sc_Sp l G (d + 1) mq_Wo_isFree [.inr (.inr (.inl (1))), .inl ((n : Int))] μ (sc_pu (.inl (if (n : Int) = M 18 13 ∨ (M 20 n = 2 ∧ M 25 n = -9) then 1 else 0)) μ) := by
  have hN1 := hw.1
  have hn10 : n < 10 := by omega
  have h1 := hc.1.2.2 n hn10
  have c1 := sp_No_isFree l G d μ n hn10 h1.1 h1.2.2.2.1
  obtain ⟨q0, -, -, q3, -⟩ := hc.2.2 n hn
  rw [q0, q3] at c1
  have hi := hw.2.2.2.2.1
  refine sc_enter cm_Wo_isFree (plainFor_of_name (by decide)) [.inr (.inr (.inl (1))), .inl ((n : Int))] rfl rfl ?_
  refine sc_rp ?_
  repeat' first | (with_reducible refine sc_st1 tk_Wo_isFree ?_; simp only [sc_dz, sc_gz, sc_brn, sc_stp, sc_nth, sc_sto_0, sc_sto_1, sc_sto_s, sc_stoJ_0, sc_stoJ_1, sc_stoJ_s, sc_k1_i, sc_k1_j, sc_k1_r, sc_k1_u, sc_x1, sc_x2, sc_xv, sc_xc, sc_1i, sc_2i, sc_1j, sc_2j, sc_1r, sc_ir, sc_iir, sc_jir, sc_xr, sc_jr, sc_1v, sc_2v, sc_vI, sc_vJ, sc_vR, sc_retI, sc_call, sc_callS, sc_args, sc_psh_i, sc_psh_j, sc_psh_r, sc_psh_u, sc_cats, sc_sw, sc_cpy, sc_isJ, fv_0_0, ft_0_0, fv_0_1, ft_0_1, fv_0_2, ft_0_2, fv_1_0, ft_1_0, fv_1_1, ft_1_1, fv_1_2, ft_1_2, fv_1_3, ft_1_3, fv_2_0, ft_2_0, fv_2_1, ft_2_1, fv_2_2, ft_2_2, fv_2_3, ft_2_3, fv_2_4, ft_2_4, fv_2_5, ft_2_5, fv_2_6, ft_2_6, fv_2_7, ft_2_7, fv_2_8, ft_2_8, fv_3_0, ft_3_0, fv_3_1, ft_3_1, fv_3_2, ft_3_2, fv_3_3, ft_3_3, fv_3_4, ft_3_4, fv_3_5, ft_3_5, fv_3_6, ft_3_6, fv_3_7, ft_3_7, fv_3_8, ft_3_8, fv_3_9, ft_3_9, fv_3_10, ft_3_10, fv_3_11, ft_3_11, fv_4_0, ft_4_0, fv_4_1, ft_4_1, fv_4_2, ft_4_2, fv_4_3, ft_4_3, fv_4_4, ft_4_4, fv_4_5, ft_4_5, fv_4_6, ft_4_6, fv_4_7, ft_4_7, fv_4_8, ft_4_8, fv_4_9, ft_4_9, fv_5_0, ft_5_0, fv_5_1, ft_5_1, fv_5_2, ft_5_2, fv_5_3, ft_5_3, fv_5_4, ft_5_4, fv_5_5, ft_5_5, fv_5_6, ft_5_6, fv_5_7, ft_5_7, fv_5_8, ft_5_8, fv_5_9, ft_5_9, fv_5_10, ft_5_10, fv_5_11, ft_5_11, fv_5_12, ft_5_12, fv_5_13, ft_5_13, fv_5_14, ft_5_14, fv_5_15, ft_5_15, fv_5_16, ft_5_16, fv_5_17, ft_5_17, fv_5_18, ft_5_18, fv_5_19, ft_5_19, fv_5_20, ft_5_20, fv_5_21, ft_5_21, fv_5_22, ft_5_22, kd_0, kd_1, kd_2, kd_3, kd_4, kd_5, kd_6, kd_7, kd_8, kd_9, kd_10, kd_11, kd_12, kd_13, kd_14, kd_15, kd_16, kd_17, kd_18, kd_19, kd_20, kd_21, kd_22, kd_23, kd_24, kd_25, kd_26, kd_27, kd_28, kd_29, kd_30, kd_31, kd_32, kd_33, kd_34, kd_35, kd_36, kd_37, kd_38, kd_39, rt_0_0, rt_0_1, rt_0_2, rt_0_3, rt_0_4, rt_0_5, rt_1_0, rt_1_1, rt_1_2, rt_1_3, rt_1_4, rt_1_5, rt_1_6, rt_1_7, rt_1_8, rt_2_0, rt_12_0, rt_12_1, rt_18_1, rt_18_6, rt_18_7, rt_18_8, rt_18_9, rt_18_10, rt_18_11, rt_18_12, rt_18_14, rt_18_15, rt_18_16, rt_18_17, rt_18_18, rt_18_19, rt_18_20, rt_18_21, rt_18_22, rt_N7, rt_N8, ra_3, ra_15, sc_pu, Nat.reduceAdd, Int.toNat_natCast, true_and, and_true, reduceIte, forall_const, Nat.reduceLeDiff, Nat.zero_le, sc_in, sc_in6, Int.reduceLE, Int.reduceNeg, Int.reduceLT, Int.reduceEq, Nat.reduceEqDiff, ne_eq, not_false_eq_true, lk_Wo_isFree_0, lk_Wo_isFree_1, lk_Wo_isFree_2, lk_Wo_isFree_5, lk_Wo_isFree_8, lk_Wo_isFree_9, lk_Wo_isFree_12, lk_Wo_isFree_15, lk_Wo_isFree_16, lk_Wo_isFree_17, lk_Wo_isFree_20, lk_Wo_isFree_23, lk_Wo_isFree_24, lk_Wo_isFree_27, lk_Wo_isFree_28, hh, kd_N0 n hn10]) | with_reducible apply And.intro | with_reducible intro _ | (refine ⟨_, c1, ?_⟩; rintro _ _ ⟨rfl, rfl⟩)
  all_goals grind [sc_in, sc_in6]
/-- what is known ahead of n, and all nodes that are decided there -/
noncomputable def wo_ah (M : sc_M) : Nat → Int
  | 0 => 0
  | n + 1 => @ite Int (md_ic M n) (Classical.propDecidable _) (sc_bor (sc_bor (wo_ah M n) (mo_so (M 20) (M 22) (M 23) (M 24) (M 18 13) n)) (sc_bshl 1 (n : Int))) (wo_ah M n)
noncomputable def wo_kn (M : sc_M) (n : Nat) : Int := sc_if (md_ic M n) (sc_bor (wo_ah M n) (mo_so (M 20) (M 22) (M 23) (M 24) (M 18 13) n)) 0
noncomputable def wo_k (M μ : sc_M) (k : Nat) : sc_M := sc_arr μ 5 (fun j => if j < k then wo_kn M j else μ 5 j)
theorem wo_k_0 (M μ : sc_M) : wo_k M μ 0 = μ := by
  unfold wo_k
  rw [show (fun j => if j < 0 then wo_kn M j else μ 5 j) = μ 5 from funext fun j => if_neg (by omega), sc_arr_self]
theorem wo_k_up (M μ : sc_M) (k : Nat) : sc_up (wo_k M μ k) 5 k (wo_kn M k) = wo_k M μ (k + 1) := by
  unfold wo_k
  rw [sc_up_in_arr]
  congr 1
  funext j
  by_cases hj : j = k
  · subst hj; simp
  · by_cases h4 : j < k
    · simp [hj, h4, Nat.lt_succ_of_lt h4]
    · simp [hj, h4, show ¬ j < k + 1 by omega]
theorem wo_k_ne (M μ : sc_M) (k : Nat) {b : Nat} (h : b ≠ 5) : wo_k M μ k b = μ b := sc_arr_ne _ _ h
set_option maxRecDepth 100000 in
set_option maxHeartbeats 4000000 in
theorem sp_Wo_layKnown (l : Launch) (G : sc_G) (d : Nat) (μ : sc_M) (M : sc_M) (N : Nat) (hw : mo_w M N) (hc : cn_ok M μ N) (hs : wo_ok M μ N) : sc_Sp l G d mq_Wo_layKnown [.inr (.inr (.inl (1)))] μ (fun r μ' => r = .inr (.inr (.inr ())) ∧ μ' = wo_k M μ N) := by
  have hN1 := hw.1
  have hN := hc.1.2.1
  have hi9 := hw.2.2.2.2.1
  refine sc_enter cm_Wo_layKnown (plainFor_of_name (by decide)) [.inr (.inr (.inl (1))), .inr (.inr (.inr ())), .inr (.inr (.inr ()))] rfl rfl ?_
  refine sc_rp ?_
  repeat' first | (with_reducible refine sc_st1 tk_Wo_layKnown ?_; simp only [sc_dz, sc_gz, sc_brn, sc_stp, sc_nth, sc_sto_0, sc_sto_1, sc_sto_s, sc_stoJ_0, sc_stoJ_1, sc_stoJ_s, sc_k1_i, sc_k1_j, sc_k1_r, sc_k1_u, sc_x1, sc_x2, sc_xv, sc_xc, sc_1i, sc_2i, sc_1j, sc_2j, sc_1r, sc_ir, sc_iir, sc_jir, sc_xr, sc_jr, sc_1v, sc_2v, sc_vI, sc_vJ, sc_vR, sc_retI, sc_call, sc_callS, sc_args, sc_psh_i, sc_psh_j, sc_psh_r, sc_psh_u, sc_cats, sc_sw, sc_cpy, sc_isJ, fv_0_0, ft_0_0, fv_0_1, ft_0_1, fv_0_2, ft_0_2, fv_1_0, ft_1_0, fv_1_1, ft_1_1, fv_1_2, ft_1_2, fv_1_3, ft_1_3, fv_2_0, ft_2_0, fv_2_1, ft_2_1, fv_2_2, ft_2_2, fv_2_3, ft_2_3, fv_2_4, ft_2_4, fv_2_5, ft_2_5, fv_2_6, ft_2_6, fv_2_7, ft_2_7, fv_2_8, ft_2_8, fv_3_0, ft_3_0, fv_3_1, ft_3_1, fv_3_2, ft_3_2, fv_3_3, ft_3_3, fv_3_4, ft_3_4, fv_3_5, ft_3_5, fv_3_6, ft_3_6, fv_3_7, ft_3_7, fv_3_8, ft_3_8, fv_3_9, ft_3_9, fv_3_10, ft_3_10, fv_3_11, ft_3_11, fv_4_0, ft_4_0, fv_4_1, ft_4_1, fv_4_2, ft_4_2, fv_4_3, ft_4_3, fv_4_4, ft_4_4, fv_4_5, ft_4_5, fv_4_6, ft_4_6, fv_4_7, ft_4_7, fv_4_8, ft_4_8, fv_4_9, ft_4_9, fv_5_0, ft_5_0, fv_5_1, ft_5_1, fv_5_2, ft_5_2, fv_5_3, ft_5_3, fv_5_4, ft_5_4, fv_5_5, ft_5_5, fv_5_6, ft_5_6, fv_5_7, ft_5_7, fv_5_8, ft_5_8, fv_5_9, ft_5_9, fv_5_10, ft_5_10, fv_5_11, ft_5_11, fv_5_12, ft_5_12, fv_5_13, ft_5_13, fv_5_14, ft_5_14, fv_5_15, ft_5_15, fv_5_16, ft_5_16, fv_5_17, ft_5_17, fv_5_18, ft_5_18, fv_5_19, ft_5_19, fv_5_20, ft_5_20, fv_5_21, ft_5_21, fv_5_22, ft_5_22, kd_0, kd_1, kd_2, kd_3, kd_4, kd_5, kd_6, kd_7, kd_8, kd_9, kd_10, kd_11, kd_12, kd_13, kd_14, kd_15, kd_16, kd_17, kd_18, kd_19, kd_20, kd_21, kd_22, kd_23, kd_24, kd_25, kd_26, kd_27, kd_28, kd_29, kd_30, kd_31, kd_32, kd_33, kd_34, kd_35, kd_36, kd_37, kd_38, kd_39, rt_0_0, rt_0_1, rt_0_2, rt_0_3, rt_0_4, rt_0_5, rt_1_0, rt_1_1, rt_1_2, rt_1_3, rt_1_4, rt_1_5, rt_1_6, rt_1_7, rt_1_8, rt_2_0, rt_12_0, rt_12_1, rt_18_1, rt_18_6, rt_18_7, rt_18_8, rt_18_9, rt_18_10, rt_18_11, rt_18_12, rt_18_14, rt_18_15, rt_18_16, rt_18_17, rt_18_18, rt_18_19, rt_18_20, rt_18_21, rt_18_22, rt_N7, rt_N8, ra_3, ra_15, sc_pu, Nat.reduceAdd, Int.toNat_natCast, true_and, and_true, reduceIte, forall_const, Nat.reduceLeDiff, Nat.zero_le, sc_in, sc_in6, Int.reduceLE, Int.reduceNeg, Int.reduceLT, Int.reduceEq, Nat.reduceEqDiff, ne_eq, not_false_eq_true, lk_Wo_layKnown_0, lk_Wo_layKnown_1, lk_Wo_layKnown_2, lk_Wo_layKnown_3, lk_Wo_layKnown_4, lk_Wo_layKnown_5, lk_Wo_layKnown_6, lk_Wo_layKnown_9, lk_Wo_layKnown_12, lk_Wo_layKnown_15, lk_Wo_layKnown_16, lk_Wo_layKnown_19, lk_Wo_layKnown_20, lk_Wo_layKnown_21, lk_Wo_layKnown_22, lk_Wo_layKnown_23, lk_Wo_layKnown_24, lk_Wo_layKnown_27, lk_Wo_layKnown_30, lk_Wo_layKnown_31, lk_Wo_layKnown_34, lk_Wo_layKnown_37, lk_Wo_layKnown_38, lk_Wo_layKnown_39, lk_Wo_layKnown_42, lk_Wo_layKnown_43, lk_Wo_layKnown_46, lk_Wo_layKnown_49, lk_Wo_layKnown_50, lk_Wo_layKnown_53, lk_Wo_layKnown_54, lk_Wo_layKnown_55, lk_Wo_layKnown_56, lk_Wo_layKnown_59, lk_Wo_layKnown_60, lk_Wo_layKnown_61, lk_Wo_layKnown_62, lk_Wo_layKnown_63, lk_Wo_layKnown_64, lk_Wo_layKnown_67, lk_Wo_layKnown_68, lk_Wo_layKnown_69, lk_Wo_layKnown_70, lk_Wo_layKnown_71, lk_Wo_layKnown_72, lk_Wo_layKnown_73, lk_Wo_layKnown_74, lk_Wo_layKnown_77, lk_Wo_layKnown_80]) | with_reducible apply And.intro | with_reducible intro _
  have h0 := sc_for (l := l) (G := G) (d := d) (y := mq_Wo_layKnown) (pc := 4) (Post := fun r μ' => r = .inr (.inr (.inr ())) ∧ μ' = wo_k M μ N) (fun k => [.inr (.inr (.inl (1))), .inl (wo_ah M k), .inl ((k : Int))]) (fun k => wo_k M μ k) N ?_ ?_ 0 (Nat.zero_le _)
  · rw [wo_k_0] at h0
    exact h0
  · have e := congrFun (wo_k_ne M μ N (b := 2) (by decide)) 1
    rw [hN] at e
    generalize wo_k M μ N = m at e ⊢
    refine sc_rp ?_
    repeat' first | (with_reducible refine sc_st1 tk_Wo_layKnown ?_; simp only [sc_dz, sc_gz, sc_brn, sc_stp, sc_nth, sc_sto_0, sc_sto_1, sc_sto_s, sc_stoJ_0, sc_stoJ_1, sc_stoJ_s, sc_k1_i, sc_k1_j, sc_k1_r, sc_k1_u, sc_x1, sc_x2, sc_xv, sc_xc, sc_1i, sc_2i, sc_1j, sc_2j, sc_1r, sc_ir, sc_iir, sc_jir, sc_xr, sc_jr, sc_1v, sc_2v, sc_vI, sc_vJ, sc_vR, sc_retI, sc_call, sc_callS, sc_args, sc_psh_i, sc_psh_j, sc_psh_r, sc_psh_u, sc_cats, sc_sw, sc_cpy, sc_isJ, fv_0_0, ft_0_0, fv_0_1, ft_0_1, fv_0_2, ft_0_2, fv_1_0, ft_1_0, fv_1_1, ft_1_1, fv_1_2, ft_1_2, fv_1_3, ft_1_3, fv_2_0, ft_2_0, fv_2_1, ft_2_1, fv_2_2, ft_2_2, fv_2_3, ft_2_3, fv_2_4, ft_2_4, fv_2_5, ft_2_5, fv_2_6, ft_2_6, fv_2_7, ft_2_7, fv_2_8, ft_2_8, fv_3_0, ft_3_0, fv_3_1, ft_3_1, fv_3_2, ft_3_2, fv_3_3, ft_3_3, fv_3_4, ft_3_4, fv_3_5, ft_3_5, fv_3_6, ft_3_6, fv_3_7, ft_3_7, fv_3_8, ft_3_8, fv_3_9, ft_3_9, fv_3_10, ft_3_10, fv_3_11, ft_3_11, fv_4_0, ft_4_0, fv_4_1, ft_4_1, fv_4_2, ft_4_2, fv_4_3, ft_4_3, fv_4_4, ft_4_4, fv_4_5, ft_4_5, fv_4_6, ft_4_6, fv_4_7, ft_4_7, fv_4_8, ft_4_8, fv_4_9, ft_4_9, fv_5_0, ft_5_0, fv_5_1, ft_5_1, fv_5_2, ft_5_2, fv_5_3, ft_5_3, fv_5_4, ft_5_4, fv_5_5, ft_5_5, fv_5_6, ft_5_6, fv_5_7, ft_5_7, fv_5_8, ft_5_8, fv_5_9, ft_5_9, fv_5_10, ft_5_10, fv_5_11, ft_5_11, fv_5_12, ft_5_12, fv_5_13, ft_5_13, fv_5_14, ft_5_14, fv_5_15, ft_5_15, fv_5_16, ft_5_16, fv_5_17, ft_5_17, fv_5_18, ft_5_18, fv_5_19, ft_5_19, fv_5_20, ft_5_20, fv_5_21, ft_5_21, fv_5_22, ft_5_22, kd_0, kd_1, kd_2, kd_3, kd_4, kd_5, kd_6, kd_7, kd_8, kd_9, kd_10, kd_11, kd_12, kd_13, kd_14, kd_15, kd_16, kd_17, kd_18, kd_19, kd_20, kd_21, kd_22, kd_23, kd_24, kd_25, kd_26, kd_27, kd_28, kd_29, kd_30, kd_31, kd_32, kd_33, kd_34, kd_35, kd_36, kd_37, kd_38, kd_39, rt_0_0, rt_0_1, rt_0_2, rt_0_3, rt_0_4, rt_0_5, rt_1_0, rt_1_1, rt_1_2, rt_1_3, rt_1_4, rt_1_5, rt_1_6, rt_1_7, rt_1_8, rt_2_0, rt_12_0, rt_12_1, rt_18_1, rt_18_6, rt_18_7, rt_18_8, rt_18_9, rt_18_10, rt_18_11, rt_18_12, rt_18_14, rt_18_15, rt_18_16, rt_18_17, rt_18_18, rt_18_19, rt_18_20, rt_18_21, rt_18_22, rt_N7, rt_N8, ra_3, ra_15, sc_pu, Nat.reduceAdd, Int.toNat_natCast, true_and, and_true, reduceIte, forall_const, Nat.reduceLeDiff, Nat.zero_le, sc_in, sc_in6, Int.reduceLE, Int.reduceNeg, Int.reduceLT, Int.reduceEq, Nat.reduceEqDiff, ne_eq, not_false_eq_true, lk_Wo_layKnown_0, lk_Wo_layKnown_1, lk_Wo_layKnown_2, lk_Wo_layKnown_3, lk_Wo_layKnown_4, lk_Wo_layKnown_5, lk_Wo_layKnown_6, lk_Wo_layKnown_9, lk_Wo_layKnown_12, lk_Wo_layKnown_15, lk_Wo_layKnown_16, lk_Wo_layKnown_19, lk_Wo_layKnown_20, lk_Wo_layKnown_21, lk_Wo_layKnown_22, lk_Wo_layKnown_23, lk_Wo_layKnown_24, lk_Wo_layKnown_27, lk_Wo_layKnown_30, lk_Wo_layKnown_31, lk_Wo_layKnown_34, lk_Wo_layKnown_37, lk_Wo_layKnown_38, lk_Wo_layKnown_39, lk_Wo_layKnown_42, lk_Wo_layKnown_43, lk_Wo_layKnown_46, lk_Wo_layKnown_49, lk_Wo_layKnown_50, lk_Wo_layKnown_53, lk_Wo_layKnown_54, lk_Wo_layKnown_55, lk_Wo_layKnown_56, lk_Wo_layKnown_59, lk_Wo_layKnown_60, lk_Wo_layKnown_61, lk_Wo_layKnown_62, lk_Wo_layKnown_63, lk_Wo_layKnown_64, lk_Wo_layKnown_67, lk_Wo_layKnown_68, lk_Wo_layKnown_69, lk_Wo_layKnown_70, lk_Wo_layKnown_71, lk_Wo_layKnown_72, lk_Wo_layKnown_73, lk_Wo_layKnown_74, lk_Wo_layKnown_77, lk_Wo_layKnown_80, e]) | with_reducible apply And.intro | with_reducible intro _
    all_goals grind [sc_in, sc_in6]
  · intro k hk ih
    have hk10 : k < 10 := by omega
    have e := congrFun (wo_k_ne M μ k (b := 2) (by decide)) 1
    rw [hN] at e
    have e0 : ∀ v, sc_up (wo_k M μ k) 5 k v (40 + 3 * k) 0 = M 20 k := fun v => by rw [sc_up_ne _ _ _ (by omega), wo_k_ne _ _ _ (by omega)]; exact (hc.2.2 k hk).1
    have e1 : ∀ v, sc_up (wo_k M μ k) 5 k v 1 11 = M 18 13 := fun v => by rw [sc_up_ne _ _ _ (by decide), wo_k_ne _ _ _ (by decide)]; exact hs.1
    have e5 : ∀ v, sc_up (wo_k M μ k) 5 k v 5 k = v := fun v => by rw [sc_up_eq]; exact if_pos rfl
    have euu : ∀ v w, sc_up (sc_up (wo_k M μ k) 5 k v) 5 k w = sc_up (wo_k M μ k) 5 k w := fun v w => sc_up_up _ _ _ _ _
    have k1 := (hw.2.2.1 k hk).1
    rw [sc_cast1, wo_ah, ← wo_k_up M μ k] at ih
    unfold wo_kn at ih
    generalize wo_k M μ N = m9 at ih ⊢
    by_cases hi : md_ic M k
    · have e4 : ∀ v, sc_up (wo_k M μ k) 5 k v 4 k = mo_so (M 20) (M 22) (M 23) (M 24) (M 18 13) k := fun v => by rw [sc_up_ne _ _ _ (by decide), wo_k_ne _ _ _ (by decide)]; exact hs.2 k hk hi
      rw [if_pos hi, sc_if_pos _ _ hi] at ih
      generalize mo_so (M 20) (M 22) (M 23) (M 24) (M 18 13) k = so at ih e4
      generalize wo_ah M k = ah at ih ⊢
      generalize wo_k M μ k = m at ih e e0 e1 e4 e5 euu ⊢
      refine sc_rp ?_
      repeat' first | (with_reducible refine sc_st1 tk_Wo_layKnown ?_; simp only [sc_dz, sc_gz, sc_brn, sc_stp, sc_nth, sc_sto_0, sc_sto_1, sc_sto_s, sc_stoJ_0, sc_stoJ_1, sc_stoJ_s, sc_k1_i, sc_k1_j, sc_k1_r, sc_k1_u, sc_x1, sc_x2, sc_xv, sc_xc, sc_1i, sc_2i, sc_1j, sc_2j, sc_1r, sc_ir, sc_iir, sc_jir, sc_xr, sc_jr, sc_1v, sc_2v, sc_vI, sc_vJ, sc_vR, sc_retI, sc_call, sc_callS, sc_args, sc_psh_i, sc_psh_j, sc_psh_r, sc_psh_u, sc_cats, sc_sw, sc_cpy, sc_isJ, fv_0_0, ft_0_0, fv_0_1, ft_0_1, fv_0_2, ft_0_2, fv_1_0, ft_1_0, fv_1_1, ft_1_1, fv_1_2, ft_1_2, fv_1_3, ft_1_3, fv_2_0, ft_2_0, fv_2_1, ft_2_1, fv_2_2, ft_2_2, fv_2_3, ft_2_3, fv_2_4, ft_2_4, fv_2_5, ft_2_5, fv_2_6, ft_2_6, fv_2_7, ft_2_7, fv_2_8, ft_2_8, fv_3_0, ft_3_0, fv_3_1, ft_3_1, fv_3_2, ft_3_2, fv_3_3, ft_3_3, fv_3_4, ft_3_4, fv_3_5, ft_3_5, fv_3_6, ft_3_6, fv_3_7, ft_3_7, fv_3_8, ft_3_8, fv_3_9, ft_3_9, fv_3_10, ft_3_10, fv_3_11, ft_3_11, fv_4_0, ft_4_0, fv_4_1, ft_4_1, fv_4_2, ft_4_2, fv_4_3, ft_4_3, fv_4_4, ft_4_4, fv_4_5, ft_4_5, fv_4_6, ft_4_6, fv_4_7, ft_4_7, fv_4_8, ft_4_8, fv_4_9, ft_4_9, fv_5_0, ft_5_0, fv_5_1, ft_5_1, fv_5_2, ft_5_2, fv_5_3, ft_5_3, fv_5_4, ft_5_4, fv_5_5, ft_5_5, fv_5_6, ft_5_6, fv_5_7, ft_5_7, fv_5_8, ft_5_8, fv_5_9, ft_5_9, fv_5_10, ft_5_10, fv_5_11, ft_5_11, fv_5_12, ft_5_12, fv_5_13, ft_5_13, fv_5_14, ft_5_14, fv_5_15, ft_5_15, fv_5_16, ft_5_16, fv_5_17, ft_5_17, fv_5_18, ft_5_18, fv_5_19, ft_5_19, fv_5_20, ft_5_20, fv_5_21, ft_5_21, fv_5_22, ft_5_22, kd_0, kd_1, kd_2, kd_3, kd_4, kd_5, kd_6, kd_7, kd_8, kd_9, kd_10, kd_11, kd_12, kd_13, kd_14, kd_15, kd_16, kd_17, kd_18, kd_19, kd_20, kd_21, kd_22, kd_23, kd_24, kd_25, kd_26, kd_27, kd_28, kd_29, kd_30, kd_31, kd_32, kd_33, kd_34, kd_35, kd_36, kd_37, kd_38, kd_39, rt_0_0, rt_0_1, rt_0_2, rt_0_3, rt_0_4, rt_0_5, rt_1_0, rt_1_1, rt_1_2, rt_1_3, rt_1_4, rt_1_5, rt_1_6, rt_1_7, rt_1_8, rt_2_0, rt_12_0, rt_12_1, rt_18_1, rt_18_6, rt_18_7, rt_18_8, rt_18_9, rt_18_10, rt_18_11, rt_18_12, rt_18_14, rt_18_15, rt_18_16, rt_18_17, rt_18_18, rt_18_19, rt_18_20, rt_18_21, rt_18_22, rt_N7, rt_N8, ra_3, ra_15, sc_pu, Nat.reduceAdd, Int.toNat_natCast, true_and, and_true, reduceIte, forall_const, Nat.reduceLeDiff, Nat.zero_le, sc_in, sc_in6, Int.reduceLE, Int.reduceNeg, Int.reduceLT, Int.reduceEq, Nat.reduceEqDiff, ne_eq, not_false_eq_true, lk_Wo_layKnown_0, lk_Wo_layKnown_1, lk_Wo_layKnown_2, lk_Wo_layKnown_3, lk_Wo_layKnown_4, lk_Wo_layKnown_5, lk_Wo_layKnown_6, lk_Wo_layKnown_9, lk_Wo_layKnown_12, lk_Wo_layKnown_15, lk_Wo_layKnown_16, lk_Wo_layKnown_19, lk_Wo_layKnown_20, lk_Wo_layKnown_21, lk_Wo_layKnown_22, lk_Wo_layKnown_23, lk_Wo_layKnown_24, lk_Wo_layKnown_27, lk_Wo_layKnown_30, lk_Wo_layKnown_31, lk_Wo_layKnown_34, lk_Wo_layKnown_37, lk_Wo_layKnown_38, lk_Wo_layKnown_39, lk_Wo_layKnown_42, lk_Wo_layKnown_43, lk_Wo_layKnown_46, lk_Wo_layKnown_49, lk_Wo_layKnown_50, lk_Wo_layKnown_53, lk_Wo_layKnown_54, lk_Wo_layKnown_55, lk_Wo_layKnown_56, lk_Wo_layKnown_59, lk_Wo_layKnown_60, lk_Wo_layKnown_61, lk_Wo_layKnown_62, lk_Wo_layKnown_63, lk_Wo_layKnown_64, lk_Wo_layKnown_67, lk_Wo_layKnown_68, lk_Wo_layKnown_69, lk_Wo_layKnown_70, lk_Wo_layKnown_71, lk_Wo_layKnown_72, lk_Wo_layKnown_73, lk_Wo_layKnown_74, lk_Wo_layKnown_77, lk_Wo_layKnown_80, e, e0, e1, e4, e5, euu, kd_N0 k hk10]) | with_reducible apply And.intro | with_reducible intro _
      all_goals first | exact ih | omega | (exfalso; omega) | grind [sc_in, sc_in6]
    · rw [if_neg hi, sc_if_neg _ _ hi] at ih
      have hi1 : ¬ M 20 k = 2 := fun h => hi (Or.inl h)
      have hi2 : ¬ (k : Int) = M 18 13 := fun h => hi (Or.inr h)
      generalize wo_ah M k = ah at ih ⊢
      generalize wo_k M μ k = m at ih e e0 e1 e5 ⊢
      refine sc_rp ?_
      repeat' first | (with_reducible refine sc_st1 tk_Wo_layKnown ?_; simp only [sc_dz, sc_gz, sc_brn, sc_stp, sc_nth, sc_sto_0, sc_sto_1, sc_sto_s, sc_stoJ_0, sc_stoJ_1, sc_stoJ_s, sc_k1_i, sc_k1_j, sc_k1_r, sc_k1_u, sc_x1, sc_x2, sc_xv, sc_xc, sc_1i, sc_2i, sc_1j, sc_2j, sc_1r, sc_ir, sc_iir, sc_jir, sc_xr, sc_jr, sc_1v, sc_2v, sc_vI, sc_vJ, sc_vR, sc_retI, sc_call, sc_callS, sc_args, sc_psh_i, sc_psh_j, sc_psh_r, sc_psh_u, sc_cats, sc_sw, sc_cpy, sc_isJ, fv_0_0, ft_0_0, fv_0_1, ft_0_1, fv_0_2, ft_0_2, fv_1_0, ft_1_0, fv_1_1, ft_1_1, fv_1_2, ft_1_2, fv_1_3, ft_1_3, fv_2_0, ft_2_0, fv_2_1, ft_2_1, fv_2_2, ft_2_2, fv_2_3, ft_2_3, fv_2_4, ft_2_4, fv_2_5, ft_2_5, fv_2_6, ft_2_6, fv_2_7, ft_2_7, fv_2_8, ft_2_8, fv_3_0, ft_3_0, fv_3_1, ft_3_1, fv_3_2, ft_3_2, fv_3_3, ft_3_3, fv_3_4, ft_3_4, fv_3_5, ft_3_5, fv_3_6, ft_3_6, fv_3_7, ft_3_7, fv_3_8, ft_3_8, fv_3_9, ft_3_9, fv_3_10, ft_3_10, fv_3_11, ft_3_11, fv_4_0, ft_4_0, fv_4_1, ft_4_1, fv_4_2, ft_4_2, fv_4_3, ft_4_3, fv_4_4, ft_4_4, fv_4_5, ft_4_5, fv_4_6, ft_4_6, fv_4_7, ft_4_7, fv_4_8, ft_4_8, fv_4_9, ft_4_9, fv_5_0, ft_5_0, fv_5_1, ft_5_1, fv_5_2, ft_5_2, fv_5_3, ft_5_3, fv_5_4, ft_5_4, fv_5_5, ft_5_5, fv_5_6, ft_5_6, fv_5_7, ft_5_7, fv_5_8, ft_5_8, fv_5_9, ft_5_9, fv_5_10, ft_5_10, fv_5_11, ft_5_11, fv_5_12, ft_5_12, fv_5_13, ft_5_13, fv_5_14, ft_5_14, fv_5_15, ft_5_15, fv_5_16, ft_5_16, fv_5_17, ft_5_17, fv_5_18, ft_5_18, fv_5_19, ft_5_19, fv_5_20, ft_5_20, fv_5_21, ft_5_21, fv_5_22, ft_5_22, kd_0, kd_1, kd_2, kd_3, kd_4, kd_5, kd_6, kd_7, kd_8, kd_9, kd_10, kd_11, kd_12, kd_13, kd_14, kd_15, kd_16, kd_17, kd_18, kd_19, kd_20, kd_21, kd_22, kd_23, kd_24, kd_25, kd_26, kd_27, kd_28, kd_29, kd_30, kd_31, kd_32, kd_33, kd_34, kd_35, kd_36, kd_37, kd_38, kd_39, rt_0_0, rt_0_1, rt_0_2, rt_0_3, rt_0_4, rt_0_5, rt_1_0, rt_1_1, rt_1_2, rt_1_3, rt_1_4, rt_1_5, rt_1_6, rt_1_7, rt_1_8, rt_2_0, rt_12_0, rt_12_1, rt_18_1, rt_18_6, rt_18_7, rt_18_8, rt_18_9, rt_18_10, rt_18_11, rt_18_12, rt_18_14, rt_18_15, rt_18_16, rt_18_17, rt_18_18, rt_18_19, rt_18_20, rt_18_21, rt_18_22, rt_N7, rt_N8, ra_3, ra_15, sc_pu, Nat.reduceAdd, Int.toNat_natCast, true_and, and_true, reduceIte, forall_const, Nat.reduceLeDiff, Nat.zero_le, sc_in, sc_in6, Int.reduceLE, Int.reduceNeg, Int.reduceLT, Int.reduceEq, Nat.reduceEqDiff, ne_eq, not_false_eq_true, lk_Wo_layKnown_0, lk_Wo_layKnown_1, lk_Wo_layKnown_2, lk_Wo_layKnown_3, lk_Wo_layKnown_4, lk_Wo_layKnown_5, lk_Wo_layKnown_6, lk_Wo_layKnown_9, lk_Wo_layKnown_12, lk_Wo_layKnown_15, lk_Wo_layKnown_16, lk_Wo_layKnown_19, lk_Wo_layKnown_20, lk_Wo_layKnown_21, lk_Wo_layKnown_22, lk_Wo_layKnown_23, lk_Wo_layKnown_24, lk_Wo_layKnown_27, lk_Wo_layKnown_30, lk_Wo_layKnown_31, lk_Wo_layKnown_34, lk_Wo_layKnown_37, lk_Wo_layKnown_38, lk_Wo_layKnown_39, lk_Wo_layKnown_42, lk_Wo_layKnown_43, lk_Wo_layKnown_46, lk_Wo_layKnown_49, lk_Wo_layKnown_50, lk_Wo_layKnown_53, lk_Wo_layKnown_54, lk_Wo_layKnown_55, lk_Wo_layKnown_56, lk_Wo_layKnown_59, lk_Wo_layKnown_60, lk_Wo_layKnown_61, lk_Wo_layKnown_62, lk_Wo_layKnown_63, lk_Wo_layKnown_64, lk_Wo_layKnown_67, lk_Wo_layKnown_68, lk_Wo_layKnown_69, lk_Wo_layKnown_70, lk_Wo_layKnown_71, lk_Wo_layKnown_72, lk_Wo_layKnown_73, lk_Wo_layKnown_74, lk_Wo_layKnown_77, lk_Wo_layKnown_80, e, e0, e1, kd_N0 k hk10]) | with_reducible apply And.intro | with_reducible intro _
      all_goals first | exact ih | omega | (exfalso; omega) | grind [sc_in, sc_in6]
/-- the sets are the reference's -/
theorem sc_or_ac (a b c e : Int) (ha : 0 ≤ a ∧ a < 1024) (hb : 0 ≤ b ∧ b < 1024) (hc : 0 ≤ c ∧ c < 1024) (he : 0 ≤ e ∧ e < 1024) : sc_bor (sc_bor a b) (sc_bor c e) = sc_bor (sc_bor (sc_bor a c) e) b := by
  obtain ⟨a, rfl⟩ := Int.eq_ofNat_of_zero_le ha.1
  obtain ⟨b, rfl⟩ := Int.eq_ofNat_of_zero_le hb.1
  obtain ⟨c, rfl⟩ := Int.eq_ofNat_of_zero_le hc.1
  obtain ⟨e, rfl⟩ := Int.eq_ofNat_of_zero_le he.1
  have l1 : a ||| b < 2 ^ 10 := Nat.or_lt_two_pow (by omega) (by omega)
  have l2 : c ||| e < 2 ^ 10 := Nat.or_lt_two_pow (by omega) (by omega)
  have l3 : a ||| c < 2 ^ 10 := Nat.or_lt_two_pow (by omega) (by omega)
  have l4 : a ||| c ||| e < 2 ^ 10 := Nat.or_lt_two_pow l3 (by omega)
  rw [sc_bor_nat a b (by omega) (by omega), sc_bor_nat c e (by omega) (by omega), sc_bor_nat a c (by omega) (by omega), sc_bor_nat _ _ (by omega) (by omega), sc_bor_nat _ _ (by omega) (by omega), sc_bor_nat _ _ (by omega) (by omega)]
  congr 1
  rw [Nat.or_assoc, Nat.or_comm b, ← Nat.or_assoc, ← Nat.or_assoc]
theorem sc_or_0 (a : Int) (ha : 0 ≤ a ∧ a < 1024) : sc_bor a 0 = a ∧ sc_bor 0 a = a := by
  obtain ⟨a, rfl⟩ := Int.eq_ofNat_of_zero_le ha.1
  have h1 := sc_bor_nat a 0 (by omega) (by omega)
  have h2 := sc_bor_nat 0 a (by omega) (by omega)
  rw [Nat.or_zero] at h1
  rw [Nat.zero_or] at h2
  exact ⟨h1, h2⟩
theorem mo_so_lt {M : sc_M} {N : Nat} (hw : mo_w M N) (n : Nat) (hn : n < N) : 0 ≤ mo_so (M 20) (M 22) (M 23) (M 24) (M 18 13) n ∧ mo_so (M 20) (M 22) (M 23) (M 24) (M 18 13) n < 1024 := by
  have hN1 := hw.1
  obtain ⟨-, -, -, -, k5, k6, -⟩ := hw.2.2.1 n hn
  have : ∀ k, k ≤ (M 22 n).toNat → 0 ≤ mo_sof (M 20) (M 23) (M 24) n k ∧ mo_sof (M 20) (M 23) (M 24) n k < 1024 := by
    intro k
    induction k with
    | zero => intro _; exact k6
    | succ k ih =>
      intro hk
      have ih := ih (by omega)
      have h5 := k5 k (by omega)
      rw [mo_sof]
      split
      · obtain ⟨p, hp⟩ := Int.eq_ofNat_of_zero_le h5.1
        rw [hp]
        exact sc_bset_lt _ ih p (by omega)
      · exact sc_bor_lt _ _ ih ⟨by omega, by omega⟩
  unfold mo_so
  split
  · exact this _ (Nat.le_refl _)
  · exact k6
theorem wo_ah_lt {M : sc_M} {N : Nat} (hw : mo_w M N) : ∀ n, n ≤ N → 0 ≤ wo_ah M n ∧ wo_ah M n < 1024
  | 0, _ => by simp [wo_ah]
  | n + 1, hn => by
    have ih := wo_ah_lt hw n (by omega)
    have hN1 := hw.1
    rw [wo_ah]
    by_cases hi : md_ic M n
    · rw [if_pos hi]
      exact sc_bset_lt _ (sc_bor_lt _ _ ih (mo_so_lt hw n (by omega))) n (by omega)
    · rw [if_neg hi]; exact ih
theorem wo_kn_eq {M : sc_M} {N : Nat} (hw : mo_w M N) (c : Nat) (hc : c < N) : md_kn M c = sc_bor (wo_ah M c) (mo_so (M 20) (M 22) (M 23) (M 24) (M 18 13) c) := by
  have hN1 := hw.1
  have hso := mo_so_lt hw c hc
  have : ∀ k, k ≤ c → mo_ka (M 20) (M 22) (M 23) (M 24) (M 18 13) c k = sc_bor (wo_ah M k) (mo_so (M 20) (M 22) (M 23) (M 24) (M 18 13) c) := by
    intro k
    induction k with
    | zero => intro _; rw [mo_ka, wo_ah, (sc_or_0 _ hso).2]
    | succ k ih =>
      intro hk
      have ih := ih (by omega)
      have ha := wo_ah_lt hw k (by omega)
      rw [mo_ka, ih, wo_ah]
      by_cases hi : md_ic M k
      · rw [if_pos hi, if_pos hi]
        have hb := sc_bset_lt 0 ⟨by omega, by omega⟩ k (by omega)
        have h2 : 2 ^ k < 2 ^ 10 := Nat.pow_lt_pow_right (by omega) (by omega)
        have hb : 0 ≤ sc_bshl 1 (k : Int) ∧ sc_bshl 1 (k : Int) < 1024 := by
          rw [sc_bshl_nat k (by omega)]
          generalize 2 ^ k = z at h2 ⊢
          omega
        exact sc_or_ac _ _ _ _ ha hso (mo_so_lt hw k (by omega)) hb
      · rw [if_neg hi, if_neg hi, (sc_or_0 _ (sc_bor_lt _ _ ha hso)).1]
  exact this c (Nat.le_refl _)
theorem wo_kn_md {M : sc_M} {N : Nat} (hw : mo_w M N) (c : Nat) (hc : c < N) (hi : md_ic M c) : wo_kn M c = md_kn M c := by
  unfold wo_kn
  rw [sc_if_pos _ _ hi, wo_kn_eq hw c hc]
