theorem mo_on_le (μ : sc_M) (N : Nat) (hw : ∀ n, n < N → mo_nd μ n) (hf : mo_ok (μ 20) (μ 21) (μ 27) N) : ∀ k : Nat, k ≤ N → -(100 * (k : Int)) ≤ mo_on (μ 20) (μ 21) (μ 22) (μ 23) (μ 26) (μ 27) k ∧ mo_on (μ 20) (μ 21) (μ 22) (μ 23) (μ 26) (μ 27) k ≤ 100 * (k : Int) := by
  intro k
  induction k with
  | zero => intro _; simp [mo_on]
  | succ k ih =>
    intro hk
    have h1 := ih (by omega)
    have h2 := mo_rows μ N hw hf k (by omega)
    have h3 := (hw k (by omega)).2.2.2.2.2.2.2
    simp only [mo_on, sc_cast1]
    generalize mo_rw (μ 21) (μ 23) (μ 27) k (μ 22 k).toNat = ro at h2 ⊢
    have h4 := h3 ro.toNat (by omega)
    have e : (27 * (k : Int) + ro).toNat = 27 * k + ro.toNat := by omega
    rw [e]
    split <;> omega
theorem mo_wn_le (μ : sc_M) (h : Int) (N : Nat) (hN : N ≤ 10) (hw : ∀ n, n < N → mo_nd μ n) (hf : mo_ok (μ 20) (μ 21) (μ 27) N) : ∀ k : Nat, k ≤ N → 0 ≤ mo_wn (μ 20) (μ 21) (μ 22) (μ 23) (μ 26) (μ 27) h k ∧ mo_wn (μ 20) (μ 21) (μ 22) (μ 23) (μ 26) (μ 27) h k ≤ 12 ^ k := by
  intro k
  induction k with
  | zero => intro _; simp [mo_wn]
  | succ k ih =>
    intro hk
    have h1 := ih (by omega)
    have h2 := mo_rows μ N hw hf k (by omega)
    have h3 := (hw k (by omega)).2.2.2.2.2.2.2
    have h5 := (hw k (by omega)).2.2.1
    have h6 := hf k (by omega)
    simp only [mo_wn]
    generalize mo_rw (μ 21) (μ 23) (μ 27) k (μ 22 k).toNat = ro at h2 ⊢
    rw [Int.pow_succ]
    split
    · rename_i hc
      have h7 := h6 (by omega)
      have h8 := h5 (by omega)
      have h9 := h2.2.2.2 hc.1
      have h4 := (h3 (3 * ro + μ 27 k).toNat (by omega)).2.2 hc.1
      have e : (27 * (k : Int) + 3 * ro + μ 27 k).toNat = 27 * k + (3 * ro + μ 27 k).toNat := by omega
      rw [e]
      exact ⟨Int.mul_nonneg h1.1 h4.1, Int.mul_le_mul h1.2 h4.2 h4.1 (by omega)⟩
    · rw [Int.mul_one]
      have : (12 : Int) ^ k * 1 ≤ 12 ^ k * 12 := Int.mul_le_mul_of_nonneg_left (by omega) (by omega)
      omega
/-- the memory behind world w - 1 -/
def mo_mw (μ : sc_M) (N : Nat) : Nat → sc_M
  | 0 => μ
  | w + 1 => sc_arr μ 27 (mo_now (μ 20) (μ 21) (w : Int) (μ 27) N)
theorem mo_mw_w {μ : sc_M} {N : Nat} (h : mo_w μ N) : ∀ w, mo_w (mo_mw μ N w) N
  | 0 => h
  | w + 1 => mo_w_now _ h
theorem mo_mw_ne (μ : sc_M) (N : Nat) {b : Nat} (h : b ≠ 27) : ∀ w, mo_mw μ N w b = μ b
  | 0 => rfl
  | w + 1 => sc_arr_ne μ _ h
theorem mo_mw_set (μ : sc_M) (N : Nat) : ∀ w : Nat, sc_arr (mo_mw μ N w) 27 (mo_now ((mo_mw μ N w) 20) ((mo_mw μ N w) 21) (w : Int) ((mo_mw μ N w) 27) N) = mo_mw μ N (w + 1)
  | 0 => rfl
  | w + 1 => by
    rw [mo_mw_ne μ N (by decide), mo_mw_ne μ N (by decide)]
    show sc_arr (sc_arr μ 27 _) 27 (mo_now _ _ _ (sc_arr μ 27 _ 27) N) = sc_arr μ 27 _
    rw [sc_arr_arr, sc_arr_eq, mo_now_now]
theorem mo_mw_27 (μ : sc_M) (N w : Nat) : mo_mw μ N (w + 1) 27 = mo_now (μ 20) (μ 21) (w : Int) (μ 27) N := sc_arr_eq _ _ _
noncomputable def mo_term (μ : sc_M) (N : Nat) (w : Nat) : Int := if mo_cm (μ 20) (μ 21) (mo_now (μ 20) (μ 21) (w : Int) (μ 27) N) (μ 25) (μ 31) (μ 28) (μ 18 13) N N = true then mo_wn (μ 20) (μ 21) (μ 22) (μ 23) (μ 26) (mo_now (μ 20) (μ 21) (w : Int) (μ 27) N) (μ 18 13) N * mo_on (μ 20) (μ 21) (μ 22) (μ 23) (μ 26) (mo_now (μ 20) (μ 21) (w : Int) (μ 27) N) N else 0
noncomputable def mo_sum (μ : sc_M) (N : Nat) : Nat → Int
  | 0 => 0
  | w + 1 => mo_sum μ N w + mo_term μ N w
set_option maxRecDepth 100000 in
set_option maxHeartbeats 4000000 in
theorem sp_Mo_sumOfPlan (l : Launch) (G : sc_G) (d : Nat) (μ : sc_M) (N : Nat) (hw : mo_w μ N) (hpl : ∀ i, sc_in (μ 28 i)) (W9 : Nat) (hW : mo_sd (μ 20) (μ 21) N = W9) : sc_Sp l G (d + 3) mq_Mo_sumOfPlan [.inr (.inr (.inl (18)))] μ (fun r μ' => r = .inr (.inl (mo_sum μ N W9)) ∧ μ' = mo_mw μ N W9) := by
  have hw0 := hw
  have hWb : W9 ≤ 243 := by have := hw.2.2.2.1; omega
  have hS : ∀ k, k < N → ¬ μ 20 k = 0 → 2 ≤ μ 21 k ∧ μ 21 k ≤ 3 := fun k hk => (hw.2.2.1 k hk).2.2.1
  have h0 := sp_Mo_worlds l G (d + 2) μ N hw
  rw [hW] at h0
  refine sc_enter cm_Mo_sumOfPlan (plainFor_of_name (by decide)) [.inr (.inr (.inl (18))), .inr (.inr (.inr ())), .inr (.inr (.inr ())), .inr (.inr (.inr ())), .inr (.inr (.inr ()))] rfl rfl ?_
  refine sc_rp ?_
  repeat' first | (with_reducible refine sc_st1 tk_Mo_sumOfPlan ?_; simp only [sc_dz, sc_gz, sc_brn, sc_stp, sc_nth, sc_sto_0, sc_sto_1, sc_sto_s, sc_stoJ_0, sc_stoJ_1, sc_stoJ_s, sc_k1_i, sc_k1_j, sc_k1_r, sc_k1_u, sc_x1, sc_x2, sc_xv, sc_xc, sc_1i, sc_2i, sc_1j, sc_2j, sc_1r, sc_ir, sc_iir, sc_jir, sc_xr, sc_jr, sc_1v, sc_2v, sc_vI, sc_vJ, sc_vR, sc_retI, sc_call, sc_callS, sc_args, sc_psh_i, sc_psh_j, sc_psh_r, sc_psh_u, sc_cats, sc_sw, sc_cpy, sc_isJ, fv_0_0, ft_0_0, fv_0_1, ft_0_1, fv_0_2, ft_0_2, fv_1_0, ft_1_0, fv_1_1, ft_1_1, fv_1_2, ft_1_2, fv_1_3, ft_1_3, fv_2_0, ft_2_0, fv_2_1, ft_2_1, fv_2_2, ft_2_2, fv_2_3, ft_2_3, fv_2_4, ft_2_4, fv_2_5, ft_2_5, fv_2_6, ft_2_6, fv_2_7, ft_2_7, fv_2_8, ft_2_8, fv_3_0, ft_3_0, fv_3_1, ft_3_1, fv_3_2, ft_3_2, fv_3_3, ft_3_3, fv_3_4, ft_3_4, fv_3_5, ft_3_5, fv_3_6, ft_3_6, fv_3_7, ft_3_7, fv_3_8, ft_3_8, fv_3_9, ft_3_9, fv_3_10, ft_3_10, fv_3_11, ft_3_11, fv_4_0, ft_4_0, fv_4_1, ft_4_1, fv_4_2, ft_4_2, fv_4_3, ft_4_3, fv_4_4, ft_4_4, fv_4_5, ft_4_5, fv_4_6, ft_4_6, fv_4_7, ft_4_7, fv_4_8, ft_4_8, fv_4_9, ft_4_9, fv_5_0, ft_5_0, fv_5_1, ft_5_1, fv_5_2, ft_5_2, fv_5_3, ft_5_3, fv_5_4, ft_5_4, fv_5_5, ft_5_5, fv_5_6, ft_5_6, fv_5_7, ft_5_7, fv_5_8, ft_5_8, fv_5_9, ft_5_9, fv_5_10, ft_5_10, fv_5_11, ft_5_11, fv_5_12, ft_5_12, fv_5_13, ft_5_13, fv_5_14, ft_5_14, fv_5_15, ft_5_15, fv_5_16, ft_5_16, fv_5_17, ft_5_17, fv_5_18, ft_5_18, fv_5_19, ft_5_19, fv_5_20, ft_5_20, fv_5_21, ft_5_21, fv_5_22, ft_5_22, kd_0, kd_1, kd_2, kd_3, kd_4, kd_5, kd_6, kd_7, kd_8, kd_9, kd_10, kd_11, kd_12, kd_13, kd_14, kd_15, kd_16, kd_17, kd_18, kd_19, kd_20, kd_21, kd_22, kd_23, kd_24, kd_25, kd_26, kd_27, kd_28, kd_29, kd_30, kd_31, kd_32, kd_33, kd_34, kd_35, kd_36, kd_37, kd_38, kd_39, rt_0_0, rt_0_1, rt_0_2, rt_0_3, rt_0_4, rt_0_5, rt_1_0, rt_1_1, rt_1_2, rt_1_3, rt_1_4, rt_1_5, rt_1_6, rt_1_7, rt_1_8, rt_2_0, rt_12_0, rt_12_1, rt_18_1, rt_18_6, rt_18_7, rt_18_8, rt_18_9, rt_18_10, rt_18_11, rt_18_12, rt_18_14, rt_18_15, rt_18_16, rt_18_17, rt_18_18, rt_18_19, rt_18_20, rt_18_21, rt_18_22, rt_N7, rt_N8, ra_3, ra_15, sc_pu, Nat.reduceAdd, Int.toNat_natCast, true_and, and_true, reduceIte, forall_const, Nat.reduceLeDiff, Nat.zero_le, sc_in, sc_in6, Int.reduceLE, Int.reduceNeg, Int.reduceLT, Int.reduceEq, Nat.reduceEqDiff, ne_eq, not_false_eq_true, lk_Mo_sumOfPlan_0, lk_Mo_sumOfPlan_1, lk_Mo_sumOfPlan_2, lk_Mo_sumOfPlan_3, lk_Mo_sumOfPlan_6, lk_Mo_sumOfPlan_7, lk_Mo_sumOfPlan_8, lk_Mo_sumOfPlan_10, lk_Mo_sumOfPlan_12, lk_Mo_sumOfPlan_13, lk_Mo_sumOfPlan_16, lk_Mo_sumOfPlan_17, lk_Mo_sumOfPlan_19, lk_Mo_sumOfPlan_22, lk_Mo_sumOfPlan_23, lk_Mo_sumOfPlan_24, lk_Mo_sumOfPlan_27, lk_Mo_sumOfPlan_30, lk_Mo_sumOfPlan_31, lk_Mo_sumOfPlan_34, lk_Mo_sumOfPlan_35, lk_Mo_sumOfPlan_38, lk_Mo_sumOfPlan_39, lk_Mo_sumOfPlan_40, lk_Mo_sumOfPlan_43, lk_Mo_sumOfPlan_44, lk_Mo_sumOfPlan_45, lk_Mo_sumOfPlan_46, lk_Mo_sumOfPlan_49, lk_Mo_sumOfPlan_52, lk_Mo_sumOfPlan_53, lk_Mo_sumOfPlan_0, lk_Mo_sumOfPlan_1, lk_Mo_sumOfPlan_2, lk_Mo_sumOfPlan_3, lk_Mo_sumOfPlan_6, lk_Mo_sumOfPlan_7, lk_Mo_sumOfPlan_8, lk_Mo_sumOfPlan_10, lk_Mo_sumOfPlan_12, lk_Mo_sumOfPlan_13, lk_Mo_sumOfPlan_16, lk_Mo_sumOfPlan_17, lk_Mo_sumOfPlan_19, lk_Mo_sumOfPlan_22, lk_Mo_sumOfPlan_23, lk_Mo_sumOfPlan_24, lk_Mo_sumOfPlan_27, lk_Mo_sumOfPlan_30, lk_Mo_sumOfPlan_31, lk_Mo_sumOfPlan_34, lk_Mo_sumOfPlan_35, lk_Mo_sumOfPlan_38, lk_Mo_sumOfPlan_39, lk_Mo_sumOfPlan_40, lk_Mo_sumOfPlan_43, lk_Mo_sumOfPlan_44, lk_Mo_sumOfPlan_45, lk_Mo_sumOfPlan_46, lk_Mo_sumOfPlan_49, lk_Mo_sumOfPlan_52, lk_Mo_sumOfPlan_53, if_true]) | with_reducible apply And.intro | with_reducible intro _ | (refine ⟨_, h0, ?_⟩; rintro _ _ ⟨e1, e2⟩; rw [e1, e2])
  refine sc_for (fun w => [.inr (.inr (.inl (18))), .inr (.inl (mo_sum μ N w)), .inr (.inr (.inr ())), .inl ((W9 : Int)), .inl ((w : Int))]) (fun w => mo_mw μ N w) W9 ?_ ?_ 0 (Nat.zero_le _)
  · refine sc_rp ?_
    repeat' first | (with_reducible refine sc_st1 tk_Mo_sumOfPlan ?_; simp only [sc_dz, sc_gz, sc_brn, sc_stp, sc_nth, sc_sto_0, sc_sto_1, sc_sto_s, sc_stoJ_0, sc_stoJ_1, sc_stoJ_s, sc_k1_i, sc_k1_j, sc_k1_r, sc_k1_u, sc_x1, sc_x2, sc_xv, sc_xc, sc_1i, sc_2i, sc_1j, sc_2j, sc_1r, sc_ir, sc_iir, sc_jir, sc_xr, sc_jr, sc_1v, sc_2v, sc_vI, sc_vJ, sc_vR, sc_retI, sc_call, sc_callS, sc_args, sc_psh_i, sc_psh_j, sc_psh_r, sc_psh_u, sc_cats, sc_sw, sc_cpy, sc_isJ, fv_0_0, ft_0_0, fv_0_1, ft_0_1, fv_0_2, ft_0_2, fv_1_0, ft_1_0, fv_1_1, ft_1_1, fv_1_2, ft_1_2, fv_1_3, ft_1_3, fv_2_0, ft_2_0, fv_2_1, ft_2_1, fv_2_2, ft_2_2, fv_2_3, ft_2_3, fv_2_4, ft_2_4, fv_2_5, ft_2_5, fv_2_6, ft_2_6, fv_2_7, ft_2_7, fv_2_8, ft_2_8, fv_3_0, ft_3_0, fv_3_1, ft_3_1, fv_3_2, ft_3_2, fv_3_3, ft_3_3, fv_3_4, ft_3_4, fv_3_5, ft_3_5, fv_3_6, ft_3_6, fv_3_7, ft_3_7, fv_3_8, ft_3_8, fv_3_9, ft_3_9, fv_3_10, ft_3_10, fv_3_11, ft_3_11, fv_4_0, ft_4_0, fv_4_1, ft_4_1, fv_4_2, ft_4_2, fv_4_3, ft_4_3, fv_4_4, ft_4_4, fv_4_5, ft_4_5, fv_4_6, ft_4_6, fv_4_7, ft_4_7, fv_4_8, ft_4_8, fv_4_9, ft_4_9, fv_5_0, ft_5_0, fv_5_1, ft_5_1, fv_5_2, ft_5_2, fv_5_3, ft_5_3, fv_5_4, ft_5_4, fv_5_5, ft_5_5, fv_5_6, ft_5_6, fv_5_7, ft_5_7, fv_5_8, ft_5_8, fv_5_9, ft_5_9, fv_5_10, ft_5_10, fv_5_11, ft_5_11, fv_5_12, ft_5_12, fv_5_13, ft_5_13, fv_5_14, ft_5_14, fv_5_15, ft_5_15, fv_5_16, ft_5_16, fv_5_17, ft_5_17, fv_5_18, ft_5_18, fv_5_19, ft_5_19, fv_5_20, ft_5_20, fv_5_21, ft_5_21, fv_5_22, ft_5_22, kd_0, kd_1, kd_2, kd_3, kd_4, kd_5, kd_6, kd_7, kd_8, kd_9, kd_10, kd_11, kd_12, kd_13, kd_14, kd_15, kd_16, kd_17, kd_18, kd_19, kd_20, kd_21, kd_22, kd_23, kd_24, kd_25, kd_26, kd_27, kd_28, kd_29, kd_30, kd_31, kd_32, kd_33, kd_34, kd_35, kd_36, kd_37, kd_38, kd_39, rt_0_0, rt_0_1, rt_0_2, rt_0_3, rt_0_4, rt_0_5, rt_1_0, rt_1_1, rt_1_2, rt_1_3, rt_1_4, rt_1_5, rt_1_6, rt_1_7, rt_1_8, rt_2_0, rt_12_0, rt_12_1, rt_18_1, rt_18_6, rt_18_7, rt_18_8, rt_18_9, rt_18_10, rt_18_11, rt_18_12, rt_18_14, rt_18_15, rt_18_16, rt_18_17, rt_18_18, rt_18_19, rt_18_20, rt_18_21, rt_18_22, rt_N7, rt_N8, ra_3, ra_15, sc_pu, Nat.reduceAdd, Int.toNat_natCast, true_and, and_true, reduceIte, forall_const, Nat.reduceLeDiff, Nat.zero_le, sc_in, sc_in6, Int.reduceLE, Int.reduceNeg, Int.reduceLT, Int.reduceEq, Nat.reduceEqDiff, ne_eq, not_false_eq_true, lk_Mo_sumOfPlan_0, lk_Mo_sumOfPlan_1, lk_Mo_sumOfPlan_2, lk_Mo_sumOfPlan_3, lk_Mo_sumOfPlan_6, lk_Mo_sumOfPlan_7, lk_Mo_sumOfPlan_8, lk_Mo_sumOfPlan_10, lk_Mo_sumOfPlan_12, lk_Mo_sumOfPlan_13, lk_Mo_sumOfPlan_16, lk_Mo_sumOfPlan_17, lk_Mo_sumOfPlan_19, lk_Mo_sumOfPlan_22, lk_Mo_sumOfPlan_23, lk_Mo_sumOfPlan_24, lk_Mo_sumOfPlan_27, lk_Mo_sumOfPlan_30, lk_Mo_sumOfPlan_31, lk_Mo_sumOfPlan_34, lk_Mo_sumOfPlan_35, lk_Mo_sumOfPlan_38, lk_Mo_sumOfPlan_39, lk_Mo_sumOfPlan_40, lk_Mo_sumOfPlan_43, lk_Mo_sumOfPlan_44, lk_Mo_sumOfPlan_45, lk_Mo_sumOfPlan_46, lk_Mo_sumOfPlan_49, lk_Mo_sumOfPlan_52, lk_Mo_sumOfPlan_53, lk_Mo_sumOfPlan_0, lk_Mo_sumOfPlan_1, lk_Mo_sumOfPlan_2, lk_Mo_sumOfPlan_3, lk_Mo_sumOfPlan_6, lk_Mo_sumOfPlan_7, lk_Mo_sumOfPlan_8, lk_Mo_sumOfPlan_10, lk_Mo_sumOfPlan_12, lk_Mo_sumOfPlan_13, lk_Mo_sumOfPlan_16, lk_Mo_sumOfPlan_17, lk_Mo_sumOfPlan_19, lk_Mo_sumOfPlan_22, lk_Mo_sumOfPlan_23, lk_Mo_sumOfPlan_24, lk_Mo_sumOfPlan_27, lk_Mo_sumOfPlan_30, lk_Mo_sumOfPlan_31, lk_Mo_sumOfPlan_34, lk_Mo_sumOfPlan_35, lk_Mo_sumOfPlan_38, lk_Mo_sumOfPlan_39, lk_Mo_sumOfPlan_40, lk_Mo_sumOfPlan_43, lk_Mo_sumOfPlan_44, lk_Mo_sumOfPlan_45, lk_Mo_sumOfPlan_46, lk_Mo_sumOfPlan_49, lk_Mo_sumOfPlan_52, lk_Mo_sumOfPlan_53]) | with_reducible apply And.intro | with_reducible intro _
    all_goals grind [sc_in, sc_in6]
  · intro w hw1 ih
    rw [sc_cast1, mo_sum, mo_term] at ih
    have hm1 := mo_mw_w hw0 (w + 1)
    have hset := sp_Mo_setWorld l G (d + 2) (mo_mw μ N w) N (mo_mw_w hw0 w) (w : Int) (by omega) ⟨by omega, by omega⟩
    rw [mo_mw_set] at hset
    have e27 := mo_mw_27 μ N w
    have hf : mo_ok ((mo_mw μ N (w + 1)) 20) ((mo_mw μ N (w + 1)) 21) ((mo_mw μ N (w + 1)) 27) N := by
      rw [mo_mw_ne μ N (by decide), mo_mw_ne μ N (by decide), e27]
      exact mo_now_ok _ _ (by omega) _ N hS
    have hc := sp_Mo_comes l G d (mo_mw μ N (w + 1)) N hm1 hf (by rw [mo_mw_ne μ N (by decide)]; exact hpl)
    have hwn := sp_Mo_weightNow l G (d + 1) (mo_mw μ N (w + 1)) N hm1 hf
    have hon := sp_Mo_worthNow l G (d + 1) (mo_mw μ N (w + 1)) N hm1 hf
    have hb := mo_on_le (mo_mw μ N (w + 1)) N hm1.2.2.1 hf N (Nat.le_refl _)
    have hN1 := hw0.1
    have e : ∀ b, b ≠ 27 → mo_mw μ N (w + 1) b = μ b := fun b hb => mo_mw_ne μ N hb (w + 1)
    rw [e 18 (by decide), e 20 (by decide), e 21 (by decide), e 25 (by decide), e 31 (by decide), e 28 (by decide), e27] at hc
    rw [e 18 (by decide), e 20 (by decide), e 21 (by decide), e 22 (by decide), e 23 (by decide), e 26 (by decide), e27] at hwn
    rw [e 20 (by decide), e 21 (by decide), e 22 (by decide), e 23 (by decide), e 26 (by decide), e27] at hon hb
    generalize mo_cm (μ 20) (μ 21) (mo_now (μ 20) (μ 21) (w : Int) (μ 27) N) (μ 25) (μ 31) (μ 28) (μ 18 13) N N = cm at ih hc
    generalize mo_wn (μ 20) (μ 21) (μ 22) (μ 23) (μ 26) (mo_now (μ 20) (μ 21) (w : Int) (μ 27) N) (μ 18 13) N = wn at ih hwn
    generalize mo_on (μ 20) (μ 21) (μ 22) (μ 23) (μ 26) (mo_now (μ 20) (μ 21) (w : Int) (μ 27) N) N = on at ih hon hb
    generalize mo_mw μ N (w + 1) = μ2 at ih hset hc hwn hon
    refine sc_rp ?_
    repeat' first | (with_reducible refine sc_st1 tk_Mo_sumOfPlan ?_; simp only [sc_dz, sc_gz, sc_brn, sc_stp, sc_nth, sc_sto_0, sc_sto_1, sc_sto_s, sc_stoJ_0, sc_stoJ_1, sc_stoJ_s, sc_k1_i, sc_k1_j, sc_k1_r, sc_k1_u, sc_x1, sc_x2, sc_xv, sc_xc, sc_1i, sc_2i, sc_1j, sc_2j, sc_1r, sc_ir, sc_iir, sc_jir, sc_xr, sc_jr, sc_1v, sc_2v, sc_vI, sc_vJ, sc_vR, sc_retI, sc_call, sc_callS, sc_args, sc_psh_i, sc_psh_j, sc_psh_r, sc_psh_u, sc_cats, sc_sw, sc_cpy, sc_isJ, fv_0_0, ft_0_0, fv_0_1, ft_0_1, fv_0_2, ft_0_2, fv_1_0, ft_1_0, fv_1_1, ft_1_1, fv_1_2, ft_1_2, fv_1_3, ft_1_3, fv_2_0, ft_2_0, fv_2_1, ft_2_1, fv_2_2, ft_2_2, fv_2_3, ft_2_3, fv_2_4, ft_2_4, fv_2_5, ft_2_5, fv_2_6, ft_2_6, fv_2_7, ft_2_7, fv_2_8, ft_2_8, fv_3_0, ft_3_0, fv_3_1, ft_3_1, fv_3_2, ft_3_2, fv_3_3, ft_3_3, fv_3_4, ft_3_4, fv_3_5, ft_3_5, fv_3_6, ft_3_6, fv_3_7, ft_3_7, fv_3_8, ft_3_8, fv_3_9, ft_3_9, fv_3_10, ft_3_10, fv_3_11, ft_3_11, fv_4_0, ft_4_0, fv_4_1, ft_4_1, fv_4_2, ft_4_2, fv_4_3, ft_4_3, fv_4_4, ft_4_4, fv_4_5, ft_4_5, fv_4_6, ft_4_6, fv_4_7, ft_4_7, fv_4_8, ft_4_8, fv_4_9, ft_4_9, fv_5_0, ft_5_0, fv_5_1, ft_5_1, fv_5_2, ft_5_2, fv_5_3, ft_5_3, fv_5_4, ft_5_4, fv_5_5, ft_5_5, fv_5_6, ft_5_6, fv_5_7, ft_5_7, fv_5_8, ft_5_8, fv_5_9, ft_5_9, fv_5_10, ft_5_10, fv_5_11, ft_5_11, fv_5_12, ft_5_12, fv_5_13, ft_5_13, fv_5_14, ft_5_14, fv_5_15, ft_5_15, fv_5_16, ft_5_16, fv_5_17, ft_5_17, fv_5_18, ft_5_18, fv_5_19, ft_5_19, fv_5_20, ft_5_20, fv_5_21, ft_5_21, fv_5_22, ft_5_22, kd_0, kd_1, kd_2, kd_3, kd_4, kd_5, kd_6, kd_7, kd_8, kd_9, kd_10, kd_11, kd_12, kd_13, kd_14, kd_15, kd_16, kd_17, kd_18, kd_19, kd_20, kd_21, kd_22, kd_23, kd_24, kd_25, kd_26, kd_27, kd_28, kd_29, kd_30, kd_31, kd_32, kd_33, kd_34, kd_35, kd_36, kd_37, kd_38, kd_39, rt_0_0, rt_0_1, rt_0_2, rt_0_3, rt_0_4, rt_0_5, rt_1_0, rt_1_1, rt_1_2, rt_1_3, rt_1_4, rt_1_5, rt_1_6, rt_1_7, rt_1_8, rt_2_0, rt_12_0, rt_12_1, rt_18_1, rt_18_6, rt_18_7, rt_18_8, rt_18_9, rt_18_10, rt_18_11, rt_18_12, rt_18_14, rt_18_15, rt_18_16, rt_18_17, rt_18_18, rt_18_19, rt_18_20, rt_18_21, rt_18_22, rt_N7, rt_N8, ra_3, ra_15, sc_pu, Nat.reduceAdd, Int.toNat_natCast, true_and, and_true, reduceIte, forall_const, Nat.reduceLeDiff, Nat.zero_le, sc_in, sc_in6, Int.reduceLE, Int.reduceNeg, Int.reduceLT, Int.reduceEq, Nat.reduceEqDiff, ne_eq, not_false_eq_true, lk_Mo_sumOfPlan_0, lk_Mo_sumOfPlan_1, lk_Mo_sumOfPlan_2, lk_Mo_sumOfPlan_3, lk_Mo_sumOfPlan_6, lk_Mo_sumOfPlan_7, lk_Mo_sumOfPlan_8, lk_Mo_sumOfPlan_10, lk_Mo_sumOfPlan_12, lk_Mo_sumOfPlan_13, lk_Mo_sumOfPlan_16, lk_Mo_sumOfPlan_17, lk_Mo_sumOfPlan_19, lk_Mo_sumOfPlan_22, lk_Mo_sumOfPlan_23, lk_Mo_sumOfPlan_24, lk_Mo_sumOfPlan_27, lk_Mo_sumOfPlan_30, lk_Mo_sumOfPlan_31, lk_Mo_sumOfPlan_34, lk_Mo_sumOfPlan_35, lk_Mo_sumOfPlan_38, lk_Mo_sumOfPlan_39, lk_Mo_sumOfPlan_40, lk_Mo_sumOfPlan_43, lk_Mo_sumOfPlan_44, lk_Mo_sumOfPlan_45, lk_Mo_sumOfPlan_46, lk_Mo_sumOfPlan_49, lk_Mo_sumOfPlan_52, lk_Mo_sumOfPlan_53, lk_Mo_sumOfPlan_0, lk_Mo_sumOfPlan_1, lk_Mo_sumOfPlan_2, lk_Mo_sumOfPlan_3, lk_Mo_sumOfPlan_6, lk_Mo_sumOfPlan_7, lk_Mo_sumOfPlan_8, lk_Mo_sumOfPlan_10, lk_Mo_sumOfPlan_12, lk_Mo_sumOfPlan_13, lk_Mo_sumOfPlan_16, lk_Mo_sumOfPlan_17, lk_Mo_sumOfPlan_19, lk_Mo_sumOfPlan_22, lk_Mo_sumOfPlan_23, lk_Mo_sumOfPlan_24, lk_Mo_sumOfPlan_27, lk_Mo_sumOfPlan_30, lk_Mo_sumOfPlan_31, lk_Mo_sumOfPlan_34, lk_Mo_sumOfPlan_35, lk_Mo_sumOfPlan_38, lk_Mo_sumOfPlan_39, lk_Mo_sumOfPlan_40, lk_Mo_sumOfPlan_43, lk_Mo_sumOfPlan_44, lk_Mo_sumOfPlan_45, lk_Mo_sumOfPlan_46, lk_Mo_sumOfPlan_49, lk_Mo_sumOfPlan_52, lk_Mo_sumOfPlan_53, if_true]) | with_reducible apply And.intro | with_reducible intro _ | (refine ⟨_, hset, ?_⟩; rintro _ _ ⟨rfl, rfl⟩) | (refine ⟨_, hc, ?_⟩; rintro _ _ ⟨rfl, rfl⟩) | (refine ⟨_, hwn, ?_⟩; rintro _ _ ⟨rfl, rfl⟩) | (refine ⟨_, hon, ?_⟩; rintro _ _ ⟨rfl, rfl⟩)
    all_goals grind [sc_in, sc_in6]
