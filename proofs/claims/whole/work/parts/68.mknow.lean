noncomputable def mo_kw (K V : Nat → Int) (k : Nat) : Nat → Int
  | 0 => V k
  | p + 1 => sc_bor (mo_kw K V k p) (if K k = 2 ∧ K p = 1 then sc_bshl 1 (p : Int) else 0)
theorem mo_kw_lt (K V : Nat → Int) (k : Nat) (h : 0 ≤ V k ∧ V k < 1024) : ∀ p, p ≤ 10 → 0 ≤ mo_kw K V k p ∧ mo_kw K V k p < 1024
  | 0, _ => h
  | p + 1, hp => by
    have ih := mo_kw_lt K V k h p (by omega)
    rw [mo_kw]
    split
    · exact sc_bset_lt _ ih p (by omega)
    · exact sc_bor_lt _ _ ih ⟨by omega, by omega⟩
/-- all sights, as far as node k -/
noncomputable def mo_all (μ : sc_M) (k : Nat) : Nat → Int := fun j => if j < k then mo_kw (μ 20) (μ 24) j j else μ 24 j
noncomputable def mo_kA (m : sc_M) (k p : Nat) : sc_M := sc_arr (sc_arr m 32 (fun j => if j < k + 1 then m 24 j else m 32 j)) 24 (fun j => if j < k then mo_kw (m 20) (m 24) j j else if j = k then mo_kw (m 20) (m 24) k p else m 24 j)
noncomputable def mo_kB (m : sc_M) (k : Nat) : sc_M := sc_arr (sc_arr m 32 (fun j => if j < k then m 24 j else m 32 j)) 24 (mo_all m k)
theorem mo_kB_0 (m : sc_M) : mo_kB m 0 = m := by
  unfold mo_kB mo_all
  rw [show (fun j => if j < 0 then m 24 j else m 32 j) = m 32 from funext fun j => if_neg (by omega), sc_arr_self, show (fun j => if j < 0 then mo_kw (m 20) (m 24) j j else m 24 j) = m 24 from funext fun j => if_neg (by omega), sc_arr_self]
theorem mo_kB_A (m : sc_M) (k : Nat) : sc_up (mo_kB m k) 32 k (m 24 k) = mo_kA m k 0 := by
  funext b j
  simp only [mo_kB, mo_kA, mo_all, sc_up, sc_arr, mo_kw]
  by_cases h1 : b = 24
  · subst h1
    simp only [if_true, Nat.reduceEqDiff, false_and, if_false]
    by_cases h2 : j < k
    · simp [h2, mo_all]
    · by_cases h3 : j = k
      · simp [h3, mo_all]
      · simp [h2, h3, mo_all]
  · by_cases h2 : b = 32
    · subst h2
      simp only [Nat.reduceEqDiff, if_false, if_true, true_and]
      by_cases h3 : j = k
      · simp [h3]
      · by_cases h4 : j < k
        · simp [h3, h4, Nat.lt_succ_of_lt h4]
        · simp [h3, h4, show ¬ j < k + 1 by omega]
    · simp [h1, h2]
theorem mo_kA_B (m : sc_M) (k : Nat) : mo_kA m k k = mo_kB m (k + 1) := by
  unfold mo_kA mo_kB mo_all
  congr 1
  funext j
  by_cases h2 : j < k
  · rw [if_pos h2, if_pos (by omega)]
  · by_cases h3 : j = k
    · rw [if_neg h2, if_pos h3, if_pos (by omega), h3]
    · rw [if_neg h2, if_neg h3, if_neg (by omega)]
theorem mo_kA_24 (m : sc_M) (k p : Nat) : mo_kA m k p 24 k = mo_kw (m 20) (m 24) k p := by
  unfold mo_kA
  rw [sc_arr_eq]
  simp
theorem mo_kA_20 (m : sc_M) (k p : Nat) : mo_kA m k p 20 = m 20 := by
  unfold mo_kA
  rw [sc_arr_ne _ _ (by decide), sc_arr_ne _ _ (by decide)]
theorem mo_kA_18 (m : sc_M) (k p : Nat) : mo_kA m k p 18 = m 18 := by
  unfold mo_kA
  rw [sc_arr_ne _ _ (by decide), sc_arr_ne _ _ (by decide)]
theorem mo_kB_ne (m : sc_M) (k : Nat) {b : Nat} (h : b ≠ 24) (h2 : b ≠ 32) : mo_kB m k b = m b := by
  unfold mo_kB
  rw [sc_arr_ne _ _ h, sc_arr_ne _ _ h2]
theorem mo_kA_up (m : sc_M) (k p : Nat) : sc_up (mo_kA m k p) 24 k (mo_kw (m 20) (m 24) k (p + 1)) = mo_kA m k (p + 1) := by
  unfold mo_kA
  rw [sc_up_in_arr]
  congr 1
  funext j
  by_cases h3 : j = k
  · subst h3; simp
  · simp [h3]
set_option maxRecDepth 100000 in
set_option maxHeartbeats 4000000 in
theorem lp_know_a (l : Launch) (G : sc_G) (d : Nat) (μ : sc_M) (N : Nat) (hw : mo_w μ N) (b1 : Int) (Post : sc_V → sc_M → Prop) (hend : ∀ v3 v4 v5, sc_Wp l G d mq_Mo_knowing 7 [.inr (.inr (.inl (18))), .inr (.inl (b1)), .inr (.inr (.inr ())), v3, v4, v5] [] (mo_kB μ N) Post ∨ ¬ v3 = .inl ((N : Int))) : ∀ (j k : Nat) (v4 v5 : sc_V), k + j = N → sc_Wp l G d mq_Mo_knowing 7 [.inr (.inr (.inl (18))), .inr (.inl (b1)), .inr (.inr (.inr ())), .inl ((k : Int)), v4, v5] [] (mo_kB μ k) Post := by
  have hN1 := hw.1
  intro j
  induction j with
  | zero =>
    intro k v4 v5 hk
    have hk : k = N := by omega
    subst hk
    exact (hend (.inl ((k : Int))) v4 v5).resolve_right (fun h => h rfl)
  | succ j ih =>
    intro k v4 v5 hk
    have ih1 := fun v4 v5 => ih (k + 1) v4 v5 (by omega)
    simp only [sc_cast1, ← mo_kA_B μ k] at ih1
    clear ih hend
    have k1 := (hw.2.2.1 k (by omega)).1
    have key : ∀ a p : Nat, p + a = k → sc_Wp l G d mq_Mo_knowing 30 [.inr (.inr (.inl (18))), .inr (.inl (b1)), .inr (.inr (.inr ())), .inl ((k : Int)), .inl ((p : Int)), v5] [] (mo_kA μ k p) Post := by
      intro a
      induction a with
      | zero =>
        intro p hp
        have hp : p = k := by omega
        subst hp
        have ih2 := ih1 (.inl ((p : Int))) v5
        clear ih1
        generalize mo_kA μ p p = m at ih2 ⊢
        refine sc_rp ?_
        repeat' first | (with_reducible refine sc_st1 tk_Mo_knowing ?_; simp only [sc_dz, sc_gz, sc_brn, sc_stp, sc_nth, sc_sto_0, sc_sto_1, sc_sto_s, sc_stoJ_0, sc_stoJ_1, sc_stoJ_s, sc_k1_i, sc_k1_j, sc_k1_r, sc_k1_u, sc_x1, sc_x2, sc_xv, sc_xc, sc_1i, sc_2i, sc_1j, sc_2j, sc_1r, sc_ir, sc_iir, sc_jir, sc_xr, sc_jr, sc_1v, sc_2v, sc_vI, sc_vJ, sc_vR, sc_retI, sc_call, sc_callS, sc_args, sc_psh_i, sc_psh_j, sc_psh_r, sc_psh_u, sc_cats, sc_sw, sc_cpy, sc_isJ, fv_0_0, ft_0_0, fv_0_1, ft_0_1, fv_0_2, ft_0_2, fv_1_0, ft_1_0, fv_1_1, ft_1_1, fv_1_2, ft_1_2, fv_1_3, ft_1_3, fv_2_0, ft_2_0, fv_2_1, ft_2_1, fv_2_2, ft_2_2, fv_2_3, ft_2_3, fv_2_4, ft_2_4, fv_2_5, ft_2_5, fv_2_6, ft_2_6, fv_2_7, ft_2_7, fv_2_8, ft_2_8, fv_3_0, ft_3_0, fv_3_1, ft_3_1, fv_3_2, ft_3_2, fv_3_3, ft_3_3, fv_3_4, ft_3_4, fv_3_5, ft_3_5, fv_3_6, ft_3_6, fv_3_7, ft_3_7, fv_3_8, ft_3_8, fv_3_9, ft_3_9, fv_3_10, ft_3_10, fv_3_11, ft_3_11, fv_4_0, ft_4_0, fv_4_1, ft_4_1, fv_4_2, ft_4_2, fv_4_3, ft_4_3, fv_4_4, ft_4_4, fv_4_5, ft_4_5, fv_4_6, ft_4_6, fv_4_7, ft_4_7, fv_4_8, ft_4_8, fv_4_9, ft_4_9, fv_5_0, ft_5_0, fv_5_1, ft_5_1, fv_5_2, ft_5_2, fv_5_3, ft_5_3, fv_5_4, ft_5_4, fv_5_5, ft_5_5, fv_5_6, ft_5_6, fv_5_7, ft_5_7, fv_5_8, ft_5_8, fv_5_9, ft_5_9, fv_5_10, ft_5_10, fv_5_11, ft_5_11, fv_5_12, ft_5_12, fv_5_13, ft_5_13, fv_5_14, ft_5_14, fv_5_15, ft_5_15, fv_5_16, ft_5_16, fv_5_17, ft_5_17, fv_5_18, ft_5_18, fv_5_19, ft_5_19, fv_5_20, ft_5_20, fv_5_21, ft_5_21, fv_5_22, ft_5_22, kd_0, kd_1, kd_2, kd_3, kd_4, kd_5, kd_6, kd_7, kd_8, kd_9, kd_10, kd_11, kd_12, kd_13, kd_14, kd_15, kd_16, kd_17, kd_18, kd_19, kd_20, kd_21, kd_22, kd_23, kd_24, kd_25, kd_26, kd_27, kd_28, kd_29, kd_30, kd_31, kd_32, kd_33, kd_34, kd_35, kd_36, kd_37, kd_38, kd_39, rt_0_0, rt_0_1, rt_0_2, rt_0_3, rt_0_4, rt_0_5, rt_1_0, rt_1_1, rt_1_2, rt_1_3, rt_1_4, rt_1_5, rt_1_6, rt_1_7, rt_1_8, rt_2_0, rt_12_0, rt_12_1, rt_18_1, rt_18_6, rt_18_7, rt_18_8, rt_18_9, rt_18_10, rt_18_11, rt_18_12, rt_18_14, rt_18_15, rt_18_16, rt_18_17, rt_18_18, rt_18_19, rt_18_20, rt_18_21, rt_18_22, rt_N7, rt_N8, ra_3, ra_15, sc_pu, Nat.reduceAdd, Int.toNat_natCast, true_and, and_true, reduceIte, forall_const, Nat.reduceLeDiff, Nat.zero_le, sc_in, sc_in6, Int.reduceLE, Int.reduceNeg, Int.reduceLT, Int.reduceEq, Nat.reduceEqDiff, ne_eq, not_false_eq_true, lk_Mo_knowing_0, lk_Mo_knowing_1, lk_Mo_knowing_4, lk_Mo_knowing_5, lk_Mo_knowing_6, lk_Mo_knowing_7, lk_Mo_knowing_8, lk_Mo_knowing_9, lk_Mo_knowing_12, lk_Mo_knowing_15, lk_Mo_knowing_16, lk_Mo_knowing_19, lk_Mo_knowing_20, lk_Mo_knowing_21, lk_Mo_knowing_24, lk_Mo_knowing_25, lk_Mo_knowing_26, lk_Mo_knowing_27, lk_Mo_knowing_28, lk_Mo_knowing_30, lk_Mo_knowing_32, lk_Mo_knowing_33, lk_Mo_knowing_36, lk_Mo_knowing_37, lk_Mo_knowing_40, lk_Mo_knowing_41, lk_Mo_knowing_42, lk_Mo_knowing_43, lk_Mo_knowing_44, lk_Mo_knowing_47, lk_Mo_knowing_48, lk_Mo_knowing_49, lk_Mo_knowing_50, lk_Mo_knowing_53, lk_Mo_knowing_54, lk_Mo_knowing_57, lk_Mo_knowing_59, lk_Mo_knowing_60, lk_Mo_knowing_61, lk_Mo_knowing_64, lk_Mo_knowing_65, lk_Mo_knowing_67, lk_Mo_knowing_68, lk_Mo_knowing_71, lk_Mo_knowing_72, lk_Mo_knowing_73, lk_Mo_knowing_74, lk_Mo_knowing_77, lk_Mo_knowing_80, lk_Mo_knowing_83, lk_Mo_knowing_86, lk_Mo_knowing_87, lk_Mo_knowing_90, lk_Mo_knowing_91, lk_Mo_knowing_92, lk_Mo_knowing_94, lk_Mo_knowing_96, lk_Mo_knowing_97, lk_Mo_knowing_100, lk_Mo_knowing_103, lk_Mo_knowing_104, lk_Mo_knowing_107, lk_Mo_knowing_109, lk_Mo_knowing_110, lk_Mo_knowing_113, lk_Mo_knowing_115, lk_Mo_knowing_116, lk_Mo_knowing_117, lk_Mo_knowing_120, lk_Mo_knowing_123, lk_Mo_knowing_124, lk_Mo_knowing_125, lk_Mo_knowing_126, lk_Mo_knowing_127, lk_Mo_knowing_128, lk_Mo_knowing_131, lk_Mo_knowing_134]) | with_reducible apply And.intro | with_reducible intro _
        all_goals first | exact ih2 | (exfalso; omega) | omega | grind [sc_in, sc_in6]
      | succ a ih2 =>
        intro p hp
        have ih3 := ih2 (p + 1) (by omega)
        rw [sc_cast1, ← mo_kA_up, mo_kw] at ih3
        clear ih1 ih2
        have e1 := mo_kA_24 μ k p
        have e2 := mo_kA_20 μ k p
        have k2 := (hw.2.2.1 p (by omega)).1
        generalize mo_kA μ k p = m at e1 e2 ih3 ⊢
        by_cases hc : μ 20 k = 2 ∧ μ 20 p = 1
        · rw [if_pos hc] at ih3
          refine sc_rp ?_
          repeat' first | (with_reducible refine sc_st1 tk_Mo_knowing ?_; simp only [sc_dz, sc_gz, sc_brn, sc_stp, sc_nth, sc_sto_0, sc_sto_1, sc_sto_s, sc_stoJ_0, sc_stoJ_1, sc_stoJ_s, sc_k1_i, sc_k1_j, sc_k1_r, sc_k1_u, sc_x1, sc_x2, sc_xv, sc_xc, sc_1i, sc_2i, sc_1j, sc_2j, sc_1r, sc_ir, sc_iir, sc_jir, sc_xr, sc_jr, sc_1v, sc_2v, sc_vI, sc_vJ, sc_vR, sc_retI, sc_call, sc_callS, sc_args, sc_psh_i, sc_psh_j, sc_psh_r, sc_psh_u, sc_cats, sc_sw, sc_cpy, sc_isJ, fv_0_0, ft_0_0, fv_0_1, ft_0_1, fv_0_2, ft_0_2, fv_1_0, ft_1_0, fv_1_1, ft_1_1, fv_1_2, ft_1_2, fv_1_3, ft_1_3, fv_2_0, ft_2_0, fv_2_1, ft_2_1, fv_2_2, ft_2_2, fv_2_3, ft_2_3, fv_2_4, ft_2_4, fv_2_5, ft_2_5, fv_2_6, ft_2_6, fv_2_7, ft_2_7, fv_2_8, ft_2_8, fv_3_0, ft_3_0, fv_3_1, ft_3_1, fv_3_2, ft_3_2, fv_3_3, ft_3_3, fv_3_4, ft_3_4, fv_3_5, ft_3_5, fv_3_6, ft_3_6, fv_3_7, ft_3_7, fv_3_8, ft_3_8, fv_3_9, ft_3_9, fv_3_10, ft_3_10, fv_3_11, ft_3_11, fv_4_0, ft_4_0, fv_4_1, ft_4_1, fv_4_2, ft_4_2, fv_4_3, ft_4_3, fv_4_4, ft_4_4, fv_4_5, ft_4_5, fv_4_6, ft_4_6, fv_4_7, ft_4_7, fv_4_8, ft_4_8, fv_4_9, ft_4_9, fv_5_0, ft_5_0, fv_5_1, ft_5_1, fv_5_2, ft_5_2, fv_5_3, ft_5_3, fv_5_4, ft_5_4, fv_5_5, ft_5_5, fv_5_6, ft_5_6, fv_5_7, ft_5_7, fv_5_8, ft_5_8, fv_5_9, ft_5_9, fv_5_10, ft_5_10, fv_5_11, ft_5_11, fv_5_12, ft_5_12, fv_5_13, ft_5_13, fv_5_14, ft_5_14, fv_5_15, ft_5_15, fv_5_16, ft_5_16, fv_5_17, ft_5_17, fv_5_18, ft_5_18, fv_5_19, ft_5_19, fv_5_20, ft_5_20, fv_5_21, ft_5_21, fv_5_22, ft_5_22, kd_0, kd_1, kd_2, kd_3, kd_4, kd_5, kd_6, kd_7, kd_8, kd_9, kd_10, kd_11, kd_12, kd_13, kd_14, kd_15, kd_16, kd_17, kd_18, kd_19, kd_20, kd_21, kd_22, kd_23, kd_24, kd_25, kd_26, kd_27, kd_28, kd_29, kd_30, kd_31, kd_32, kd_33, kd_34, kd_35, kd_36, kd_37, kd_38, kd_39, rt_0_0, rt_0_1, rt_0_2, rt_0_3, rt_0_4, rt_0_5, rt_1_0, rt_1_1, rt_1_2, rt_1_3, rt_1_4, rt_1_5, rt_1_6, rt_1_7, rt_1_8, rt_2_0, rt_12_0, rt_12_1, rt_18_1, rt_18_6, rt_18_7, rt_18_8, rt_18_9, rt_18_10, rt_18_11, rt_18_12, rt_18_14, rt_18_15, rt_18_16, rt_18_17, rt_18_18, rt_18_19, rt_18_20, rt_18_21, rt_18_22, rt_N7, rt_N8, ra_3, ra_15, sc_pu, Nat.reduceAdd, Int.toNat_natCast, true_and, and_true, reduceIte, forall_const, Nat.reduceLeDiff, Nat.zero_le, sc_in, sc_in6, Int.reduceLE, Int.reduceNeg, Int.reduceLT, Int.reduceEq, Nat.reduceEqDiff, ne_eq, not_false_eq_true, lk_Mo_knowing_0, lk_Mo_knowing_1, lk_Mo_knowing_4, lk_Mo_knowing_5, lk_Mo_knowing_6, lk_Mo_knowing_7, lk_Mo_knowing_8, lk_Mo_knowing_9, lk_Mo_knowing_12, lk_Mo_knowing_15, lk_Mo_knowing_16, lk_Mo_knowing_19, lk_Mo_knowing_20, lk_Mo_knowing_21, lk_Mo_knowing_24, lk_Mo_knowing_25, lk_Mo_knowing_26, lk_Mo_knowing_27, lk_Mo_knowing_28, lk_Mo_knowing_30, lk_Mo_knowing_32, lk_Mo_knowing_33, lk_Mo_knowing_36, lk_Mo_knowing_37, lk_Mo_knowing_40, lk_Mo_knowing_41, lk_Mo_knowing_42, lk_Mo_knowing_43, lk_Mo_knowing_44, lk_Mo_knowing_47, lk_Mo_knowing_48, lk_Mo_knowing_49, lk_Mo_knowing_50, lk_Mo_knowing_53, lk_Mo_knowing_54, lk_Mo_knowing_57, lk_Mo_knowing_59, lk_Mo_knowing_60, lk_Mo_knowing_61, lk_Mo_knowing_64, lk_Mo_knowing_65, lk_Mo_knowing_67, lk_Mo_knowing_68, lk_Mo_knowing_71, lk_Mo_knowing_72, lk_Mo_knowing_73, lk_Mo_knowing_74, lk_Mo_knowing_77, lk_Mo_knowing_80, lk_Mo_knowing_83, lk_Mo_knowing_86, lk_Mo_knowing_87, lk_Mo_knowing_90, lk_Mo_knowing_91, lk_Mo_knowing_92, lk_Mo_knowing_94, lk_Mo_knowing_96, lk_Mo_knowing_97, lk_Mo_knowing_100, lk_Mo_knowing_103, lk_Mo_knowing_104, lk_Mo_knowing_107, lk_Mo_knowing_109, lk_Mo_knowing_110, lk_Mo_knowing_113, lk_Mo_knowing_115, lk_Mo_knowing_116, lk_Mo_knowing_117, lk_Mo_knowing_120, lk_Mo_knowing_123, lk_Mo_knowing_124, lk_Mo_knowing_125, lk_Mo_knowing_126, lk_Mo_knowing_127, lk_Mo_knowing_128, lk_Mo_knowing_131, lk_Mo_knowing_134, e1, e2, hc.1, hc.2]) | with_reducible apply And.intro | with_reducible intro _
          all_goals first | exact ih3 | (exfalso; omega) | omega | grind [sc_in, sc_in6]
        · rw [if_neg hc] at ih3
          refine sc_rp ?_
          repeat' first | (with_reducible refine sc_st1 tk_Mo_knowing ?_; simp only [sc_dz, sc_gz, sc_brn, sc_stp, sc_nth, sc_sto_0, sc_sto_1, sc_sto_s, sc_stoJ_0, sc_stoJ_1, sc_stoJ_s, sc_k1_i, sc_k1_j, sc_k1_r, sc_k1_u, sc_x1, sc_x2, sc_xv, sc_xc, sc_1i, sc_2i, sc_1j, sc_2j, sc_1r, sc_ir, sc_iir, sc_jir, sc_xr, sc_jr, sc_1v, sc_2v, sc_vI, sc_vJ, sc_vR, sc_retI, sc_call, sc_callS, sc_args, sc_psh_i, sc_psh_j, sc_psh_r, sc_psh_u, sc_cats, sc_sw, sc_cpy, sc_isJ, fv_0_0, ft_0_0, fv_0_1, ft_0_1, fv_0_2, ft_0_2, fv_1_0, ft_1_0, fv_1_1, ft_1_1, fv_1_2, ft_1_2, fv_1_3, ft_1_3, fv_2_0, ft_2_0, fv_2_1, ft_2_1, fv_2_2, ft_2_2, fv_2_3, ft_2_3, fv_2_4, ft_2_4, fv_2_5, ft_2_5, fv_2_6, ft_2_6, fv_2_7, ft_2_7, fv_2_8, ft_2_8, fv_3_0, ft_3_0, fv_3_1, ft_3_1, fv_3_2, ft_3_2, fv_3_3, ft_3_3, fv_3_4, ft_3_4, fv_3_5, ft_3_5, fv_3_6, ft_3_6, fv_3_7, ft_3_7, fv_3_8, ft_3_8, fv_3_9, ft_3_9, fv_3_10, ft_3_10, fv_3_11, ft_3_11, fv_4_0, ft_4_0, fv_4_1, ft_4_1, fv_4_2, ft_4_2, fv_4_3, ft_4_3, fv_4_4, ft_4_4, fv_4_5, ft_4_5, fv_4_6, ft_4_6, fv_4_7, ft_4_7, fv_4_8, ft_4_8, fv_4_9, ft_4_9, fv_5_0, ft_5_0, fv_5_1, ft_5_1, fv_5_2, ft_5_2, fv_5_3, ft_5_3, fv_5_4, ft_5_4, fv_5_5, ft_5_5, fv_5_6, ft_5_6, fv_5_7, ft_5_7, fv_5_8, ft_5_8, fv_5_9, ft_5_9, fv_5_10, ft_5_10, fv_5_11, ft_5_11, fv_5_12, ft_5_12, fv_5_13, ft_5_13, fv_5_14, ft_5_14, fv_5_15, ft_5_15, fv_5_16, ft_5_16, fv_5_17, ft_5_17, fv_5_18, ft_5_18, fv_5_19, ft_5_19, fv_5_20, ft_5_20, fv_5_21, ft_5_21, fv_5_22, ft_5_22, kd_0, kd_1, kd_2, kd_3, kd_4, kd_5, kd_6, kd_7, kd_8, kd_9, kd_10, kd_11, kd_12, kd_13, kd_14, kd_15, kd_16, kd_17, kd_18, kd_19, kd_20, kd_21, kd_22, kd_23, kd_24, kd_25, kd_26, kd_27, kd_28, kd_29, kd_30, kd_31, kd_32, kd_33, kd_34, kd_35, kd_36, kd_37, kd_38, kd_39, rt_0_0, rt_0_1, rt_0_2, rt_0_3, rt_0_4, rt_0_5, rt_1_0, rt_1_1, rt_1_2, rt_1_3, rt_1_4, rt_1_5, rt_1_6, rt_1_7, rt_1_8, rt_2_0, rt_12_0, rt_12_1, rt_18_1, rt_18_6, rt_18_7, rt_18_8, rt_18_9, rt_18_10, rt_18_11, rt_18_12, rt_18_14, rt_18_15, rt_18_16, rt_18_17, rt_18_18, rt_18_19, rt_18_20, rt_18_21, rt_18_22, rt_N7, rt_N8, ra_3, ra_15, sc_pu, Nat.reduceAdd, Int.toNat_natCast, true_and, and_true, reduceIte, forall_const, Nat.reduceLeDiff, Nat.zero_le, sc_in, sc_in6, Int.reduceLE, Int.reduceNeg, Int.reduceLT, Int.reduceEq, Nat.reduceEqDiff, ne_eq, not_false_eq_true, lk_Mo_knowing_0, lk_Mo_knowing_1, lk_Mo_knowing_4, lk_Mo_knowing_5, lk_Mo_knowing_6, lk_Mo_knowing_7, lk_Mo_knowing_8, lk_Mo_knowing_9, lk_Mo_knowing_12, lk_Mo_knowing_15, lk_Mo_knowing_16, lk_Mo_knowing_19, lk_Mo_knowing_20, lk_Mo_knowing_21, lk_Mo_knowing_24, lk_Mo_knowing_25, lk_Mo_knowing_26, lk_Mo_knowing_27, lk_Mo_knowing_28, lk_Mo_knowing_30, lk_Mo_knowing_32, lk_Mo_knowing_33, lk_Mo_knowing_36, lk_Mo_knowing_37, lk_Mo_knowing_40, lk_Mo_knowing_41, lk_Mo_knowing_42, lk_Mo_knowing_43, lk_Mo_knowing_44, lk_Mo_knowing_47, lk_Mo_knowing_48, lk_Mo_knowing_49, lk_Mo_knowing_50, lk_Mo_knowing_53, lk_Mo_knowing_54, lk_Mo_knowing_57, lk_Mo_knowing_59, lk_Mo_knowing_60, lk_Mo_knowing_61, lk_Mo_knowing_64, lk_Mo_knowing_65, lk_Mo_knowing_67, lk_Mo_knowing_68, lk_Mo_knowing_71, lk_Mo_knowing_72, lk_Mo_knowing_73, lk_Mo_knowing_74, lk_Mo_knowing_77, lk_Mo_knowing_80, lk_Mo_knowing_83, lk_Mo_knowing_86, lk_Mo_knowing_87, lk_Mo_knowing_90, lk_Mo_knowing_91, lk_Mo_knowing_92, lk_Mo_knowing_94, lk_Mo_knowing_96, lk_Mo_knowing_97, lk_Mo_knowing_100, lk_Mo_knowing_103, lk_Mo_knowing_104, lk_Mo_knowing_107, lk_Mo_knowing_109, lk_Mo_knowing_110, lk_Mo_knowing_113, lk_Mo_knowing_115, lk_Mo_knowing_116, lk_Mo_knowing_117, lk_Mo_knowing_120, lk_Mo_knowing_123, lk_Mo_knowing_124, lk_Mo_knowing_125, lk_Mo_knowing_126, lk_Mo_knowing_127, lk_Mo_knowing_128, lk_Mo_knowing_131, lk_Mo_knowing_134, e1, e2]) | with_reducible apply And.intro | with_reducible intro _
          all_goals first | exact ih3 | (exfalso; omega) | omega | grind [sc_in, sc_in6]
    have k0 := key k 0 (by omega)
    clear key ih1
    have e1 : mo_kB μ k 18 5 = N := by rw [mo_kB_ne _ _ (by decide) (by decide)]; exact hw.2.1
    have e2 : mo_kB μ k 24 k = μ 24 k := by
      unfold mo_kB mo_all
      rw [sc_arr_eq]
      simp
    rw [← mo_kB_A] at k0
    generalize mo_kB μ k = m at k0 e1 e2 ⊢
    refine sc_rp ?_
    repeat' first | (with_reducible refine sc_st1 tk_Mo_knowing ?_; simp only [sc_dz, sc_gz, sc_brn, sc_stp, sc_nth, sc_sto_0, sc_sto_1, sc_sto_s, sc_stoJ_0, sc_stoJ_1, sc_stoJ_s, sc_k1_i, sc_k1_j, sc_k1_r, sc_k1_u, sc_x1, sc_x2, sc_xv, sc_xc, sc_1i, sc_2i, sc_1j, sc_2j, sc_1r, sc_ir, sc_iir, sc_jir, sc_xr, sc_jr, sc_1v, sc_2v, sc_vI, sc_vJ, sc_vR, sc_retI, sc_call, sc_callS, sc_args, sc_psh_i, sc_psh_j, sc_psh_r, sc_psh_u, sc_cats, sc_sw, sc_cpy, sc_isJ, fv_0_0, ft_0_0, fv_0_1, ft_0_1, fv_0_2, ft_0_2, fv_1_0, ft_1_0, fv_1_1, ft_1_1, fv_1_2, ft_1_2, fv_1_3, ft_1_3, fv_2_0, ft_2_0, fv_2_1, ft_2_1, fv_2_2, ft_2_2, fv_2_3, ft_2_3, fv_2_4, ft_2_4, fv_2_5, ft_2_5, fv_2_6, ft_2_6, fv_2_7, ft_2_7, fv_2_8, ft_2_8, fv_3_0, ft_3_0, fv_3_1, ft_3_1, fv_3_2, ft_3_2, fv_3_3, ft_3_3, fv_3_4, ft_3_4, fv_3_5, ft_3_5, fv_3_6, ft_3_6, fv_3_7, ft_3_7, fv_3_8, ft_3_8, fv_3_9, ft_3_9, fv_3_10, ft_3_10, fv_3_11, ft_3_11, fv_4_0, ft_4_0, fv_4_1, ft_4_1, fv_4_2, ft_4_2, fv_4_3, ft_4_3, fv_4_4, ft_4_4, fv_4_5, ft_4_5, fv_4_6, ft_4_6, fv_4_7, ft_4_7, fv_4_8, ft_4_8, fv_4_9, ft_4_9, fv_5_0, ft_5_0, fv_5_1, ft_5_1, fv_5_2, ft_5_2, fv_5_3, ft_5_3, fv_5_4, ft_5_4, fv_5_5, ft_5_5, fv_5_6, ft_5_6, fv_5_7, ft_5_7, fv_5_8, ft_5_8, fv_5_9, ft_5_9, fv_5_10, ft_5_10, fv_5_11, ft_5_11, fv_5_12, ft_5_12, fv_5_13, ft_5_13, fv_5_14, ft_5_14, fv_5_15, ft_5_15, fv_5_16, ft_5_16, fv_5_17, ft_5_17, fv_5_18, ft_5_18, fv_5_19, ft_5_19, fv_5_20, ft_5_20, fv_5_21, ft_5_21, fv_5_22, ft_5_22, kd_0, kd_1, kd_2, kd_3, kd_4, kd_5, kd_6, kd_7, kd_8, kd_9, kd_10, kd_11, kd_12, kd_13, kd_14, kd_15, kd_16, kd_17, kd_18, kd_19, kd_20, kd_21, kd_22, kd_23, kd_24, kd_25, kd_26, kd_27, kd_28, kd_29, kd_30, kd_31, kd_32, kd_33, kd_34, kd_35, kd_36, kd_37, kd_38, kd_39, rt_0_0, rt_0_1, rt_0_2, rt_0_3, rt_0_4, rt_0_5, rt_1_0, rt_1_1, rt_1_2, rt_1_3, rt_1_4, rt_1_5, rt_1_6, rt_1_7, rt_1_8, rt_2_0, rt_12_0, rt_12_1, rt_18_1, rt_18_6, rt_18_7, rt_18_8, rt_18_9, rt_18_10, rt_18_11, rt_18_12, rt_18_14, rt_18_15, rt_18_16, rt_18_17, rt_18_18, rt_18_19, rt_18_20, rt_18_21, rt_18_22, rt_N7, rt_N8, ra_3, ra_15, sc_pu, Nat.reduceAdd, Int.toNat_natCast, true_and, and_true, reduceIte, forall_const, Nat.reduceLeDiff, Nat.zero_le, sc_in, sc_in6, Int.reduceLE, Int.reduceNeg, Int.reduceLT, Int.reduceEq, Nat.reduceEqDiff, ne_eq, not_false_eq_true, lk_Mo_knowing_0, lk_Mo_knowing_1, lk_Mo_knowing_4, lk_Mo_knowing_5, lk_Mo_knowing_6, lk_Mo_knowing_7, lk_Mo_knowing_8, lk_Mo_knowing_9, lk_Mo_knowing_12, lk_Mo_knowing_15, lk_Mo_knowing_16, lk_Mo_knowing_19, lk_Mo_knowing_20, lk_Mo_knowing_21, lk_Mo_knowing_24, lk_Mo_knowing_25, lk_Mo_knowing_26, lk_Mo_knowing_27, lk_Mo_knowing_28, lk_Mo_knowing_30, lk_Mo_knowing_32, lk_Mo_knowing_33, lk_Mo_knowing_36, lk_Mo_knowing_37, lk_Mo_knowing_40, lk_Mo_knowing_41, lk_Mo_knowing_42, lk_Mo_knowing_43, lk_Mo_knowing_44, lk_Mo_knowing_47, lk_Mo_knowing_48, lk_Mo_knowing_49, lk_Mo_knowing_50, lk_Mo_knowing_53, lk_Mo_knowing_54, lk_Mo_knowing_57, lk_Mo_knowing_59, lk_Mo_knowing_60, lk_Mo_knowing_61, lk_Mo_knowing_64, lk_Mo_knowing_65, lk_Mo_knowing_67, lk_Mo_knowing_68, lk_Mo_knowing_71, lk_Mo_knowing_72, lk_Mo_knowing_73, lk_Mo_knowing_74, lk_Mo_knowing_77, lk_Mo_knowing_80, lk_Mo_knowing_83, lk_Mo_knowing_86, lk_Mo_knowing_87, lk_Mo_knowing_90, lk_Mo_knowing_91, lk_Mo_knowing_92, lk_Mo_knowing_94, lk_Mo_knowing_96, lk_Mo_knowing_97, lk_Mo_knowing_100, lk_Mo_knowing_103, lk_Mo_knowing_104, lk_Mo_knowing_107, lk_Mo_knowing_109, lk_Mo_knowing_110, lk_Mo_knowing_113, lk_Mo_knowing_115, lk_Mo_knowing_116, lk_Mo_knowing_117, lk_Mo_knowing_120, lk_Mo_knowing_123, lk_Mo_knowing_124, lk_Mo_knowing_125, lk_Mo_knowing_126, lk_Mo_knowing_127, lk_Mo_knowing_128, lk_Mo_knowing_131, lk_Mo_knowing_134, e1, e2]) | with_reducible apply And.intro | with_reducible intro _
    all_goals first | exact k0 | (exfalso; omega) | omega | grind [sc_in, sc_in6]
def mo_kC (m : sc_M) (k : Nat) : sc_M := sc_arr m 24 (fun j => if j < k then m 32 j else m 24 j)
theorem mo_kC_0 (m : sc_M) : mo_kC m 0 = m := by
  unfold mo_kC
  rw [show (fun j => if j < 0 then m 32 j else m 24 j) = m 24 from funext fun j => if_neg (by omega), sc_arr_self]
theorem mo_kC_up (m : sc_M) (k : Nat) : sc_up (mo_kC m k) 24 k (m 32 k) = mo_kC m (k + 1) := by
  unfold mo_kC
  rw [sc_up_in_arr]
  congr 1
  funext j
  by_cases h3 : j = k
  · subst h3; simp
  · by_cases h4 : j < k
    · simp [h3, h4, Nat.lt_succ_of_lt h4]
    · simp [h3, h4, show ¬ j < k + 1 by omega]
/-- all but the reference's scratch -/
def mo_kq (μ μ' : sc_M) : Prop := ∀ b, b < 27 ∨ b = 33 ∨ b = 34 ∨ 36 ≤ b → μ' b = μ b
theorem mo_kq_sm {μ μ' : sc_M} (h : mo_kq μ μ') : mo_sm μ μ' := fun b hb => h b (by omega)
theorem mo_kq_kp {μ μ' : sc_M} (h : mo_kp μ μ') : mo_kq μ μ' := fun b hb => h b (by omega)
theorem mo_kq_up {μ m : sc_M} (h : mo_kq μ m) (a k : Nat) (v : Int) : mo_kq (sc_up μ a k v) (sc_up m a k v) := fun b hb => by
  funext j
  simp only [sc_up, h b hb]
theorem mo_kq_tel {μ m : sc_M} (h : mo_kq μ m) (u l : Int) : mo_kq (mo_tel μ u l) (mo_tel m u l) := mo_kq_up (mo_kq_up h _ _ _) _ _ _
set_option maxRecDepth 100000 in
set_option maxHeartbeats 4000000 in
theorem sp_Mo_knowing (l : Launch) (G : sc_G) (d : Nat) (μ : sc_M) (N : Nat) (hw : mo_w μ N) (hsc : mo_sc μ) (W9 : Nat) (hW : mo_sd (μ 20) (μ 21) N = W9) : sc_Sp l G (d + 5) mq_Mo_knowing [.inr (.inr (.inl (18)))] μ (fun r μ' => r = .inl (1) ∧ mo_kq (mo_tel μ (md_best (sc_arr μ 24 (mo_all μ N)) N W9 - md_best μ N W9) (mo_aw (μ 20) (μ 18 13) N)) μ' ∧ mo_sc μ') := by
  have hN1 := hw.1
  have hN := hw.2.1
  have hWb : W9 ≤ 243 := by have := hw.2.2.2.1; omega
  have h0 := sp_Mo_bestSum l G d μ N hw hsc W9 hW
  have hb : -15045919506432000 ≤ md_best μ N W9 ∧ md_best μ N W9 ≤ 15045919506432000 := md_tot_le hw hWb _ _
  have hV : ∀ n, n < N → 0 ≤ mo_all μ N n ∧ mo_all μ N n < 1024 := fun n hn => by
    unfold mo_all
    rw [if_pos hn]
    exact mo_kw_lt _ _ n (hw.2.2.1 n hn).2.2.2.2.2.1 n (by omega)
  have hb2 : -15045919506432000 ≤ md_best (sc_arr μ 24 (mo_all μ N)) N W9 ∧ md_best (sc_arr μ 24 (mo_all μ N)) N W9 ≤ 15045919506432000 := md_tot_le (mo_w_24 hw _ hV) hWb _ _
  have ha := mo_aw_10 (μ 20) (μ 18 13) hw.1
  generalize md_best μ N W9 = b1 at h0 hb ⊢
  refine sc_enter cm_Mo_knowing (plainFor_of_name (by decide)) [.inr (.inr (.inl (18))), .inr (.inr (.inr ())), .inr (.inr (.inr ())), .inr (.inr (.inr ())), .inr (.inr (.inr ())), .inr (.inr (.inr ()))] rfl rfl ?_
  refine sc_rp ?_
  repeat' first | (with_reducible refine sc_st1 tk_Mo_knowing ?_; simp only [sc_dz, sc_gz, sc_brn, sc_stp, sc_nth, sc_sto_0, sc_sto_1, sc_sto_s, sc_stoJ_0, sc_stoJ_1, sc_stoJ_s, sc_k1_i, sc_k1_j, sc_k1_r, sc_k1_u, sc_x1, sc_x2, sc_xv, sc_xc, sc_1i, sc_2i, sc_1j, sc_2j, sc_1r, sc_ir, sc_iir, sc_jir, sc_xr, sc_jr, sc_1v, sc_2v, sc_vI, sc_vJ, sc_vR, sc_retI, sc_call, sc_callS, sc_args, sc_psh_i, sc_psh_j, sc_psh_r, sc_psh_u, sc_cats, sc_sw, sc_cpy, sc_isJ, fv_0_0, ft_0_0, fv_0_1, ft_0_1, fv_0_2, ft_0_2, fv_1_0, ft_1_0, fv_1_1, ft_1_1, fv_1_2, ft_1_2, fv_1_3, ft_1_3, fv_2_0, ft_2_0, fv_2_1, ft_2_1, fv_2_2, ft_2_2, fv_2_3, ft_2_3, fv_2_4, ft_2_4, fv_2_5, ft_2_5, fv_2_6, ft_2_6, fv_2_7, ft_2_7, fv_2_8, ft_2_8, fv_3_0, ft_3_0, fv_3_1, ft_3_1, fv_3_2, ft_3_2, fv_3_3, ft_3_3, fv_3_4, ft_3_4, fv_3_5, ft_3_5, fv_3_6, ft_3_6, fv_3_7, ft_3_7, fv_3_8, ft_3_8, fv_3_9, ft_3_9, fv_3_10, ft_3_10, fv_3_11, ft_3_11, fv_4_0, ft_4_0, fv_4_1, ft_4_1, fv_4_2, ft_4_2, fv_4_3, ft_4_3, fv_4_4, ft_4_4, fv_4_5, ft_4_5, fv_4_6, ft_4_6, fv_4_7, ft_4_7, fv_4_8, ft_4_8, fv_4_9, ft_4_9, fv_5_0, ft_5_0, fv_5_1, ft_5_1, fv_5_2, ft_5_2, fv_5_3, ft_5_3, fv_5_4, ft_5_4, fv_5_5, ft_5_5, fv_5_6, ft_5_6, fv_5_7, ft_5_7, fv_5_8, ft_5_8, fv_5_9, ft_5_9, fv_5_10, ft_5_10, fv_5_11, ft_5_11, fv_5_12, ft_5_12, fv_5_13, ft_5_13, fv_5_14, ft_5_14, fv_5_15, ft_5_15, fv_5_16, ft_5_16, fv_5_17, ft_5_17, fv_5_18, ft_5_18, fv_5_19, ft_5_19, fv_5_20, ft_5_20, fv_5_21, ft_5_21, fv_5_22, ft_5_22, kd_0, kd_1, kd_2, kd_3, kd_4, kd_5, kd_6, kd_7, kd_8, kd_9, kd_10, kd_11, kd_12, kd_13, kd_14, kd_15, kd_16, kd_17, kd_18, kd_19, kd_20, kd_21, kd_22, kd_23, kd_24, kd_25, kd_26, kd_27, kd_28, kd_29, kd_30, kd_31, kd_32, kd_33, kd_34, kd_35, kd_36, kd_37, kd_38, kd_39, rt_0_0, rt_0_1, rt_0_2, rt_0_3, rt_0_4, rt_0_5, rt_1_0, rt_1_1, rt_1_2, rt_1_3, rt_1_4, rt_1_5, rt_1_6, rt_1_7, rt_1_8, rt_2_0, rt_12_0, rt_12_1, rt_18_1, rt_18_6, rt_18_7, rt_18_8, rt_18_9, rt_18_10, rt_18_11, rt_18_12, rt_18_14, rt_18_15, rt_18_16, rt_18_17, rt_18_18, rt_18_19, rt_18_20, rt_18_21, rt_18_22, rt_N7, rt_N8, ra_3, ra_15, sc_pu, Nat.reduceAdd, Int.toNat_natCast, true_and, and_true, reduceIte, forall_const, Nat.reduceLeDiff, Nat.zero_le, sc_in, sc_in6, Int.reduceLE, Int.reduceNeg, Int.reduceLT, Int.reduceEq, Nat.reduceEqDiff, ne_eq, not_false_eq_true, lk_Mo_knowing_0, lk_Mo_knowing_1, lk_Mo_knowing_4, lk_Mo_knowing_5, lk_Mo_knowing_6, lk_Mo_knowing_7, lk_Mo_knowing_8, lk_Mo_knowing_9, lk_Mo_knowing_12, lk_Mo_knowing_15, lk_Mo_knowing_16, lk_Mo_knowing_19, lk_Mo_knowing_20, lk_Mo_knowing_21, lk_Mo_knowing_24, lk_Mo_knowing_25, lk_Mo_knowing_26, lk_Mo_knowing_27, lk_Mo_knowing_28, lk_Mo_knowing_30, lk_Mo_knowing_32, lk_Mo_knowing_33, lk_Mo_knowing_36, lk_Mo_knowing_37, lk_Mo_knowing_40, lk_Mo_knowing_41, lk_Mo_knowing_42, lk_Mo_knowing_43, lk_Mo_knowing_44, lk_Mo_knowing_47, lk_Mo_knowing_48, lk_Mo_knowing_49, lk_Mo_knowing_50, lk_Mo_knowing_53, lk_Mo_knowing_54, lk_Mo_knowing_57, lk_Mo_knowing_59, lk_Mo_knowing_60, lk_Mo_knowing_61, lk_Mo_knowing_64, lk_Mo_knowing_65, lk_Mo_knowing_67, lk_Mo_knowing_68, lk_Mo_knowing_71, lk_Mo_knowing_72, lk_Mo_knowing_73, lk_Mo_knowing_74, lk_Mo_knowing_77, lk_Mo_knowing_80, lk_Mo_knowing_83, lk_Mo_knowing_86, lk_Mo_knowing_87, lk_Mo_knowing_90, lk_Mo_knowing_91, lk_Mo_knowing_92, lk_Mo_knowing_94, lk_Mo_knowing_96, lk_Mo_knowing_97, lk_Mo_knowing_100, lk_Mo_knowing_103, lk_Mo_knowing_104, lk_Mo_knowing_107, lk_Mo_knowing_109, lk_Mo_knowing_110, lk_Mo_knowing_113, lk_Mo_knowing_115, lk_Mo_knowing_116, lk_Mo_knowing_117, lk_Mo_knowing_120, lk_Mo_knowing_123, lk_Mo_knowing_124, lk_Mo_knowing_125, lk_Mo_knowing_126, lk_Mo_knowing_127, lk_Mo_knowing_128, lk_Mo_knowing_131, lk_Mo_knowing_134]) | with_reducible apply And.intro | with_reducible intro _
  refine ⟨_, h0, ?_⟩
  rintro _ m ⟨rfl, k1, k2⟩
  have hs := mo_kp_sm k1
  have hwm := mo_sm_w hs hw
  have eall : mo_all m N = mo_all μ N := by unfold mo_all; rw [hs 20 (by omega), hs 24 (by omega)]
  have hs3 : mo_sm (sc_arr μ 24 (mo_all μ N)) (mo_kB m N) := fun b hb => by
    by_cases h4 : b = 24
    · subst h4
      unfold mo_kB
      rw [sc_arr_eq, sc_arr_eq, eall]
    · rw [mo_kB_ne _ _ h4 (by omega), sc_arr_ne _ _ h4, hs b hb]
  have hw3 : mo_w (mo_kB m N) N := mo_sm_w hs3 (mo_w_24 hw _ hV)
  have hsc3 : mo_sc (mo_kB m N) := by
    unfold mo_sc
    rw [mo_kB_ne _ _ (by decide) (by decide), mo_kB_ne _ _ (by decide) (by decide), mo_kB_ne _ _ (by decide) (by decide)]
    exact k2
  have h2 := sp_Mo_bestSum l G d (mo_kB m N) N hw3 hsc3 W9 (by rw [mo_kB_ne _ _ (by decide) (by decide), mo_kB_ne _ _ (by decide) (by decide), hs 20 (by omega), hs 21 (by omega)]; exact hW)
  rw [md_best_sm hs3] at h2
  generalize md_best (sc_arr μ 24 (mo_all μ N)) N W9 = b2 at h2 hb2 ⊢
  have hend : ∀ v4 v5, sc_Wp l G (d + 5) mq_Mo_knowing 7 [.inr (.inr (.inl (18))), .inr (.inl (b1)), .inr (.inr (.inr ())), .inl ((N : Int)), v4, v5] [] (mo_kB m N) (fun r μ' => r = .inl (1) ∧ mo_kq (mo_tel μ (b2 - b1) (mo_aw (μ 20) (μ 18 13) N)) μ' ∧ mo_sc μ') := by
    intro v4 v5
    have e5 : mo_kB m N 18 5 = N := by rw [mo_kB_ne _ _ (by decide) (by decide)]; exact hwm.2.1
    refine sc_rp ?_
    repeat' first | (with_reducible refine sc_st1 tk_Mo_knowing ?_; simp only [sc_dz, sc_gz, sc_brn, sc_stp, sc_nth, sc_sto_0, sc_sto_1, sc_sto_s, sc_stoJ_0, sc_stoJ_1, sc_stoJ_s, sc_k1_i, sc_k1_j, sc_k1_r, sc_k1_u, sc_x1, sc_x2, sc_xv, sc_xc, sc_1i, sc_2i, sc_1j, sc_2j, sc_1r, sc_ir, sc_iir, sc_jir, sc_xr, sc_jr, sc_1v, sc_2v, sc_vI, sc_vJ, sc_vR, sc_retI, sc_call, sc_callS, sc_args, sc_psh_i, sc_psh_j, sc_psh_r, sc_psh_u, sc_cats, sc_sw, sc_cpy, sc_isJ, fv_0_0, ft_0_0, fv_0_1, ft_0_1, fv_0_2, ft_0_2, fv_1_0, ft_1_0, fv_1_1, ft_1_1, fv_1_2, ft_1_2, fv_1_3, ft_1_3, fv_2_0, ft_2_0, fv_2_1, ft_2_1, fv_2_2, ft_2_2, fv_2_3, ft_2_3, fv_2_4, ft_2_4, fv_2_5, ft_2_5, fv_2_6, ft_2_6, fv_2_7, ft_2_7, fv_2_8, ft_2_8, fv_3_0, ft_3_0, fv_3_1, ft_3_1, fv_3_2, ft_3_2, fv_3_3, ft_3_3, fv_3_4, ft_3_4, fv_3_5, ft_3_5, fv_3_6, ft_3_6, fv_3_7, ft_3_7, fv_3_8, ft_3_8, fv_3_9, ft_3_9, fv_3_10, ft_3_10, fv_3_11, ft_3_11, fv_4_0, ft_4_0, fv_4_1, ft_4_1, fv_4_2, ft_4_2, fv_4_3, ft_4_3, fv_4_4, ft_4_4, fv_4_5, ft_4_5, fv_4_6, ft_4_6, fv_4_7, ft_4_7, fv_4_8, ft_4_8, fv_4_9, ft_4_9, fv_5_0, ft_5_0, fv_5_1, ft_5_1, fv_5_2, ft_5_2, fv_5_3, ft_5_3, fv_5_4, ft_5_4, fv_5_5, ft_5_5, fv_5_6, ft_5_6, fv_5_7, ft_5_7, fv_5_8, ft_5_8, fv_5_9, ft_5_9, fv_5_10, ft_5_10, fv_5_11, ft_5_11, fv_5_12, ft_5_12, fv_5_13, ft_5_13, fv_5_14, ft_5_14, fv_5_15, ft_5_15, fv_5_16, ft_5_16, fv_5_17, ft_5_17, fv_5_18, ft_5_18, fv_5_19, ft_5_19, fv_5_20, ft_5_20, fv_5_21, ft_5_21, fv_5_22, ft_5_22, kd_0, kd_1, kd_2, kd_3, kd_4, kd_5, kd_6, kd_7, kd_8, kd_9, kd_10, kd_11, kd_12, kd_13, kd_14, kd_15, kd_16, kd_17, kd_18, kd_19, kd_20, kd_21, kd_22, kd_23, kd_24, kd_25, kd_26, kd_27, kd_28, kd_29, kd_30, kd_31, kd_32, kd_33, kd_34, kd_35, kd_36, kd_37, kd_38, kd_39, rt_0_0, rt_0_1, rt_0_2, rt_0_3, rt_0_4, rt_0_5, rt_1_0, rt_1_1, rt_1_2, rt_1_3, rt_1_4, rt_1_5, rt_1_6, rt_1_7, rt_1_8, rt_2_0, rt_12_0, rt_12_1, rt_18_1, rt_18_6, rt_18_7, rt_18_8, rt_18_9, rt_18_10, rt_18_11, rt_18_12, rt_18_14, rt_18_15, rt_18_16, rt_18_17, rt_18_18, rt_18_19, rt_18_20, rt_18_21, rt_18_22, rt_N7, rt_N8, ra_3, ra_15, sc_pu, Nat.reduceAdd, Int.toNat_natCast, true_and, and_true, reduceIte, forall_const, Nat.reduceLeDiff, Nat.zero_le, sc_in, sc_in6, Int.reduceLE, Int.reduceNeg, Int.reduceLT, Int.reduceEq, Nat.reduceEqDiff, ne_eq, not_false_eq_true, lk_Mo_knowing_0, lk_Mo_knowing_1, lk_Mo_knowing_4, lk_Mo_knowing_5, lk_Mo_knowing_6, lk_Mo_knowing_7, lk_Mo_knowing_8, lk_Mo_knowing_9, lk_Mo_knowing_12, lk_Mo_knowing_15, lk_Mo_knowing_16, lk_Mo_knowing_19, lk_Mo_knowing_20, lk_Mo_knowing_21, lk_Mo_knowing_24, lk_Mo_knowing_25, lk_Mo_knowing_26, lk_Mo_knowing_27, lk_Mo_knowing_28, lk_Mo_knowing_30, lk_Mo_knowing_32, lk_Mo_knowing_33, lk_Mo_knowing_36, lk_Mo_knowing_37, lk_Mo_knowing_40, lk_Mo_knowing_41, lk_Mo_knowing_42, lk_Mo_knowing_43, lk_Mo_knowing_44, lk_Mo_knowing_47, lk_Mo_knowing_48, lk_Mo_knowing_49, lk_Mo_knowing_50, lk_Mo_knowing_53, lk_Mo_knowing_54, lk_Mo_knowing_57, lk_Mo_knowing_59, lk_Mo_knowing_60, lk_Mo_knowing_61, lk_Mo_knowing_64, lk_Mo_knowing_65, lk_Mo_knowing_67, lk_Mo_knowing_68, lk_Mo_knowing_71, lk_Mo_knowing_72, lk_Mo_knowing_73, lk_Mo_knowing_74, lk_Mo_knowing_77, lk_Mo_knowing_80, lk_Mo_knowing_83, lk_Mo_knowing_86, lk_Mo_knowing_87, lk_Mo_knowing_90, lk_Mo_knowing_91, lk_Mo_knowing_92, lk_Mo_knowing_94, lk_Mo_knowing_96, lk_Mo_knowing_97, lk_Mo_knowing_100, lk_Mo_knowing_103, lk_Mo_knowing_104, lk_Mo_knowing_107, lk_Mo_knowing_109, lk_Mo_knowing_110, lk_Mo_knowing_113, lk_Mo_knowing_115, lk_Mo_knowing_116, lk_Mo_knowing_117, lk_Mo_knowing_120, lk_Mo_knowing_123, lk_Mo_knowing_124, lk_Mo_knowing_125, lk_Mo_knowing_126, lk_Mo_knowing_127, lk_Mo_knowing_128, lk_Mo_knowing_131, lk_Mo_knowing_134, e5]) | with_reducible apply And.intro | with_reducible intro _
    all_goals try (first | omega | (exfalso; first | omega | (rename_i h; exact h trivial) | contradiction))
    refine ⟨_, h2, ?_⟩
    rintro _ m3 ⟨rfl, k4, k5⟩
    repeat' first | (with_reducible refine sc_st1 tk_Mo_knowing ?_; simp only [sc_dz, sc_gz, sc_brn, sc_stp, sc_nth, sc_sto_0, sc_sto_1, sc_sto_s, sc_stoJ_0, sc_stoJ_1, sc_stoJ_s, sc_k1_i, sc_k1_j, sc_k1_r, sc_k1_u, sc_x1, sc_x2, sc_xv, sc_xc, sc_1i, sc_2i, sc_1j, sc_2j, sc_1r, sc_ir, sc_iir, sc_jir, sc_xr, sc_jr, sc_1v, sc_2v, sc_vI, sc_vJ, sc_vR, sc_retI, sc_call, sc_callS, sc_args, sc_psh_i, sc_psh_j, sc_psh_r, sc_psh_u, sc_cats, sc_sw, sc_cpy, sc_isJ, fv_0_0, ft_0_0, fv_0_1, ft_0_1, fv_0_2, ft_0_2, fv_1_0, ft_1_0, fv_1_1, ft_1_1, fv_1_2, ft_1_2, fv_1_3, ft_1_3, fv_2_0, ft_2_0, fv_2_1, ft_2_1, fv_2_2, ft_2_2, fv_2_3, ft_2_3, fv_2_4, ft_2_4, fv_2_5, ft_2_5, fv_2_6, ft_2_6, fv_2_7, ft_2_7, fv_2_8, ft_2_8, fv_3_0, ft_3_0, fv_3_1, ft_3_1, fv_3_2, ft_3_2, fv_3_3, ft_3_3, fv_3_4, ft_3_4, fv_3_5, ft_3_5, fv_3_6, ft_3_6, fv_3_7, ft_3_7, fv_3_8, ft_3_8, fv_3_9, ft_3_9, fv_3_10, ft_3_10, fv_3_11, ft_3_11, fv_4_0, ft_4_0, fv_4_1, ft_4_1, fv_4_2, ft_4_2, fv_4_3, ft_4_3, fv_4_4, ft_4_4, fv_4_5, ft_4_5, fv_4_6, ft_4_6, fv_4_7, ft_4_7, fv_4_8, ft_4_8, fv_4_9, ft_4_9, fv_5_0, ft_5_0, fv_5_1, ft_5_1, fv_5_2, ft_5_2, fv_5_3, ft_5_3, fv_5_4, ft_5_4, fv_5_5, ft_5_5, fv_5_6, ft_5_6, fv_5_7, ft_5_7, fv_5_8, ft_5_8, fv_5_9, ft_5_9, fv_5_10, ft_5_10, fv_5_11, ft_5_11, fv_5_12, ft_5_12, fv_5_13, ft_5_13, fv_5_14, ft_5_14, fv_5_15, ft_5_15, fv_5_16, ft_5_16, fv_5_17, ft_5_17, fv_5_18, ft_5_18, fv_5_19, ft_5_19, fv_5_20, ft_5_20, fv_5_21, ft_5_21, fv_5_22, ft_5_22, kd_0, kd_1, kd_2, kd_3, kd_4, kd_5, kd_6, kd_7, kd_8, kd_9, kd_10, kd_11, kd_12, kd_13, kd_14, kd_15, kd_16, kd_17, kd_18, kd_19, kd_20, kd_21, kd_22, kd_23, kd_24, kd_25, kd_26, kd_27, kd_28, kd_29, kd_30, kd_31, kd_32, kd_33, kd_34, kd_35, kd_36, kd_37, kd_38, kd_39, rt_0_0, rt_0_1, rt_0_2, rt_0_3, rt_0_4, rt_0_5, rt_1_0, rt_1_1, rt_1_2, rt_1_3, rt_1_4, rt_1_5, rt_1_6, rt_1_7, rt_1_8, rt_2_0, rt_12_0, rt_12_1, rt_18_1, rt_18_6, rt_18_7, rt_18_8, rt_18_9, rt_18_10, rt_18_11, rt_18_12, rt_18_14, rt_18_15, rt_18_16, rt_18_17, rt_18_18, rt_18_19, rt_18_20, rt_18_21, rt_18_22, rt_N7, rt_N8, ra_3, ra_15, sc_pu, Nat.reduceAdd, Int.toNat_natCast, true_and, and_true, reduceIte, forall_const, Nat.reduceLeDiff, Nat.zero_le, sc_in, sc_in6, Int.reduceLE, Int.reduceNeg, Int.reduceLT, Int.reduceEq, Nat.reduceEqDiff, ne_eq, not_false_eq_true, lk_Mo_knowing_0, lk_Mo_knowing_1, lk_Mo_knowing_4, lk_Mo_knowing_5, lk_Mo_knowing_6, lk_Mo_knowing_7, lk_Mo_knowing_8, lk_Mo_knowing_9, lk_Mo_knowing_12, lk_Mo_knowing_15, lk_Mo_knowing_16, lk_Mo_knowing_19, lk_Mo_knowing_20, lk_Mo_knowing_21, lk_Mo_knowing_24, lk_Mo_knowing_25, lk_Mo_knowing_26, lk_Mo_knowing_27, lk_Mo_knowing_28, lk_Mo_knowing_30, lk_Mo_knowing_32, lk_Mo_knowing_33, lk_Mo_knowing_36, lk_Mo_knowing_37, lk_Mo_knowing_40, lk_Mo_knowing_41, lk_Mo_knowing_42, lk_Mo_knowing_43, lk_Mo_knowing_44, lk_Mo_knowing_47, lk_Mo_knowing_48, lk_Mo_knowing_49, lk_Mo_knowing_50, lk_Mo_knowing_53, lk_Mo_knowing_54, lk_Mo_knowing_57, lk_Mo_knowing_59, lk_Mo_knowing_60, lk_Mo_knowing_61, lk_Mo_knowing_64, lk_Mo_knowing_65, lk_Mo_knowing_67, lk_Mo_knowing_68, lk_Mo_knowing_71, lk_Mo_knowing_72, lk_Mo_knowing_73, lk_Mo_knowing_74, lk_Mo_knowing_77, lk_Mo_knowing_80, lk_Mo_knowing_83, lk_Mo_knowing_86, lk_Mo_knowing_87, lk_Mo_knowing_90, lk_Mo_knowing_91, lk_Mo_knowing_92, lk_Mo_knowing_94, lk_Mo_knowing_96, lk_Mo_knowing_97, lk_Mo_knowing_100, lk_Mo_knowing_103, lk_Mo_knowing_104, lk_Mo_knowing_107, lk_Mo_knowing_109, lk_Mo_knowing_110, lk_Mo_knowing_113, lk_Mo_knowing_115, lk_Mo_knowing_116, lk_Mo_knowing_117, lk_Mo_knowing_120, lk_Mo_knowing_123, lk_Mo_knowing_124, lk_Mo_knowing_125, lk_Mo_knowing_126, lk_Mo_knowing_127, lk_Mo_knowing_128, lk_Mo_knowing_131, lk_Mo_knowing_134]) | with_reducible apply And.intro | with_reducible intro _
    have e18 : m3 18 5 = N := by rw [k4 18 (by omega), e5]
    have e32 : ∀ j, j < N → m3 32 j = μ 24 j := fun j hj => by
      rw [k4 32 (by omega)]
      unfold mo_kB
      rw [sc_arr_ne _ _ (by decide), sc_arr_eq, hs 24 (by omega)]
      exact if_pos hj
    have k6 : mo_kq μ (mo_kC m3 N) := fun b hb => by
      by_cases h4 : b = 24
      · subst h4
        unfold mo_kC
        rw [sc_arr_eq]
        funext j
        by_cases hj : j < N
        · rw [if_pos hj, e32 j hj]
        · rw [if_neg hj, k4 24 (by omega)]
          unfold mo_kB mo_all
          rw [sc_arr_eq, if_neg hj, hs 24 (by omega)]
      · unfold mo_kC
        rw [sc_arr_ne _ _ h4, k4 b (by omega), mo_kB_ne _ _ h4 (by omega), k1 b (by omega)]
    have k7 : mo_sc (mo_kC m3 N) := by
      unfold mo_sc mo_kC
      rw [sc_arr_ne _ _ (by decide), sc_arr_ne _ _ (by decide), sc_arr_ne _ _ (by decide)]
      exact k5
    have hs6 := mo_kq_sm k6
    have h3 := sp_Mo_allWeights l G (d + 4) (mo_kC m3 N) N (mo_sm_w hs6 hw)
    rw [hs6 20 (by omega), hs6 18 (by omega)] at h3
    generalize mo_aw (μ 20) (μ 18 13) N = aw at h3 ha ⊢
    have h5 := sp_Mo_tell1 l G (d + 4) (mo_kC m3 N) (b2 - b1) aw (by omega) ha
    have q1 := mo_kq_tel k6 (b2 - b1) aw
    have q2 := mo_sc_tel k7 (b2 - b1) aw
    have e18c : ∀ k, mo_kC m3 k 18 5 = N := fun k => by unfold mo_kC; rw [sc_arr_ne _ _ (by decide)]; exact e18
    have e32c : ∀ k, mo_kC m3 k 32 = m3 32 := fun k => by unfold mo_kC; rw [sc_arr_ne _ _ (by decide)]
    have h9 := sc_for (l := l) (G := G) (d := d + 5) (y := mq_Mo_knowing) (pc := 94) (Post := fun r μ' => r = .inl (1) ∧ mo_kq (mo_tel μ (b2 - b1) aw) μ' ∧ mo_sc μ') (fun k => [.inr (.inr (.inl (18))), .inr (.inl (b1)), .inr (.inr (.inr ())), .inr (.inl (b2)), .inr (.inr (.inr ())), .inl ((k : Int))]) (fun k => mo_kC m3 k) N ?_ ?_ 0 (Nat.zero_le _)
    · rw [mo_kC_0] at h9
      exact h9
    · have e18c := e18c N
      generalize mo_tel (mo_kC m3 N) (b2 - b1) aw = m9 at h5 q1 q2
      generalize mo_kC m3 N = m8 at h3 h5 e18c ⊢
      refine sc_rp ?_
      repeat' first | (with_reducible refine sc_st1 tk_Mo_knowing ?_; simp only [sc_dz, sc_gz, sc_brn, sc_stp, sc_nth, sc_sto_0, sc_sto_1, sc_sto_s, sc_stoJ_0, sc_stoJ_1, sc_stoJ_s, sc_k1_i, sc_k1_j, sc_k1_r, sc_k1_u, sc_x1, sc_x2, sc_xv, sc_xc, sc_1i, sc_2i, sc_1j, sc_2j, sc_1r, sc_ir, sc_iir, sc_jir, sc_xr, sc_jr, sc_1v, sc_2v, sc_vI, sc_vJ, sc_vR, sc_retI, sc_call, sc_callS, sc_args, sc_psh_i, sc_psh_j, sc_psh_r, sc_psh_u, sc_cats, sc_sw, sc_cpy, sc_isJ, fv_0_0, ft_0_0, fv_0_1, ft_0_1, fv_0_2, ft_0_2, fv_1_0, ft_1_0, fv_1_1, ft_1_1, fv_1_2, ft_1_2, fv_1_3, ft_1_3, fv_2_0, ft_2_0, fv_2_1, ft_2_1, fv_2_2, ft_2_2, fv_2_3, ft_2_3, fv_2_4, ft_2_4, fv_2_5, ft_2_5, fv_2_6, ft_2_6, fv_2_7, ft_2_7, fv_2_8, ft_2_8, fv_3_0, ft_3_0, fv_3_1, ft_3_1, fv_3_2, ft_3_2, fv_3_3, ft_3_3, fv_3_4, ft_3_4, fv_3_5, ft_3_5, fv_3_6, ft_3_6, fv_3_7, ft_3_7, fv_3_8, ft_3_8, fv_3_9, ft_3_9, fv_3_10, ft_3_10, fv_3_11, ft_3_11, fv_4_0, ft_4_0, fv_4_1, ft_4_1, fv_4_2, ft_4_2, fv_4_3, ft_4_3, fv_4_4, ft_4_4, fv_4_5, ft_4_5, fv_4_6, ft_4_6, fv_4_7, ft_4_7, fv_4_8, ft_4_8, fv_4_9, ft_4_9, fv_5_0, ft_5_0, fv_5_1, ft_5_1, fv_5_2, ft_5_2, fv_5_3, ft_5_3, fv_5_4, ft_5_4, fv_5_5, ft_5_5, fv_5_6, ft_5_6, fv_5_7, ft_5_7, fv_5_8, ft_5_8, fv_5_9, ft_5_9, fv_5_10, ft_5_10, fv_5_11, ft_5_11, fv_5_12, ft_5_12, fv_5_13, ft_5_13, fv_5_14, ft_5_14, fv_5_15, ft_5_15, fv_5_16, ft_5_16, fv_5_17, ft_5_17, fv_5_18, ft_5_18, fv_5_19, ft_5_19, fv_5_20, ft_5_20, fv_5_21, ft_5_21, fv_5_22, ft_5_22, kd_0, kd_1, kd_2, kd_3, kd_4, kd_5, kd_6, kd_7, kd_8, kd_9, kd_10, kd_11, kd_12, kd_13, kd_14, kd_15, kd_16, kd_17, kd_18, kd_19, kd_20, kd_21, kd_22, kd_23, kd_24, kd_25, kd_26, kd_27, kd_28, kd_29, kd_30, kd_31, kd_32, kd_33, kd_34, kd_35, kd_36, kd_37, kd_38, kd_39, rt_0_0, rt_0_1, rt_0_2, rt_0_3, rt_0_4, rt_0_5, rt_1_0, rt_1_1, rt_1_2, rt_1_3, rt_1_4, rt_1_5, rt_1_6, rt_1_7, rt_1_8, rt_2_0, rt_12_0, rt_12_1, rt_18_1, rt_18_6, rt_18_7, rt_18_8, rt_18_9, rt_18_10, rt_18_11, rt_18_12, rt_18_14, rt_18_15, rt_18_16, rt_18_17, rt_18_18, rt_18_19, rt_18_20, rt_18_21, rt_18_22, rt_N7, rt_N8, ra_3, ra_15, sc_pu, Nat.reduceAdd, Int.toNat_natCast, true_and, and_true, reduceIte, forall_const, Nat.reduceLeDiff, Nat.zero_le, sc_in, sc_in6, Int.reduceLE, Int.reduceNeg, Int.reduceLT, Int.reduceEq, Nat.reduceEqDiff, ne_eq, not_false_eq_true, lk_Mo_knowing_0, lk_Mo_knowing_1, lk_Mo_knowing_4, lk_Mo_knowing_5, lk_Mo_knowing_6, lk_Mo_knowing_7, lk_Mo_knowing_8, lk_Mo_knowing_9, lk_Mo_knowing_12, lk_Mo_knowing_15, lk_Mo_knowing_16, lk_Mo_knowing_19, lk_Mo_knowing_20, lk_Mo_knowing_21, lk_Mo_knowing_24, lk_Mo_knowing_25, lk_Mo_knowing_26, lk_Mo_knowing_27, lk_Mo_knowing_28, lk_Mo_knowing_30, lk_Mo_knowing_32, lk_Mo_knowing_33, lk_Mo_knowing_36, lk_Mo_knowing_37, lk_Mo_knowing_40, lk_Mo_knowing_41, lk_Mo_knowing_42, lk_Mo_knowing_43, lk_Mo_knowing_44, lk_Mo_knowing_47, lk_Mo_knowing_48, lk_Mo_knowing_49, lk_Mo_knowing_50, lk_Mo_knowing_53, lk_Mo_knowing_54, lk_Mo_knowing_57, lk_Mo_knowing_59, lk_Mo_knowing_60, lk_Mo_knowing_61, lk_Mo_knowing_64, lk_Mo_knowing_65, lk_Mo_knowing_67, lk_Mo_knowing_68, lk_Mo_knowing_71, lk_Mo_knowing_72, lk_Mo_knowing_73, lk_Mo_knowing_74, lk_Mo_knowing_77, lk_Mo_knowing_80, lk_Mo_knowing_83, lk_Mo_knowing_86, lk_Mo_knowing_87, lk_Mo_knowing_90, lk_Mo_knowing_91, lk_Mo_knowing_92, lk_Mo_knowing_94, lk_Mo_knowing_96, lk_Mo_knowing_97, lk_Mo_knowing_100, lk_Mo_knowing_103, lk_Mo_knowing_104, lk_Mo_knowing_107, lk_Mo_knowing_109, lk_Mo_knowing_110, lk_Mo_knowing_113, lk_Mo_knowing_115, lk_Mo_knowing_116, lk_Mo_knowing_117, lk_Mo_knowing_120, lk_Mo_knowing_123, lk_Mo_knowing_124, lk_Mo_knowing_125, lk_Mo_knowing_126, lk_Mo_knowing_127, lk_Mo_knowing_128, lk_Mo_knowing_131, lk_Mo_knowing_134, e18c]) | with_reducible apply And.intro | with_reducible intro _ | (refine ⟨_, h3, ?_⟩; rintro _ _ ⟨rfl, rfl⟩) | (refine ⟨_, h5, ?_⟩; rintro _ _ ⟨rfl, rfl⟩)
      all_goals first | rfl | exact q1 | exact q2 | omega | (exfalso; omega)
    · intro k hk ih
      rw [sc_cast1, ← mo_kC_up] at ih
      have e18c := e18c k
      have e32c := e32c k
      generalize mo_kC m3 k = m8 at ih e18c e32c ⊢
      refine sc_rp ?_
      repeat' first | (with_reducible refine sc_st1 tk_Mo_knowing ?_; simp only [sc_dz, sc_gz, sc_brn, sc_stp, sc_nth, sc_sto_0, sc_sto_1, sc_sto_s, sc_stoJ_0, sc_stoJ_1, sc_stoJ_s, sc_k1_i, sc_k1_j, sc_k1_r, sc_k1_u, sc_x1, sc_x2, sc_xv, sc_xc, sc_1i, sc_2i, sc_1j, sc_2j, sc_1r, sc_ir, sc_iir, sc_jir, sc_xr, sc_jr, sc_1v, sc_2v, sc_vI, sc_vJ, sc_vR, sc_retI, sc_call, sc_callS, sc_args, sc_psh_i, sc_psh_j, sc_psh_r, sc_psh_u, sc_cats, sc_sw, sc_cpy, sc_isJ, fv_0_0, ft_0_0, fv_0_1, ft_0_1, fv_0_2, ft_0_2, fv_1_0, ft_1_0, fv_1_1, ft_1_1, fv_1_2, ft_1_2, fv_1_3, ft_1_3, fv_2_0, ft_2_0, fv_2_1, ft_2_1, fv_2_2, ft_2_2, fv_2_3, ft_2_3, fv_2_4, ft_2_4, fv_2_5, ft_2_5, fv_2_6, ft_2_6, fv_2_7, ft_2_7, fv_2_8, ft_2_8, fv_3_0, ft_3_0, fv_3_1, ft_3_1, fv_3_2, ft_3_2, fv_3_3, ft_3_3, fv_3_4, ft_3_4, fv_3_5, ft_3_5, fv_3_6, ft_3_6, fv_3_7, ft_3_7, fv_3_8, ft_3_8, fv_3_9, ft_3_9, fv_3_10, ft_3_10, fv_3_11, ft_3_11, fv_4_0, ft_4_0, fv_4_1, ft_4_1, fv_4_2, ft_4_2, fv_4_3, ft_4_3, fv_4_4, ft_4_4, fv_4_5, ft_4_5, fv_4_6, ft_4_6, fv_4_7, ft_4_7, fv_4_8, ft_4_8, fv_4_9, ft_4_9, fv_5_0, ft_5_0, fv_5_1, ft_5_1, fv_5_2, ft_5_2, fv_5_3, ft_5_3, fv_5_4, ft_5_4, fv_5_5, ft_5_5, fv_5_6, ft_5_6, fv_5_7, ft_5_7, fv_5_8, ft_5_8, fv_5_9, ft_5_9, fv_5_10, ft_5_10, fv_5_11, ft_5_11, fv_5_12, ft_5_12, fv_5_13, ft_5_13, fv_5_14, ft_5_14, fv_5_15, ft_5_15, fv_5_16, ft_5_16, fv_5_17, ft_5_17, fv_5_18, ft_5_18, fv_5_19, ft_5_19, fv_5_20, ft_5_20, fv_5_21, ft_5_21, fv_5_22, ft_5_22, kd_0, kd_1, kd_2, kd_3, kd_4, kd_5, kd_6, kd_7, kd_8, kd_9, kd_10, kd_11, kd_12, kd_13, kd_14, kd_15, kd_16, kd_17, kd_18, kd_19, kd_20, kd_21, kd_22, kd_23, kd_24, kd_25, kd_26, kd_27, kd_28, kd_29, kd_30, kd_31, kd_32, kd_33, kd_34, kd_35, kd_36, kd_37, kd_38, kd_39, rt_0_0, rt_0_1, rt_0_2, rt_0_3, rt_0_4, rt_0_5, rt_1_0, rt_1_1, rt_1_2, rt_1_3, rt_1_4, rt_1_5, rt_1_6, rt_1_7, rt_1_8, rt_2_0, rt_12_0, rt_12_1, rt_18_1, rt_18_6, rt_18_7, rt_18_8, rt_18_9, rt_18_10, rt_18_11, rt_18_12, rt_18_14, rt_18_15, rt_18_16, rt_18_17, rt_18_18, rt_18_19, rt_18_20, rt_18_21, rt_18_22, rt_N7, rt_N8, ra_3, ra_15, sc_pu, Nat.reduceAdd, Int.toNat_natCast, true_and, and_true, reduceIte, forall_const, Nat.reduceLeDiff, Nat.zero_le, sc_in, sc_in6, Int.reduceLE, Int.reduceNeg, Int.reduceLT, Int.reduceEq, Nat.reduceEqDiff, ne_eq, not_false_eq_true, lk_Mo_knowing_0, lk_Mo_knowing_1, lk_Mo_knowing_4, lk_Mo_knowing_5, lk_Mo_knowing_6, lk_Mo_knowing_7, lk_Mo_knowing_8, lk_Mo_knowing_9, lk_Mo_knowing_12, lk_Mo_knowing_15, lk_Mo_knowing_16, lk_Mo_knowing_19, lk_Mo_knowing_20, lk_Mo_knowing_21, lk_Mo_knowing_24, lk_Mo_knowing_25, lk_Mo_knowing_26, lk_Mo_knowing_27, lk_Mo_knowing_28, lk_Mo_knowing_30, lk_Mo_knowing_32, lk_Mo_knowing_33, lk_Mo_knowing_36, lk_Mo_knowing_37, lk_Mo_knowing_40, lk_Mo_knowing_41, lk_Mo_knowing_42, lk_Mo_knowing_43, lk_Mo_knowing_44, lk_Mo_knowing_47, lk_Mo_knowing_48, lk_Mo_knowing_49, lk_Mo_knowing_50, lk_Mo_knowing_53, lk_Mo_knowing_54, lk_Mo_knowing_57, lk_Mo_knowing_59, lk_Mo_knowing_60, lk_Mo_knowing_61, lk_Mo_knowing_64, lk_Mo_knowing_65, lk_Mo_knowing_67, lk_Mo_knowing_68, lk_Mo_knowing_71, lk_Mo_knowing_72, lk_Mo_knowing_73, lk_Mo_knowing_74, lk_Mo_knowing_77, lk_Mo_knowing_80, lk_Mo_knowing_83, lk_Mo_knowing_86, lk_Mo_knowing_87, lk_Mo_knowing_90, lk_Mo_knowing_91, lk_Mo_knowing_92, lk_Mo_knowing_94, lk_Mo_knowing_96, lk_Mo_knowing_97, lk_Mo_knowing_100, lk_Mo_knowing_103, lk_Mo_knowing_104, lk_Mo_knowing_107, lk_Mo_knowing_109, lk_Mo_knowing_110, lk_Mo_knowing_113, lk_Mo_knowing_115, lk_Mo_knowing_116, lk_Mo_knowing_117, lk_Mo_knowing_120, lk_Mo_knowing_123, lk_Mo_knowing_124, lk_Mo_knowing_125, lk_Mo_knowing_126, lk_Mo_knowing_127, lk_Mo_knowing_128, lk_Mo_knowing_131, lk_Mo_knowing_134, e18c, e32c]) | with_reducible apply And.intro | with_reducible intro _
      all_goals first | exact ih | omega | (exfalso; omega) | grind [sc_in, sc_in6]
  have h7 := fun v4 v5 => lp_know_a l G (d + 5) m N hwm b1 (fun r μ' => r = .inl (1) ∧ mo_kq (mo_tel μ (b2 - b1) (mo_aw (μ 20) (μ 18 13) N)) μ' ∧ mo_sc μ') (fun v3 v4 v5 => by
    by_cases hv : v3 = .inl ((N : Int))
    · subst hv; exact Or.inl (hend v4 v5)
    · exact Or.inr hv) N 0 v4 v5 (by omega)
  rw [mo_kB_0] at h7
  repeat' first | (with_reducible refine sc_st1 tk_Mo_knowing ?_; simp only [sc_dz, sc_gz, sc_brn, sc_stp, sc_nth, sc_sto_0, sc_sto_1, sc_sto_s, sc_stoJ_0, sc_stoJ_1, sc_stoJ_s, sc_k1_i, sc_k1_j, sc_k1_r, sc_k1_u, sc_x1, sc_x2, sc_xv, sc_xc, sc_1i, sc_2i, sc_1j, sc_2j, sc_1r, sc_ir, sc_iir, sc_jir, sc_xr, sc_jr, sc_1v, sc_2v, sc_vI, sc_vJ, sc_vR, sc_retI, sc_call, sc_callS, sc_args, sc_psh_i, sc_psh_j, sc_psh_r, sc_psh_u, sc_cats, sc_sw, sc_cpy, sc_isJ, fv_0_0, ft_0_0, fv_0_1, ft_0_1, fv_0_2, ft_0_2, fv_1_0, ft_1_0, fv_1_1, ft_1_1, fv_1_2, ft_1_2, fv_1_3, ft_1_3, fv_2_0, ft_2_0, fv_2_1, ft_2_1, fv_2_2, ft_2_2, fv_2_3, ft_2_3, fv_2_4, ft_2_4, fv_2_5, ft_2_5, fv_2_6, ft_2_6, fv_2_7, ft_2_7, fv_2_8, ft_2_8, fv_3_0, ft_3_0, fv_3_1, ft_3_1, fv_3_2, ft_3_2, fv_3_3, ft_3_3, fv_3_4, ft_3_4, fv_3_5, ft_3_5, fv_3_6, ft_3_6, fv_3_7, ft_3_7, fv_3_8, ft_3_8, fv_3_9, ft_3_9, fv_3_10, ft_3_10, fv_3_11, ft_3_11, fv_4_0, ft_4_0, fv_4_1, ft_4_1, fv_4_2, ft_4_2, fv_4_3, ft_4_3, fv_4_4, ft_4_4, fv_4_5, ft_4_5, fv_4_6, ft_4_6, fv_4_7, ft_4_7, fv_4_8, ft_4_8, fv_4_9, ft_4_9, fv_5_0, ft_5_0, fv_5_1, ft_5_1, fv_5_2, ft_5_2, fv_5_3, ft_5_3, fv_5_4, ft_5_4, fv_5_5, ft_5_5, fv_5_6, ft_5_6, fv_5_7, ft_5_7, fv_5_8, ft_5_8, fv_5_9, ft_5_9, fv_5_10, ft_5_10, fv_5_11, ft_5_11, fv_5_12, ft_5_12, fv_5_13, ft_5_13, fv_5_14, ft_5_14, fv_5_15, ft_5_15, fv_5_16, ft_5_16, fv_5_17, ft_5_17, fv_5_18, ft_5_18, fv_5_19, ft_5_19, fv_5_20, ft_5_20, fv_5_21, ft_5_21, fv_5_22, ft_5_22, kd_0, kd_1, kd_2, kd_3, kd_4, kd_5, kd_6, kd_7, kd_8, kd_9, kd_10, kd_11, kd_12, kd_13, kd_14, kd_15, kd_16, kd_17, kd_18, kd_19, kd_20, kd_21, kd_22, kd_23, kd_24, kd_25, kd_26, kd_27, kd_28, kd_29, kd_30, kd_31, kd_32, kd_33, kd_34, kd_35, kd_36, kd_37, kd_38, kd_39, rt_0_0, rt_0_1, rt_0_2, rt_0_3, rt_0_4, rt_0_5, rt_1_0, rt_1_1, rt_1_2, rt_1_3, rt_1_4, rt_1_5, rt_1_6, rt_1_7, rt_1_8, rt_2_0, rt_12_0, rt_12_1, rt_18_1, rt_18_6, rt_18_7, rt_18_8, rt_18_9, rt_18_10, rt_18_11, rt_18_12, rt_18_14, rt_18_15, rt_18_16, rt_18_17, rt_18_18, rt_18_19, rt_18_20, rt_18_21, rt_18_22, rt_N7, rt_N8, ra_3, ra_15, sc_pu, Nat.reduceAdd, Int.toNat_natCast, true_and, and_true, reduceIte, forall_const, Nat.reduceLeDiff, Nat.zero_le, sc_in, sc_in6, Int.reduceLE, Int.reduceNeg, Int.reduceLT, Int.reduceEq, Nat.reduceEqDiff, ne_eq, not_false_eq_true, lk_Mo_knowing_0, lk_Mo_knowing_1, lk_Mo_knowing_4, lk_Mo_knowing_5, lk_Mo_knowing_6, lk_Mo_knowing_7, lk_Mo_knowing_8, lk_Mo_knowing_9, lk_Mo_knowing_12, lk_Mo_knowing_15, lk_Mo_knowing_16, lk_Mo_knowing_19, lk_Mo_knowing_20, lk_Mo_knowing_21, lk_Mo_knowing_24, lk_Mo_knowing_25, lk_Mo_knowing_26, lk_Mo_knowing_27, lk_Mo_knowing_28, lk_Mo_knowing_30, lk_Mo_knowing_32, lk_Mo_knowing_33, lk_Mo_knowing_36, lk_Mo_knowing_37, lk_Mo_knowing_40, lk_Mo_knowing_41, lk_Mo_knowing_42, lk_Mo_knowing_43, lk_Mo_knowing_44, lk_Mo_knowing_47, lk_Mo_knowing_48, lk_Mo_knowing_49, lk_Mo_knowing_50, lk_Mo_knowing_53, lk_Mo_knowing_54, lk_Mo_knowing_57, lk_Mo_knowing_59, lk_Mo_knowing_60, lk_Mo_knowing_61, lk_Mo_knowing_64, lk_Mo_knowing_65, lk_Mo_knowing_67, lk_Mo_knowing_68, lk_Mo_knowing_71, lk_Mo_knowing_72, lk_Mo_knowing_73, lk_Mo_knowing_74, lk_Mo_knowing_77, lk_Mo_knowing_80, lk_Mo_knowing_83, lk_Mo_knowing_86, lk_Mo_knowing_87, lk_Mo_knowing_90, lk_Mo_knowing_91, lk_Mo_knowing_92, lk_Mo_knowing_94, lk_Mo_knowing_96, lk_Mo_knowing_97, lk_Mo_knowing_100, lk_Mo_knowing_103, lk_Mo_knowing_104, lk_Mo_knowing_107, lk_Mo_knowing_109, lk_Mo_knowing_110, lk_Mo_knowing_113, lk_Mo_knowing_115, lk_Mo_knowing_116, lk_Mo_knowing_117, lk_Mo_knowing_120, lk_Mo_knowing_123, lk_Mo_knowing_124, lk_Mo_knowing_125, lk_Mo_knowing_126, lk_Mo_knowing_127, lk_Mo_knowing_128, lk_Mo_knowing_131, lk_Mo_knowing_134]) | with_reducible apply And.intro | with_reducible intro _
  all_goals exact h7 _ _
