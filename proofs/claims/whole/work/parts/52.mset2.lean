/-- only the reference's scratch has changed -/
def mo_kp (μ μ' : sc_M) : Prop := ∀ b, b < 27 ∨ 32 ≤ b → μ' b = μ b
theorem mo_kp_sm {μ μ' : sc_M} (h : mo_kp μ μ') : mo_sm μ μ' := fun b hb => h b (by omega)
theorem mo_kp_refl (μ : sc_M) : mo_kp μ μ := fun _ _ => rfl
theorem mo_kp_trans {μ μ' μ'' : sc_M} (h : mo_kp μ μ') (h' : mo_kp μ' μ'') : mo_kp μ μ'' := fun b hb => by rw [h' b hb, h b hb]
theorem mo_ic_ne {M : sc_M} {N : Nat} (hw : mo_w M N) {k : Nat} (hk : k < N) (hi : md_ic M k) : ¬ M 20 k = 0 := by
  rcases hi with hi | hi
  · omega
  · have := hw.2.2.2.2.2 k hk hi; omega
set_option maxRecDepth 100000 in
set_option maxHeartbeats 4000000 in
theorem lp_Mo_setPlan (l : Launch) (G : sc_G) (d : Nat) (μ : sc_M) (M : sc_M) (N : Nat) (hw : mo_w M N) (W9 : Nat) (hW : mo_sd (M 20) (M 21) N = W9) : ∀ (j : Nat) (m : sc_M), j ≤ N → mo_kp M m → mo_sc m → mo_has M m N (md_kn M) (md_PL M N W9 (N - j)) (fun k => j ≤ k) → sc_Wp l G (d + 3) mq_Mo_setPlan 7 [.inr (.inr (.inl (18))), .inl ((j : Int) - 1)] [] m (fun r μ' => r = .inr (.inr (.inr ())) ∧ mo_kp M μ' ∧ mo_sc μ' ∧ mo_has M μ' N (md_kn M) (md_PL M N W9 N) (fun _ => True)) := by
  have hN1 := hw.1
  intro j
  induction j with
  | zero =>
    intro m _ hk hsc hp
    have hp1 : mo_has M m N (md_kn M) (md_PL M N W9 N) (fun _ => True) := fun k h1 _ h2 => hp k h1 (Nat.zero_le _) h2
    refine sc_rp ?_
    repeat' first | (with_reducible refine sc_st1 tk_Mo_setPlan ?_; simp only [sc_dz, sc_gz, sc_brn, sc_stp, sc_nth, sc_sto_0, sc_sto_1, sc_sto_s, sc_stoJ_0, sc_stoJ_1, sc_stoJ_s, sc_k1_i, sc_k1_j, sc_k1_r, sc_k1_u, sc_x1, sc_x2, sc_xv, sc_xc, sc_1i, sc_2i, sc_1j, sc_2j, sc_1r, sc_ir, sc_iir, sc_jir, sc_xr, sc_jr, sc_1v, sc_2v, sc_vI, sc_vJ, sc_vR, sc_retI, sc_call, sc_callS, sc_args, sc_psh_i, sc_psh_j, sc_psh_r, sc_psh_u, sc_cats, sc_sw, sc_cpy, sc_isJ, fv_0_0, ft_0_0, fv_0_1, ft_0_1, fv_0_2, ft_0_2, fv_1_0, ft_1_0, fv_1_1, ft_1_1, fv_1_2, ft_1_2, fv_1_3, ft_1_3, fv_2_0, ft_2_0, fv_2_1, ft_2_1, fv_2_2, ft_2_2, fv_2_3, ft_2_3, fv_2_4, ft_2_4, fv_2_5, ft_2_5, fv_2_6, ft_2_6, fv_2_7, ft_2_7, fv_2_8, ft_2_8, fv_3_0, ft_3_0, fv_3_1, ft_3_1, fv_3_2, ft_3_2, fv_3_3, ft_3_3, fv_3_4, ft_3_4, fv_3_5, ft_3_5, fv_3_6, ft_3_6, fv_3_7, ft_3_7, fv_3_8, ft_3_8, fv_3_9, ft_3_9, fv_3_10, ft_3_10, fv_3_11, ft_3_11, fv_4_0, ft_4_0, fv_4_1, ft_4_1, fv_4_2, ft_4_2, fv_4_3, ft_4_3, fv_4_4, ft_4_4, fv_4_5, ft_4_5, fv_4_6, ft_4_6, fv_4_7, ft_4_7, fv_4_8, ft_4_8, fv_4_9, ft_4_9, fv_5_0, ft_5_0, fv_5_1, ft_5_1, fv_5_2, ft_5_2, fv_5_3, ft_5_3, fv_5_4, ft_5_4, fv_5_5, ft_5_5, fv_5_6, ft_5_6, fv_5_7, ft_5_7, fv_5_8, ft_5_8, fv_5_9, ft_5_9, fv_5_10, ft_5_10, fv_5_11, ft_5_11, fv_5_12, ft_5_12, fv_5_13, ft_5_13, fv_5_14, ft_5_14, fv_5_15, ft_5_15, fv_5_16, ft_5_16, fv_5_17, ft_5_17, fv_5_18, ft_5_18, fv_5_19, ft_5_19, fv_5_20, ft_5_20, fv_5_21, ft_5_21, fv_5_22, ft_5_22, kd_0, kd_1, kd_2, kd_3, kd_4, kd_5, kd_6, kd_7, kd_8, kd_9, kd_10, kd_11, kd_12, kd_13, kd_14, kd_15, kd_16, kd_17, kd_18, kd_19, kd_20, kd_21, kd_22, kd_23, kd_24, kd_25, kd_26, kd_27, kd_28, kd_29, kd_30, kd_31, kd_32, kd_33, kd_34, kd_35, kd_36, kd_37, kd_38, kd_39, rt_0_0, rt_0_1, rt_0_2, rt_0_3, rt_0_4, rt_0_5, rt_1_0, rt_1_1, rt_1_2, rt_1_3, rt_1_4, rt_1_5, rt_1_6, rt_1_7, rt_1_8, rt_2_0, rt_12_0, rt_12_1, rt_18_1, rt_18_6, rt_18_7, rt_18_8, rt_18_9, rt_18_10, rt_18_11, rt_18_12, rt_18_14, rt_18_15, rt_18_16, rt_18_17, rt_18_18, rt_18_19, rt_18_20, rt_18_21, rt_18_22, rt_N7, rt_N8, ra_3, ra_15, sc_pu, Nat.reduceAdd, Int.toNat_natCast, true_and, and_true, reduceIte, forall_const, Nat.reduceLeDiff, Nat.zero_le, sc_in, sc_in6, Int.reduceLE, Int.reduceNeg, Int.reduceLT, Int.reduceEq, Nat.reduceEqDiff, ne_eq, not_false_eq_true, lk_Mo_setPlan_0, lk_Mo_setPlan_1, lk_Mo_setPlan_4, lk_Mo_setPlan_5, lk_Mo_setPlan_6, lk_Mo_setPlan_7, lk_Mo_setPlan_8, lk_Mo_setPlan_11, lk_Mo_setPlan_12, lk_Mo_setPlan_13, lk_Mo_setPlan_16, lk_Mo_setPlan_19, lk_Mo_setPlan_20, lk_Mo_setPlan_23, lk_Mo_setPlan_24, lk_Mo_setPlan_25, lk_Mo_setPlan_26, lk_Mo_setPlan_29, lk_Mo_setPlan_30, lk_Mo_setPlan_31, lk_Mo_setPlan_32, lk_Mo_setPlan_35, lk_Mo_setPlan_38, lk_Mo_setPlan_41]) | with_reducible apply And.intro | with_reducible intro _
    all_goals first | exact ⟨rfl, hk, hsc, hp1⟩ | exact hk | exact hsc | exact hp1 | (exfalso; omega) | omega
  | succ j ih =>
    intro m hj hk hsc hp
    rw [show ((j + 1 : Nat) : Int) - 1 = (j : Int) by omega]
    have hs := mo_kp_sm hk
    have hwm := mo_sm_w hs hw
    have h1 := sp_Mo_isChoice l G (d + 2) m N hwm j (by omega)
    rw [hs 20 (by omega), hs 18 (by omega)] at h1
    have hPL : ∀ k, ¬ k = j → md_PL M N W9 (N - j) k = md_PL M N W9 (N - (j + 1)) k := fun k hkj => by
      rw [show N - j = (N - (j + 1)) + 1 by omega, md_PL]
      funext key
      exact if_neg (by omega)
    by_cases hi : md_ic M j
    · rw [if_pos hi] at h1
      have hK := mo_ic_ne hw (by omega) hi
      have h2 := sp_Mo_knownAt l G (d + 1) m N hwm j (by omega)
      rw [hs 20 (by omega), hs 22 (by omega), hs 23 (by omega), hs 24 (by omega), hs 18 (by omega), show mo_ka (M 20) (M 22) (M 23) (M 24) (M 18 13) j j = md_kn M j from rfl] at h2
      obtain ⟨St, hSt⟩ := Int.eq_ofNat_of_zero_le (show 0 ≤ M 21 j by have := (hw.2.2.1 j (by omega)).2.2.1 hK; omega)
      have e : ∀ b, b ≠ 31 → sc_up m 31 j (md_kn M j) b = m b := fun b hb => sc_up_ne _ _ _ hb
      have hs2 : mo_sm M (sc_up m 31 j (md_kn M j)) := fun b hb => by rw [e b (by omega), hs b hb]
      have hsc2 : mo_sc (sc_up m 31 j (md_kn M j)) := by
        unfold mo_sc
        rw [e 28 (by decide), e 29 (by decide), e 30 (by decide)]
        exact hsc
      have h31 : sc_up m 31 j (md_kn M j) 31 j = md_kn M j := by rw [sc_up_eq]; exact if_pos rfl
      have h31' : ∀ k, ¬ k = j → sc_up m 31 j (md_kn M j) 31 k = m 31 k := fun k hkj => by rw [sc_up_eq]; exact if_neg hkj
      have hp2 : mo_has M (sc_up m 31 j (md_kn M j)) N (md_kn M) (md_PL M N W9 (N - (j + 1))) (fun k => j < k) := fun k k1 k2 k3 => by
        have := hp k k1 k2 k3
        rw [h31' k (by omega), e 28 (by decide)]
        exact this
      have h3 := sp_Mo_planAt l G d (sc_up m 31 j (md_kn M j)) N (mo_sm_w hs2 hw) j (by omega) (by rw [hs2 20 (by omega)]; exact hK) W9 (by rw [hs2 20 (by omega), hs2 21 (by omega)]; exact hW) St (by rw [hs2 21 (by omega)]; exact hSt) hsc2.1 hsc2.2.1 hsc2.2.2
      obtain ⟨q1, q2, q3, q4⟩ := mo_pa_at (W := W9) hs2 hw (by omega) hK h31 hp2 hsc2 hSt
      have ih1 := ih (mo_pa (sc_up m 31 j (md_kn M j)) N j W9 St) (by omega) (fun b hb => by rw [q1 b (by omega) (by omega) (by omega) (by omega), e b (by omega), hk b hb]) q4 (fun k k1 k2 k3 => by
        rw [q1 31 (by decide) (by decide) (by decide) (by decide)]
        by_cases hkj : k = j
        · subst hkj
          refine ⟨h31, fun key hkey => ?_⟩
          rw [q2 key hkey, show N - k = (N - (k + 1)) + 1 by omega, md_PL]
          exact (if_pos ⟨by omega, hi⟩).symm
        · rw [hPL k hkj, h31' k hkj]
          refine ⟨(hp k k1 (by omega) k3).1, fun key hkey => ?_⟩
          rw [q3 _ (by omega), e 28 (by decide)]
          exact (hp k k1 (by omega) k3).2 key hkey)
      generalize mo_pa (sc_up m 31 j (md_kn M j)) N j W9 St = m9 at h3 ih1
      have hin : sc_in (md_kn M j) ∨ True := Or.inr trivial
      clear ih q1 q2 q3 q4 e hs2 hsc2 h31 h31' hp2 hp hPL hin
      generalize md_kn M j = kn at h2 h3
      refine sc_rp ?_
      repeat' first | (with_reducible refine sc_st1 tk_Mo_setPlan ?_; simp only [sc_dz, sc_gz, sc_brn, sc_stp, sc_nth, sc_sto_0, sc_sto_1, sc_sto_s, sc_stoJ_0, sc_stoJ_1, sc_stoJ_s, sc_k1_i, sc_k1_j, sc_k1_r, sc_k1_u, sc_x1, sc_x2, sc_xv, sc_xc, sc_1i, sc_2i, sc_1j, sc_2j, sc_1r, sc_ir, sc_iir, sc_jir, sc_xr, sc_jr, sc_1v, sc_2v, sc_vI, sc_vJ, sc_vR, sc_retI, sc_call, sc_callS, sc_args, sc_psh_i, sc_psh_j, sc_psh_r, sc_psh_u, sc_cats, sc_sw, sc_cpy, sc_isJ, fv_0_0, ft_0_0, fv_0_1, ft_0_1, fv_0_2, ft_0_2, fv_1_0, ft_1_0, fv_1_1, ft_1_1, fv_1_2, ft_1_2, fv_1_3, ft_1_3, fv_2_0, ft_2_0, fv_2_1, ft_2_1, fv_2_2, ft_2_2, fv_2_3, ft_2_3, fv_2_4, ft_2_4, fv_2_5, ft_2_5, fv_2_6, ft_2_6, fv_2_7, ft_2_7, fv_2_8, ft_2_8, fv_3_0, ft_3_0, fv_3_1, ft_3_1, fv_3_2, ft_3_2, fv_3_3, ft_3_3, fv_3_4, ft_3_4, fv_3_5, ft_3_5, fv_3_6, ft_3_6, fv_3_7, ft_3_7, fv_3_8, ft_3_8, fv_3_9, ft_3_9, fv_3_10, ft_3_10, fv_3_11, ft_3_11, fv_4_0, ft_4_0, fv_4_1, ft_4_1, fv_4_2, ft_4_2, fv_4_3, ft_4_3, fv_4_4, ft_4_4, fv_4_5, ft_4_5, fv_4_6, ft_4_6, fv_4_7, ft_4_7, fv_4_8, ft_4_8, fv_4_9, ft_4_9, fv_5_0, ft_5_0, fv_5_1, ft_5_1, fv_5_2, ft_5_2, fv_5_3, ft_5_3, fv_5_4, ft_5_4, fv_5_5, ft_5_5, fv_5_6, ft_5_6, fv_5_7, ft_5_7, fv_5_8, ft_5_8, fv_5_9, ft_5_9, fv_5_10, ft_5_10, fv_5_11, ft_5_11, fv_5_12, ft_5_12, fv_5_13, ft_5_13, fv_5_14, ft_5_14, fv_5_15, ft_5_15, fv_5_16, ft_5_16, fv_5_17, ft_5_17, fv_5_18, ft_5_18, fv_5_19, ft_5_19, fv_5_20, ft_5_20, fv_5_21, ft_5_21, fv_5_22, ft_5_22, kd_0, kd_1, kd_2, kd_3, kd_4, kd_5, kd_6, kd_7, kd_8, kd_9, kd_10, kd_11, kd_12, kd_13, kd_14, kd_15, kd_16, kd_17, kd_18, kd_19, kd_20, kd_21, kd_22, kd_23, kd_24, kd_25, kd_26, kd_27, kd_28, kd_29, kd_30, kd_31, kd_32, kd_33, kd_34, kd_35, kd_36, kd_37, kd_38, kd_39, rt_0_0, rt_0_1, rt_0_2, rt_0_3, rt_0_4, rt_0_5, rt_1_0, rt_1_1, rt_1_2, rt_1_3, rt_1_4, rt_1_5, rt_1_6, rt_1_7, rt_1_8, rt_2_0, rt_12_0, rt_12_1, rt_18_1, rt_18_6, rt_18_7, rt_18_8, rt_18_9, rt_18_10, rt_18_11, rt_18_12, rt_18_14, rt_18_15, rt_18_16, rt_18_17, rt_18_18, rt_18_19, rt_18_20, rt_18_21, rt_18_22, rt_N7, rt_N8, ra_3, ra_15, sc_pu, Nat.reduceAdd, Int.toNat_natCast, true_and, and_true, reduceIte, forall_const, Nat.reduceLeDiff, Nat.zero_le, sc_in, sc_in6, Int.reduceLE, Int.reduceNeg, Int.reduceLT, Int.reduceEq, Nat.reduceEqDiff, ne_eq, not_false_eq_true, lk_Mo_setPlan_0, lk_Mo_setPlan_1, lk_Mo_setPlan_4, lk_Mo_setPlan_5, lk_Mo_setPlan_6, lk_Mo_setPlan_7, lk_Mo_setPlan_8, lk_Mo_setPlan_11, lk_Mo_setPlan_12, lk_Mo_setPlan_13, lk_Mo_setPlan_16, lk_Mo_setPlan_19, lk_Mo_setPlan_20, lk_Mo_setPlan_23, lk_Mo_setPlan_24, lk_Mo_setPlan_25, lk_Mo_setPlan_26, lk_Mo_setPlan_29, lk_Mo_setPlan_30, lk_Mo_setPlan_31, lk_Mo_setPlan_32, lk_Mo_setPlan_35, lk_Mo_setPlan_38, lk_Mo_setPlan_41, if_true]) | with_reducible apply And.intro | with_reducible intro _ | (refine ⟨_, h1, ?_⟩; rintro _ _ ⟨rfl, rfl⟩) | (refine ⟨_, h2, ?_⟩; rintro _ _ ⟨rfl, rfl⟩) | (refine ⟨_, h3, ?_⟩; rintro _ _ ⟨e1, e2⟩; rw [e1, e2])
      all_goals first | exact ih1 | omega | grind [sc_in, sc_in6]
    · rw [if_neg hi] at h1
      have ih1 := ih m (by omega) hk hsc (fun k k1 k2 k3 => by
        have hkj : ¬ k = j := fun h => hi (h ▸ k3)
        rw [hPL k hkj]
        exact hp k k1 (by omega) k3)
      clear ih hp hPL
      refine sc_rp ?_
      repeat' first | (with_reducible refine sc_st1 tk_Mo_setPlan ?_; simp only [sc_dz, sc_gz, sc_brn, sc_stp, sc_nth, sc_sto_0, sc_sto_1, sc_sto_s, sc_stoJ_0, sc_stoJ_1, sc_stoJ_s, sc_k1_i, sc_k1_j, sc_k1_r, sc_k1_u, sc_x1, sc_x2, sc_xv, sc_xc, sc_1i, sc_2i, sc_1j, sc_2j, sc_1r, sc_ir, sc_iir, sc_jir, sc_xr, sc_jr, sc_1v, sc_2v, sc_vI, sc_vJ, sc_vR, sc_retI, sc_call, sc_callS, sc_args, sc_psh_i, sc_psh_j, sc_psh_r, sc_psh_u, sc_cats, sc_sw, sc_cpy, sc_isJ, fv_0_0, ft_0_0, fv_0_1, ft_0_1, fv_0_2, ft_0_2, fv_1_0, ft_1_0, fv_1_1, ft_1_1, fv_1_2, ft_1_2, fv_1_3, ft_1_3, fv_2_0, ft_2_0, fv_2_1, ft_2_1, fv_2_2, ft_2_2, fv_2_3, ft_2_3, fv_2_4, ft_2_4, fv_2_5, ft_2_5, fv_2_6, ft_2_6, fv_2_7, ft_2_7, fv_2_8, ft_2_8, fv_3_0, ft_3_0, fv_3_1, ft_3_1, fv_3_2, ft_3_2, fv_3_3, ft_3_3, fv_3_4, ft_3_4, fv_3_5, ft_3_5, fv_3_6, ft_3_6, fv_3_7, ft_3_7, fv_3_8, ft_3_8, fv_3_9, ft_3_9, fv_3_10, ft_3_10, fv_3_11, ft_3_11, fv_4_0, ft_4_0, fv_4_1, ft_4_1, fv_4_2, ft_4_2, fv_4_3, ft_4_3, fv_4_4, ft_4_4, fv_4_5, ft_4_5, fv_4_6, ft_4_6, fv_4_7, ft_4_7, fv_4_8, ft_4_8, fv_4_9, ft_4_9, fv_5_0, ft_5_0, fv_5_1, ft_5_1, fv_5_2, ft_5_2, fv_5_3, ft_5_3, fv_5_4, ft_5_4, fv_5_5, ft_5_5, fv_5_6, ft_5_6, fv_5_7, ft_5_7, fv_5_8, ft_5_8, fv_5_9, ft_5_9, fv_5_10, ft_5_10, fv_5_11, ft_5_11, fv_5_12, ft_5_12, fv_5_13, ft_5_13, fv_5_14, ft_5_14, fv_5_15, ft_5_15, fv_5_16, ft_5_16, fv_5_17, ft_5_17, fv_5_18, ft_5_18, fv_5_19, ft_5_19, fv_5_20, ft_5_20, fv_5_21, ft_5_21, fv_5_22, ft_5_22, kd_0, kd_1, kd_2, kd_3, kd_4, kd_5, kd_6, kd_7, kd_8, kd_9, kd_10, kd_11, kd_12, kd_13, kd_14, kd_15, kd_16, kd_17, kd_18, kd_19, kd_20, kd_21, kd_22, kd_23, kd_24, kd_25, kd_26, kd_27, kd_28, kd_29, kd_30, kd_31, kd_32, kd_33, kd_34, kd_35, kd_36, kd_37, kd_38, kd_39, rt_0_0, rt_0_1, rt_0_2, rt_0_3, rt_0_4, rt_0_5, rt_1_0, rt_1_1, rt_1_2, rt_1_3, rt_1_4, rt_1_5, rt_1_6, rt_1_7, rt_1_8, rt_2_0, rt_12_0, rt_12_1, rt_18_1, rt_18_6, rt_18_7, rt_18_8, rt_18_9, rt_18_10, rt_18_11, rt_18_12, rt_18_14, rt_18_15, rt_18_16, rt_18_17, rt_18_18, rt_18_19, rt_18_20, rt_18_21, rt_18_22, rt_N7, rt_N8, ra_3, ra_15, sc_pu, Nat.reduceAdd, Int.toNat_natCast, true_and, and_true, reduceIte, forall_const, Nat.reduceLeDiff, Nat.zero_le, sc_in, sc_in6, Int.reduceLE, Int.reduceNeg, Int.reduceLT, Int.reduceEq, Nat.reduceEqDiff, ne_eq, not_false_eq_true, lk_Mo_setPlan_0, lk_Mo_setPlan_1, lk_Mo_setPlan_4, lk_Mo_setPlan_5, lk_Mo_setPlan_6, lk_Mo_setPlan_7, lk_Mo_setPlan_8, lk_Mo_setPlan_11, lk_Mo_setPlan_12, lk_Mo_setPlan_13, lk_Mo_setPlan_16, lk_Mo_setPlan_19, lk_Mo_setPlan_20, lk_Mo_setPlan_23, lk_Mo_setPlan_24, lk_Mo_setPlan_25, lk_Mo_setPlan_26, lk_Mo_setPlan_29, lk_Mo_setPlan_30, lk_Mo_setPlan_31, lk_Mo_setPlan_32, lk_Mo_setPlan_35, lk_Mo_setPlan_38, lk_Mo_setPlan_41, if_true]) | with_reducible apply And.intro | with_reducible intro _ | (refine ⟨_, h1, ?_⟩; rintro _ _ ⟨rfl, rfl⟩)
      all_goals first | exact ih1 | omega | grind [sc_in, sc_in6]
set_option maxRecDepth 100000 in
set_option maxHeartbeats 4000000 in
theorem sp_Mo_setPlan (l : Launch) (G : sc_G) (d : Nat) (μ : sc_M) (N : Nat) (hw : mo_w μ N) (hsc : mo_sc μ) (W9 : Nat) (hW : mo_sd (μ 20) (μ 21) N = W9) : sc_Sp l G (d + 3) mq_Mo_setPlan [.inr (.inr (.inl (18)))] μ (fun r μ' => r = .inr (.inr (.inr ())) ∧ mo_kp μ μ' ∧ mo_sc μ' ∧ mo_has μ μ' N (md_kn μ) (md_PL μ N W9 N) (fun _ => True)) := by
  have h0 := lp_Mo_setPlan l G d μ μ N hw W9 hW N μ (Nat.le_refl _) (mo_kp_refl μ) hsc (fun k k1 k2 _ => absurd k2 (by omega))
  have hN := hw.2.1
  have hN1 := hw.1
  refine sc_enter cm_Mo_setPlan (plainFor_of_name (by decide)) [.inr (.inr (.inl (18))), .inr (.inr (.inr ()))] rfl rfl ?_
  refine sc_rp ?_
  repeat' first | (with_reducible refine sc_st1 tk_Mo_setPlan ?_; simp only [sc_dz, sc_gz, sc_brn, sc_stp, sc_nth, sc_sto_0, sc_sto_1, sc_sto_s, sc_stoJ_0, sc_stoJ_1, sc_stoJ_s, sc_k1_i, sc_k1_j, sc_k1_r, sc_k1_u, sc_x1, sc_x2, sc_xv, sc_xc, sc_1i, sc_2i, sc_1j, sc_2j, sc_1r, sc_ir, sc_iir, sc_jir, sc_xr, sc_jr, sc_1v, sc_2v, sc_vI, sc_vJ, sc_vR, sc_retI, sc_call, sc_callS, sc_args, sc_psh_i, sc_psh_j, sc_psh_r, sc_psh_u, sc_cats, sc_sw, sc_cpy, sc_isJ, fv_0_0, ft_0_0, fv_0_1, ft_0_1, fv_0_2, ft_0_2, fv_1_0, ft_1_0, fv_1_1, ft_1_1, fv_1_2, ft_1_2, fv_1_3, ft_1_3, fv_2_0, ft_2_0, fv_2_1, ft_2_1, fv_2_2, ft_2_2, fv_2_3, ft_2_3, fv_2_4, ft_2_4, fv_2_5, ft_2_5, fv_2_6, ft_2_6, fv_2_7, ft_2_7, fv_2_8, ft_2_8, fv_3_0, ft_3_0, fv_3_1, ft_3_1, fv_3_2, ft_3_2, fv_3_3, ft_3_3, fv_3_4, ft_3_4, fv_3_5, ft_3_5, fv_3_6, ft_3_6, fv_3_7, ft_3_7, fv_3_8, ft_3_8, fv_3_9, ft_3_9, fv_3_10, ft_3_10, fv_3_11, ft_3_11, fv_4_0, ft_4_0, fv_4_1, ft_4_1, fv_4_2, ft_4_2, fv_4_3, ft_4_3, fv_4_4, ft_4_4, fv_4_5, ft_4_5, fv_4_6, ft_4_6, fv_4_7, ft_4_7, fv_4_8, ft_4_8, fv_4_9, ft_4_9, fv_5_0, ft_5_0, fv_5_1, ft_5_1, fv_5_2, ft_5_2, fv_5_3, ft_5_3, fv_5_4, ft_5_4, fv_5_5, ft_5_5, fv_5_6, ft_5_6, fv_5_7, ft_5_7, fv_5_8, ft_5_8, fv_5_9, ft_5_9, fv_5_10, ft_5_10, fv_5_11, ft_5_11, fv_5_12, ft_5_12, fv_5_13, ft_5_13, fv_5_14, ft_5_14, fv_5_15, ft_5_15, fv_5_16, ft_5_16, fv_5_17, ft_5_17, fv_5_18, ft_5_18, fv_5_19, ft_5_19, fv_5_20, ft_5_20, fv_5_21, ft_5_21, fv_5_22, ft_5_22, kd_0, kd_1, kd_2, kd_3, kd_4, kd_5, kd_6, kd_7, kd_8, kd_9, kd_10, kd_11, kd_12, kd_13, kd_14, kd_15, kd_16, kd_17, kd_18, kd_19, kd_20, kd_21, kd_22, kd_23, kd_24, kd_25, kd_26, kd_27, kd_28, kd_29, kd_30, kd_31, kd_32, kd_33, kd_34, kd_35, kd_36, kd_37, kd_38, kd_39, rt_0_0, rt_0_1, rt_0_2, rt_0_3, rt_0_4, rt_0_5, rt_1_0, rt_1_1, rt_1_2, rt_1_3, rt_1_4, rt_1_5, rt_1_6, rt_1_7, rt_1_8, rt_2_0, rt_12_0, rt_12_1, rt_18_1, rt_18_6, rt_18_7, rt_18_8, rt_18_9, rt_18_10, rt_18_11, rt_18_12, rt_18_14, rt_18_15, rt_18_16, rt_18_17, rt_18_18, rt_18_19, rt_18_20, rt_18_21, rt_18_22, rt_N7, rt_N8, ra_3, ra_15, sc_pu, Nat.reduceAdd, Int.toNat_natCast, true_and, and_true, reduceIte, forall_const, Nat.reduceLeDiff, Nat.zero_le, sc_in, sc_in6, Int.reduceLE, Int.reduceNeg, Int.reduceLT, Int.reduceEq, Nat.reduceEqDiff, ne_eq, not_false_eq_true, lk_Mo_setPlan_0, lk_Mo_setPlan_1, lk_Mo_setPlan_4, lk_Mo_setPlan_5, lk_Mo_setPlan_6, lk_Mo_setPlan_7, lk_Mo_setPlan_8, lk_Mo_setPlan_11, lk_Mo_setPlan_12, lk_Mo_setPlan_13, lk_Mo_setPlan_16, lk_Mo_setPlan_19, lk_Mo_setPlan_20, lk_Mo_setPlan_23, lk_Mo_setPlan_24, lk_Mo_setPlan_25, lk_Mo_setPlan_26, lk_Mo_setPlan_29, lk_Mo_setPlan_30, lk_Mo_setPlan_31, lk_Mo_setPlan_32, lk_Mo_setPlan_35, lk_Mo_setPlan_38, lk_Mo_setPlan_41, hN]) | with_reducible apply And.intro | with_reducible intro _
  all_goals first | exact h0 | omega
theorem mo_sum_at {M m : sc_M} {N : Nat} (hs : mo_sm M m) (hw : mo_w M N) {kn : Nat → Int} {P : Nat → Nat → Int} (hp : mo_has M m N kn P (fun _ => True)) : ∀ W, mo_sum m N W = md_tot M N W kn P
  | 0 => rfl
  | W + 1 => by
    have ih := mo_sum_at hs hw hp W
    unfold md_tot at ih ⊢
    rw [mo_sum, sc_sum, ih]
    congr 1
    have e : ∀ b, b ≠ 27 → sc_arr m 27 (mo_now (m 20) (m 21) (W : Int) (m 27) N) b = m b := fun b hb => sc_arr_ne _ _ hb
    have e27 : sc_arr m 27 (mo_now (m 20) (m 21) (W : Int) (m 27) N) 27 = mo_now (m 20) (m 21) (W : Int) (m 27) N := sc_arr_eq _ _ _
    have hs1 : mo_sm M (sc_arr m 27 (mo_now (m 20) (m 21) (W : Int) (m 27) N)) := fun b hb => by rw [e b (by omega), hs b hb]
    have h27 : ∀ k, k < N → sc_arr m 27 (mo_now (m 20) (m 21) (W : Int) (m 27) N) 27 k = md_dg M W k := fun k hk => by
      rw [e27, mo_now_dg _ _ _ _ _ k hk, hs 20 (by omega), hs 21 (by omega)]
      rfl
    have hp1 : mo_has M (sc_arr m 27 (mo_now (m 20) (m 21) (W : Int) (m 27) N)) N kn P (fun _ => True) := fun k k1 k2 k3 => by
      rw [e 31 (by decide), e 28 (by decide)]
      exact hp k k1 k2 k3
    obtain ⟨-, a2, a3⟩ := mo_w_at hs1 hw W h27
    have a4 := mo_cm_at hs1 hw W h27 hp1
    rw [e 20 (by decide), e 21 (by decide), e 22 (by decide), e 23 (by decide), e 26 (by decide), e 18 (by decide), e27] at a2
    rw [e 20 (by decide), e 21 (by decide), e 22 (by decide), e 23 (by decide), e 26 (by decide), e27] at a3
    rw [e 20 (by decide), e 21 (by decide), e 25 (by decide), e 31 (by decide), e 28 (by decide), e 18 (by decide), e27] at a4
    unfold mo_term
    rw [a2, a3]
    by_cases hc : md_cm M N kn P W
    · rw [if_pos (a4.mpr hc), sc_if_pos _ _ hc]
    · rw [if_neg (fun h => hc (a4.mp h)), sc_if_neg _ _ hc]
theorem mo_mw_kp (μ : sc_M) (N W : Nat) : mo_kp μ (mo_mw μ N W) := fun b hb => mo_mw_ne μ N (by omega) W
theorem mo_mw_sc {μ : sc_M} {N : Nat} (h : mo_sc μ) (W : Nat) : mo_sc (mo_mw μ N W) := by
  unfold mo_sc
  rw [mo_mw_ne μ N (by decide), mo_mw_ne μ N (by decide), mo_mw_ne μ N (by decide)]
  exact h
set_option maxRecDepth 100000 in
set_option maxHeartbeats 4000000 in
theorem sp_Mo_bestSum (l : Launch) (G : sc_G) (d : Nat) (μ : sc_M) (N : Nat) (hw : mo_w μ N) (hsc : mo_sc μ) (W9 : Nat) (hW : mo_sd (μ 20) (μ 21) N = W9) : sc_Sp l G (d + 4) mq_Mo_bestSum [.inr (.inr (.inl (18)))] μ (fun r μ' => r = .inr (.inl (md_best μ N W9)) ∧ mo_kp μ μ' ∧ mo_sc μ') := by
  have h0 := sp_Mo_setPlan l G d μ N hw hsc W9 hW
  refine sc_enter cm_Mo_bestSum (plainFor_of_name (by decide)) [.inr (.inr (.inl (18)))] rfl rfl ?_
  refine sc_rp ?_
  repeat' first | (with_reducible refine sc_st1 tk_Mo_bestSum ?_; simp only [sc_dz, sc_gz, sc_brn, sc_stp, sc_nth, sc_sto_0, sc_sto_1, sc_sto_s, sc_stoJ_0, sc_stoJ_1, sc_stoJ_s, sc_k1_i, sc_k1_j, sc_k1_r, sc_k1_u, sc_x1, sc_x2, sc_xv, sc_xc, sc_1i, sc_2i, sc_1j, sc_2j, sc_1r, sc_ir, sc_iir, sc_jir, sc_xr, sc_jr, sc_1v, sc_2v, sc_vI, sc_vJ, sc_vR, sc_retI, sc_call, sc_callS, sc_args, sc_psh_i, sc_psh_j, sc_psh_r, sc_psh_u, sc_cats, sc_sw, sc_cpy, sc_isJ, fv_0_0, ft_0_0, fv_0_1, ft_0_1, fv_0_2, ft_0_2, fv_1_0, ft_1_0, fv_1_1, ft_1_1, fv_1_2, ft_1_2, fv_1_3, ft_1_3, fv_2_0, ft_2_0, fv_2_1, ft_2_1, fv_2_2, ft_2_2, fv_2_3, ft_2_3, fv_2_4, ft_2_4, fv_2_5, ft_2_5, fv_2_6, ft_2_6, fv_2_7, ft_2_7, fv_2_8, ft_2_8, fv_3_0, ft_3_0, fv_3_1, ft_3_1, fv_3_2, ft_3_2, fv_3_3, ft_3_3, fv_3_4, ft_3_4, fv_3_5, ft_3_5, fv_3_6, ft_3_6, fv_3_7, ft_3_7, fv_3_8, ft_3_8, fv_3_9, ft_3_9, fv_3_10, ft_3_10, fv_3_11, ft_3_11, fv_4_0, ft_4_0, fv_4_1, ft_4_1, fv_4_2, ft_4_2, fv_4_3, ft_4_3, fv_4_4, ft_4_4, fv_4_5, ft_4_5, fv_4_6, ft_4_6, fv_4_7, ft_4_7, fv_4_8, ft_4_8, fv_4_9, ft_4_9, fv_5_0, ft_5_0, fv_5_1, ft_5_1, fv_5_2, ft_5_2, fv_5_3, ft_5_3, fv_5_4, ft_5_4, fv_5_5, ft_5_5, fv_5_6, ft_5_6, fv_5_7, ft_5_7, fv_5_8, ft_5_8, fv_5_9, ft_5_9, fv_5_10, ft_5_10, fv_5_11, ft_5_11, fv_5_12, ft_5_12, fv_5_13, ft_5_13, fv_5_14, ft_5_14, fv_5_15, ft_5_15, fv_5_16, ft_5_16, fv_5_17, ft_5_17, fv_5_18, ft_5_18, fv_5_19, ft_5_19, fv_5_20, ft_5_20, fv_5_21, ft_5_21, fv_5_22, ft_5_22, kd_0, kd_1, kd_2, kd_3, kd_4, kd_5, kd_6, kd_7, kd_8, kd_9, kd_10, kd_11, kd_12, kd_13, kd_14, kd_15, kd_16, kd_17, kd_18, kd_19, kd_20, kd_21, kd_22, kd_23, kd_24, kd_25, kd_26, kd_27, kd_28, kd_29, kd_30, kd_31, kd_32, kd_33, kd_34, kd_35, kd_36, kd_37, kd_38, kd_39, rt_0_0, rt_0_1, rt_0_2, rt_0_3, rt_0_4, rt_0_5, rt_1_0, rt_1_1, rt_1_2, rt_1_3, rt_1_4, rt_1_5, rt_1_6, rt_1_7, rt_1_8, rt_2_0, rt_12_0, rt_12_1, rt_18_1, rt_18_6, rt_18_7, rt_18_8, rt_18_9, rt_18_10, rt_18_11, rt_18_12, rt_18_14, rt_18_15, rt_18_16, rt_18_17, rt_18_18, rt_18_19, rt_18_20, rt_18_21, rt_18_22, rt_N7, rt_N8, ra_3, ra_15, sc_pu, Nat.reduceAdd, Int.toNat_natCast, true_and, and_true, reduceIte, forall_const, Nat.reduceLeDiff, Nat.zero_le, sc_in, sc_in6, Int.reduceLE, Int.reduceNeg, Int.reduceLT, Int.reduceEq, Nat.reduceEqDiff, ne_eq, not_false_eq_true, lk_Mo_bestSum_0, lk_Mo_bestSum_1, lk_Mo_bestSum_4, lk_Mo_bestSum_5, lk_Mo_bestSum_8]) | with_reducible apply And.intro | with_reducible intro _
  refine ⟨_, h0, ?_⟩
  rintro _ m ⟨rfl, k1, k2, k3⟩
  have hs := mo_kp_sm k1
  have h1 := sp_Mo_sumOfPlan l G d m N (mo_sm_w hs hw) k2.1 W9 (by rw [hs 20 (by omega), hs 21 (by omega)]; exact hW)
  rw [mo_sum_at hs hw k3 W9] at h1
  repeat' first | (with_reducible refine sc_st1 tk_Mo_bestSum ?_; simp only [sc_dz, sc_gz, sc_brn, sc_stp, sc_nth, sc_sto_0, sc_sto_1, sc_sto_s, sc_stoJ_0, sc_stoJ_1, sc_stoJ_s, sc_k1_i, sc_k1_j, sc_k1_r, sc_k1_u, sc_x1, sc_x2, sc_xv, sc_xc, sc_1i, sc_2i, sc_1j, sc_2j, sc_1r, sc_ir, sc_iir, sc_jir, sc_xr, sc_jr, sc_1v, sc_2v, sc_vI, sc_vJ, sc_vR, sc_retI, sc_call, sc_callS, sc_args, sc_psh_i, sc_psh_j, sc_psh_r, sc_psh_u, sc_cats, sc_sw, sc_cpy, sc_isJ, fv_0_0, ft_0_0, fv_0_1, ft_0_1, fv_0_2, ft_0_2, fv_1_0, ft_1_0, fv_1_1, ft_1_1, fv_1_2, ft_1_2, fv_1_3, ft_1_3, fv_2_0, ft_2_0, fv_2_1, ft_2_1, fv_2_2, ft_2_2, fv_2_3, ft_2_3, fv_2_4, ft_2_4, fv_2_5, ft_2_5, fv_2_6, ft_2_6, fv_2_7, ft_2_7, fv_2_8, ft_2_8, fv_3_0, ft_3_0, fv_3_1, ft_3_1, fv_3_2, ft_3_2, fv_3_3, ft_3_3, fv_3_4, ft_3_4, fv_3_5, ft_3_5, fv_3_6, ft_3_6, fv_3_7, ft_3_7, fv_3_8, ft_3_8, fv_3_9, ft_3_9, fv_3_10, ft_3_10, fv_3_11, ft_3_11, fv_4_0, ft_4_0, fv_4_1, ft_4_1, fv_4_2, ft_4_2, fv_4_3, ft_4_3, fv_4_4, ft_4_4, fv_4_5, ft_4_5, fv_4_6, ft_4_6, fv_4_7, ft_4_7, fv_4_8, ft_4_8, fv_4_9, ft_4_9, fv_5_0, ft_5_0, fv_5_1, ft_5_1, fv_5_2, ft_5_2, fv_5_3, ft_5_3, fv_5_4, ft_5_4, fv_5_5, ft_5_5, fv_5_6, ft_5_6, fv_5_7, ft_5_7, fv_5_8, ft_5_8, fv_5_9, ft_5_9, fv_5_10, ft_5_10, fv_5_11, ft_5_11, fv_5_12, ft_5_12, fv_5_13, ft_5_13, fv_5_14, ft_5_14, fv_5_15, ft_5_15, fv_5_16, ft_5_16, fv_5_17, ft_5_17, fv_5_18, ft_5_18, fv_5_19, ft_5_19, fv_5_20, ft_5_20, fv_5_21, ft_5_21, fv_5_22, ft_5_22, kd_0, kd_1, kd_2, kd_3, kd_4, kd_5, kd_6, kd_7, kd_8, kd_9, kd_10, kd_11, kd_12, kd_13, kd_14, kd_15, kd_16, kd_17, kd_18, kd_19, kd_20, kd_21, kd_22, kd_23, kd_24, kd_25, kd_26, kd_27, kd_28, kd_29, kd_30, kd_31, kd_32, kd_33, kd_34, kd_35, kd_36, kd_37, kd_38, kd_39, rt_0_0, rt_0_1, rt_0_2, rt_0_3, rt_0_4, rt_0_5, rt_1_0, rt_1_1, rt_1_2, rt_1_3, rt_1_4, rt_1_5, rt_1_6, rt_1_7, rt_1_8, rt_2_0, rt_12_0, rt_12_1, rt_18_1, rt_18_6, rt_18_7, rt_18_8, rt_18_9, rt_18_10, rt_18_11, rt_18_12, rt_18_14, rt_18_15, rt_18_16, rt_18_17, rt_18_18, rt_18_19, rt_18_20, rt_18_21, rt_18_22, rt_N7, rt_N8, ra_3, ra_15, sc_pu, Nat.reduceAdd, Int.toNat_natCast, true_and, and_true, reduceIte, forall_const, Nat.reduceLeDiff, Nat.zero_le, sc_in, sc_in6, Int.reduceLE, Int.reduceNeg, Int.reduceLT, Int.reduceEq, Nat.reduceEqDiff, ne_eq, not_false_eq_true, lk_Mo_bestSum_0, lk_Mo_bestSum_1, lk_Mo_bestSum_4, lk_Mo_bestSum_5, lk_Mo_bestSum_8, if_true]) | with_reducible apply And.intro | with_reducible intro _ | (refine ⟨_, h1, ?_⟩; rintro _ _ ⟨rfl, rfl⟩)
  all_goals first | rfl | exact mo_kp_trans k1 (mo_mw_kp m N W9) | exact mo_mw_sc k2 W9 | exact ⟨rfl, mo_kp_trans k1 (mo_mw_kp m N W9), mo_mw_sc k2 W9⟩
