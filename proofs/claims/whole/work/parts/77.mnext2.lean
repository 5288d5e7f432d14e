def fo_st (M μ m : sc_M) (N W t k w : Nat) : Prop := (∀ b, b ≠ 27 → b ≠ 28 → m b = μ b) ∧ (∀ i, sc_in (m 28 i)) ∧ ∀ k' w', k' < N → w' < 243 → m 28 (243 * k' + w') = if k' < k ∨ (k' = k ∧ w' < w) then fo_P M N W (t + 1) k' w' else fo_P M N W t k' w'
def fo_at (M μ m : sc_M) (N W t : Nat) : Prop := (∀ b, b ≠ 27 → b ≠ 28 → m b = μ b) ∧ (∀ i, sc_in (m 28 i)) ∧ ∀ k' w', k' < N → w' < 243 → m 28 (243 * k' + w') = fo_P M N W t k' w'
def fo_ps (M μ : sc_M) (N W t : Nat) : sc_V → sc_M → Prop := fun r m => if t + 1 < fo_b M N W N then r = .inl (1) ∧ fo_at M μ m N W (t + 1) else r = .inl (0) ∧ (∀ b, b ≠ 27 → b ≠ 28 → m b = μ b) ∧ ∀ i, sc_in (m 28 i)
theorem fo_P_no {M : sc_M} {N W : Nat} (t k w : Nat) (h : ¬ (fo_sl M N k w ∧ w < W)) : fo_P M N W t k w = 0 := sc_if_neg _ _ h
theorem fo_P_yes {M : sc_M} {N W : Nat} (t k w : Nat) (h : fo_sl M N k w) (h2 : w < W) : fo_P M N W t k w = ((t / fo_R M N W k w % (M 21 k).toNat : Nat) : Int) := sc_if_pos _ _ ⟨h, h2⟩
theorem fo_r_no {M : sc_M} {N k : Nat} (b : Nat) (h : ∀ w, ¬ fo_sl M N k w) : ∀ w, fo_r M N k b w = b
  | 0 => rfl
  | w + 1 => by rw [fo_r, fo_mlt_neg _ _ (h w), fo_r_no b h w]
set_option maxRecDepth 100000 in
set_option maxHeartbeats 4000000 in
theorem lp_next_in (l : Launch) (G : sc_G) (d : Nat) (μ : sc_M) (M : sc_M) (N : Nat) (hw : mo_w M N) (hs : mo_sm M μ) (h31 : ∀ k, k < N → μ 31 k = M 24 k) (W : Nat) (hW : mo_sd (M 20) (M 21) N = W) (t k : Nat) (hk : k < N) (hic : md_ic M k) (hfk : M 25 k < 0) (htT : t < fo_b M N W N)
    (hnx : ∀ m v3 v4, fo_st M μ m N W t (k + 1) 0 → (t + 1) % fo_b M N W (k + 1) = 0 → sc_Wp l G (d + 1) mq_Mo_nextPlan 7 [.inr (.inr (.inl (18))), .inl ((W : Int)), .inl ((k : Int) + 1), v3, v4] [] m (fo_ps M μ N W t)) :
    ∀ (j w : Nat) (m : sc_M) (v4 : sc_V), w + j = W → fo_st M μ m N W t k w → (t + 1) % fo_R M N W k w = 0 → sc_Wp l G (d + 1) mq_Mo_nextPlan 17 [.inr (.inr (.inl (18))), .inl ((W : Int)), .inl ((k : Int)), .inl ((w : Int)), v4] [] m (fo_ps M μ N W t) := by
  have hN1 := hw.1
  have hsd := hw.2.2.2.1
  have hWb : W ≤ 243 := by omega
  have hKc := mo_ic_ne hw hk hic
  have hSk := (hw.2.2.1 k hk).2.2.1 hKc
  intro j
  induction j with
  | zero =>
    intro w m v4 hj hst hmod
    have hj : w = W := by omega
    subst hj
    have h1 := hnx m (.inl ((w : Int))) v4 ⟨hst.1, hst.2.1, fun k' w' hk' hw' => by
      rw [hst.2.2 k' w' hk' hw']
      by_cases hc : k' < k ∨ (k' = k ∧ w' < w)
      · rw [if_pos hc, if_pos (by omega)]
      · rw [if_neg hc]
        by_cases hc2 : k' < k + 1 ∨ (k' = k + 1 ∧ w' < 0)
        · rw [if_pos hc2, fo_P_no t k' w' (fun h => by omega), fo_P_no (t + 1) k' w' (fun h => by omega)]
        · rw [if_neg hc2]⟩ hmod
    clear hnx
    refine sc_rp ?_
    repeat' first | (with_reducible refine sc_st1 tk_Mo_nextPlan ?_; simp only [sc_dz, sc_gz, sc_brn, sc_stp, sc_nth, sc_sto_0, sc_sto_1, sc_sto_s, sc_stoJ_0, sc_stoJ_1, sc_stoJ_s, sc_k1_i, sc_k1_j, sc_k1_r, sc_k1_u, sc_x1, sc_x2, sc_xv, sc_xc, sc_1i, sc_2i, sc_1j, sc_2j, sc_1r, sc_ir, sc_iir, sc_jir, sc_xr, sc_jr, sc_1v, sc_2v, sc_vI, sc_vJ, sc_vR, sc_retI, sc_call, sc_callS, sc_args, sc_psh_i, sc_psh_j, sc_psh_r, sc_psh_u, sc_cats, sc_sw, sc_cpy, sc_isJ, fv_0_0, ft_0_0, fv_0_1, ft_0_1, fv_0_2, ft_0_2, fv_1_0, ft_1_0, fv_1_1, ft_1_1, fv_1_2, ft_1_2, fv_1_3, ft_1_3, fv_2_0, ft_2_0, fv_2_1, ft_2_1, fv_2_2, ft_2_2, fv_2_3, ft_2_3, fv_2_4, ft_2_4, fv_2_5, ft_2_5, fv_2_6, ft_2_6, fv_2_7, ft_2_7, fv_2_8, ft_2_8, fv_3_0, ft_3_0, fv_3_1, ft_3_1, fv_3_2, ft_3_2, fv_3_3, ft_3_3, fv_3_4, ft_3_4, fv_3_5, ft_3_5, fv_3_6, ft_3_6, fv_3_7, ft_3_7, fv_3_8, ft_3_8, fv_3_9, ft_3_9, fv_3_10, ft_3_10, fv_3_11, ft_3_11, fv_4_0, ft_4_0, fv_4_1, ft_4_1, fv_4_2, ft_4_2, fv_4_3, ft_4_3, fv_4_4, ft_4_4, fv_4_5, ft_4_5, fv_4_6, ft_4_6, fv_4_7, ft_4_7, fv_4_8, ft_4_8, fv_4_9, ft_4_9, fv_5_0, ft_5_0, fv_5_1, ft_5_1, fv_5_2, ft_5_2, fv_5_3, ft_5_3, fv_5_4, ft_5_4, fv_5_5, ft_5_5, fv_5_6, ft_5_6, fv_5_7, ft_5_7, fv_5_8, ft_5_8, fv_5_9, ft_5_9, fv_5_10, ft_5_10, fv_5_11, ft_5_11, fv_5_12, ft_5_12, fv_5_13, ft_5_13, fv_5_14, ft_5_14, fv_5_15, ft_5_15, fv_5_16, ft_5_16, fv_5_17, ft_5_17, fv_5_18, ft_5_18, fv_5_19, ft_5_19, fv_5_20, ft_5_20, fv_5_21, ft_5_21, fv_5_22, ft_5_22, kd_0, kd_1, kd_2, kd_3, kd_4, kd_5, kd_6, kd_7, kd_8, kd_9, kd_10, kd_11, kd_12, kd_13, kd_14, kd_15, kd_16, kd_17, kd_18, kd_19, kd_20, kd_21, kd_22, kd_23, kd_24, kd_25, kd_26, kd_27, kd_28, kd_29, kd_30, kd_31, kd_32, kd_33, kd_34, kd_35, kd_36, kd_37, kd_38, kd_39, rt_0_0, rt_0_1, rt_0_2, rt_0_3, rt_0_4, rt_0_5, rt_1_0, rt_1_1, rt_1_2, rt_1_3, rt_1_4, rt_1_5, rt_1_6, rt_1_7, rt_1_8, rt_2_0, rt_12_0, rt_12_1, rt_18_1, rt_18_6, rt_18_7, rt_18_8, rt_18_9, rt_18_10, rt_18_11, rt_18_12, rt_18_14, rt_18_15, rt_18_16, rt_18_17, rt_18_18, rt_18_19, rt_18_20, rt_18_21, rt_18_22, rt_N7, rt_N8, ra_3, ra_15, sc_pu, Nat.reduceAdd, Int.toNat_natCast, true_and, and_true, reduceIte, forall_const, Nat.reduceLeDiff, Nat.zero_le, sc_in, sc_in6, Int.reduceLE, Int.reduceNeg, Int.reduceLT, Int.reduceEq, Nat.reduceEqDiff, ne_eq, not_false_eq_true, lk_Mo_nextPlan_0, lk_Mo_nextPlan_1, lk_Mo_nextPlan_4, lk_Mo_nextPlan_5, lk_Mo_nextPlan_6, lk_Mo_nextPlan_7, lk_Mo_nextPlan_8, lk_Mo_nextPlan_9, lk_Mo_nextPlan_12, lk_Mo_nextPlan_15, lk_Mo_nextPlan_16, lk_Mo_nextPlan_17, lk_Mo_nextPlan_18, lk_Mo_nextPlan_19, lk_Mo_nextPlan_22, lk_Mo_nextPlan_23, lk_Mo_nextPlan_24, lk_Mo_nextPlan_27, lk_Mo_nextPlan_30, lk_Mo_nextPlan_31, lk_Mo_nextPlan_34, lk_Mo_nextPlan_35, lk_Mo_nextPlan_36, lk_Mo_nextPlan_39, lk_Mo_nextPlan_40, lk_Mo_nextPlan_41, lk_Mo_nextPlan_44, lk_Mo_nextPlan_45, lk_Mo_nextPlan_46, lk_Mo_nextPlan_49, lk_Mo_nextPlan_50, lk_Mo_nextPlan_51, lk_Mo_nextPlan_54, lk_Mo_nextPlan_55, lk_Mo_nextPlan_58, lk_Mo_nextPlan_61, lk_Mo_nextPlan_62, lk_Mo_nextPlan_63, lk_Mo_nextPlan_64, lk_Mo_nextPlan_65, lk_Mo_nextPlan_67, lk_Mo_nextPlan_68, lk_Mo_nextPlan_71, lk_Mo_nextPlan_73, lk_Mo_nextPlan_74, lk_Mo_nextPlan_75, lk_Mo_nextPlan_76, lk_Mo_nextPlan_77, lk_Mo_nextPlan_78, lk_Mo_nextPlan_79, lk_Mo_nextPlan_82, lk_Mo_nextPlan_84, lk_Mo_nextPlan_85, lk_Mo_nextPlan_86, lk_Mo_nextPlan_89, lk_Mo_nextPlan_90, lk_Mo_nextPlan_91, lk_Mo_nextPlan_94, lk_Mo_nextPlan_95, lk_Mo_nextPlan_96, lk_Mo_nextPlan_97, lk_Mo_nextPlan_100, lk_Mo_nextPlan_102, lk_Mo_nextPlan_103, lk_Mo_nextPlan_104, lk_Mo_nextPlan_107, lk_Mo_nextPlan_110, lk_Mo_nextPlan_113, lk_Mo_nextPlan_116, lk_Mo_nextPlan_117]) | with_reducible apply And.intro | with_reducible intro _
    all_goals first | exact h1 | omega | (exfalso; omega) | grind [sc_in, sc_in6]
  | succ j ih =>
    intro w m v4 hj hst hmod
    have hwW : w < W := by omega
    obtain ⟨s1, s2, s3⟩ := hst
    have hsm : mo_sm M m := fun b hb => by rw [s1 b (by omega) (by omega), hs b hb]
    have hwm := mo_sm_w hsm hw
    have c1 := sp_Mo_isChoice l G d m N hwm k hk
    rw [hsm 20 (by omega), hsm 18 (by omega), if_pos hic] at c1
    have c2 := sp_Mo_setWorld l G d m N hwm (w : Int) (by omega) ⟨by omega, by omega⟩
    have e1 : ∀ b, b ≠ 27 → sc_arr m 27 (mo_now (m 20) (m 21) (w : Int) (m 27) N) b = m b := fun b hb => sc_arr_ne _ _ hb
    have hs1 : mo_sm M (sc_arr m 27 (mo_now (m 20) (m 21) (w : Int) (m 27) N)) := fun b hb => by rw [e1 b (by omega), hsm b hb]
    have h27 : ∀ i, i < N → sc_arr m 27 (mo_now (m 20) (m 21) (w : Int) (m 27) N) 27 i = md_dg M w i := fun i hi => by
      rw [sc_arr_eq, mo_now_dg _ _ _ _ _ i hi, hsm 20 (by omega), hsm 21 (by omega)]
      rfl
    have c3 := sp_Mo_numberOf l G d (sc_arr m 27 (mo_now (m 20) (m 21) (w : Int) (m 27) N)) N (mo_sm_w hs1 hw) (M 24 k)
    rw [(mo_w_at hs1 hw w h27).1] at c3
    have e31 : sc_arr m 27 (mo_now (m 20) (m 21) (w : Int) (m 27) N) 31 k = M 24 k := by rw [e1 31 (by decide), s1 31 (by decide) (by decide)]; exact h31 k hk
    have e25 : m 25 k = M 25 k := by rw [hsm 25 (by omega)]
    have hF9 := (hw.2.2.1 k hk).2.2.2.2.2.2.1
    have hnb := md_nb_lt hw (M 24 k) w
    have t1 : ∀ b, b ≠ 27 → b ≠ 28 → sc_arr m 27 (mo_now (m 20) (m 21) (w : Int) (m 27) N) b = μ b := fun b h1 h2 => by rw [e1 b h1, s1 b h1 h2]
    have t2 : ∀ i, sc_in (sc_arr m 27 (mo_now (m 20) (m 21) (w : Int) (m 27) N) 28 i) := fun i => by rw [e1 28 (by decide)]; exact s2 i
    have t3 : ∀ k' w', k' < N → w' < 243 → sc_arr m 27 (mo_now (m 20) (m 21) (w : Int) (m 27) N) 28 (243 * k' + w') = if k' < k ∨ (k' = k ∧ w' < w) then fo_P M N W (t + 1) k' w' else fo_P M N W t k' w' := fun k' w' h1 h2 => by rw [e1 28 (by decide)]; exact s3 k' w' h1 h2
    have e21 : sc_arr m 27 (mo_now (m 20) (m 21) (w : Int) (m 27) N) 21 k = M 21 k := by rw [hs1 21 (by omega)]
    clear hs1 h27 s1 s2 s3 hwm e1
    generalize sc_arr m 27 (mo_now (m 20) (m 21) (w : Int) (m 27) N) = m1 at c2 c3 e31 t1 t2 t3 e21
    have at9 := t3 k w hk (by omega)
    rw [if_neg (by omega)] at at9
    by_cases hsl : fo_sl M N k w
    · have hnbw : md_nb M N (M 24 k) w = w := hsl.2.2
      rw [hnbw] at c3
      rw [fo_P_yes t k w hsl hwW] at at9
      have hRp : 0 < fo_R M N W k w := fo_r_pos hw k _ hk (fo_b_pos hw W k (by omega)) w
      have hSp : 0 < (M 21 k).toNat := by omega
      obtain ⟨-, ca, cb⟩ := fo_carry t (fo_R M N W k w) (M 21 k).toNat hRp hSp hmod
      have hdl := Nat.mod_lt (t / fo_R M N W k w) hSp
      obtain ⟨St, hSt⟩ := Int.eq_ofNat_of_zero_le (show 0 ≤ M 21 k by omega)
      have hSt2 : (M 21 k).toNat = St := by rw [hSt]; rfl
      rw [hSt2] at at9 ca cb hdl hSp
      rw [hSt] at e21 hSk
      have hot : ∀ v k' w', ¬ (k' = k ∧ w' = w) → w' < 243 → sc_up m1 28 (243 * k + w) v 28 (243 * k' + w') = m1 28 (243 * k' + w') := fun v k' w' h1 h2 => by
        rw [sc_up_eq]
        exact if_neg (by omega)
      have hat : ∀ v, sc_up m1 28 (243 * k + w) v 28 (243 * k + w) = v := fun v => by
        rw [sc_up_eq]
        exact if_pos rfl
      have hne : ∀ v b, b ≠ 28 → sc_up m1 28 (243 * k + w) v b = m1 b := fun v b hb => sc_up_ne _ _ _ hb
      have hin : ∀ v, sc_in v → ∀ i, sc_in (sc_up m1 28 (243 * k + w) v 28 i) := fun v hv i => by
        rw [sc_up_eq]
        simp only []
        split
        · exact hv
        · exact t2 i
      have e21' : ∀ v, sc_up m1 28 (243 * k + w) v 21 k = St := fun v => by rw [hne v 21 (by decide)]; exact e21
      by_cases hc : t / fo_R M N W k w % St + 1 < St
      · obtain ⟨ca1, ca2⟩ := ca hc
        have hlt : t + 1 < fo_b M N W N := by
          rcases Nat.lt_or_ge (t + 1) (fo_b M N W N) with h | h
          · exact h
          · exfalso
            have hT : t + 1 = fo_b M N W N := by omega
            have hd := fo_R_dvd M N W k w hsl hwW N 0 (by omega) (Or.inl hk)
            rw [show fo_R M N W N 0 = fo_b M N W N from rfl, ← hT, hSt2] at hd
            obtain ⟨z, hz⟩ := hd
            rw [hz, Nat.mul_assoc, Nat.mul_div_cancel_left _ hRp, Nat.mul_mod_right] at ca1
            omega
        have hfin : fo_ps M μ N W t (.inl (1)) (sc_up m1 28 (243 * k + w) (((t / fo_R M N W k w % St : Nat) : Int) + 1)) := by
          unfold fo_ps
          rw [if_pos hlt]
          refine ⟨rfl, fun b h1 h2 => by rw [hne _ b h2, t1 b h1 h2], hin _ ⟨by omega, by omega⟩, fun k' w' h1 h2 => ?_⟩
          by_cases hkw : k' = k ∧ w' = w
          · obtain ⟨rfl, rfl⟩ := hkw
            rw [hat, fo_P_yes (t + 1) k' w' hsl hwW, hSt2, ca1]
            rfl
          · rw [hot _ k' w' hkw h2, t3 k' w' h1 h2]
            by_cases hb : k' < k ∨ (k' = k ∧ w' < w)
            · rw [if_pos hb]
            · rw [if_neg hb]
              by_cases hs2 : fo_sl M N k' w' ∧ w' < W
              · rw [fo_P_yes t k' w' hs2.1 hs2.2, fo_P_yes (t + 1) k' w' hs2.1 hs2.2]
                have hd := fo_R_dvd M N W k w hsl hwW k' w' (by omega) (by omega)
                rw [hSt2] at hd
                rw [ca2 _ hd]
              · rw [fo_P_no t k' w' hs2, fo_P_no (t + 1) k' w' hs2]
        generalize t / fo_R M N W k w % St = dd at at9 hc hfin hdl
        clear ca cb ca1 ca2 ih hnx hot hne hin
        generalize fo_ps M μ N W t = Post at hfin ⊢
        refine sc_rp ?_
        repeat' first | (with_reducible refine sc_st1 tk_Mo_nextPlan ?_; simp only [sc_dz, sc_gz, sc_brn, sc_stp, sc_nth, sc_sto_0, sc_sto_1, sc_sto_s, sc_stoJ_0, sc_stoJ_1, sc_stoJ_s, sc_k1_i, sc_k1_j, sc_k1_r, sc_k1_u, sc_x1, sc_x2, sc_xv, sc_xc, sc_1i, sc_2i, sc_1j, sc_2j, sc_1r, sc_ir, sc_iir, sc_jir, sc_xr, sc_jr, sc_1v, sc_2v, sc_vI, sc_vJ, sc_vR, sc_retI, sc_call, sc_callS, sc_args, sc_psh_i, sc_psh_j, sc_psh_r, sc_psh_u, sc_cats, sc_sw, sc_cpy, sc_isJ, fv_0_0, ft_0_0, fv_0_1, ft_0_1, fv_0_2, ft_0_2, fv_1_0, ft_1_0, fv_1_1, ft_1_1, fv_1_2, ft_1_2, fv_1_3, ft_1_3, fv_2_0, ft_2_0, fv_2_1, ft_2_1, fv_2_2, ft_2_2, fv_2_3, ft_2_3, fv_2_4, ft_2_4, fv_2_5, ft_2_5, fv_2_6, ft_2_6, fv_2_7, ft_2_7, fv_2_8, ft_2_8, fv_3_0, ft_3_0, fv_3_1, ft_3_1, fv_3_2, ft_3_2, fv_3_3, ft_3_3, fv_3_4, ft_3_4, fv_3_5, ft_3_5, fv_3_6, ft_3_6, fv_3_7, ft_3_7, fv_3_8, ft_3_8, fv_3_9, ft_3_9, fv_3_10, ft_3_10, fv_3_11, ft_3_11, fv_4_0, ft_4_0, fv_4_1, ft_4_1, fv_4_2, ft_4_2, fv_4_3, ft_4_3, fv_4_4, ft_4_4, fv_4_5, ft_4_5, fv_4_6, ft_4_6, fv_4_7, ft_4_7, fv_4_8, ft_4_8, fv_4_9, ft_4_9, fv_5_0, ft_5_0, fv_5_1, ft_5_1, fv_5_2, ft_5_2, fv_5_3, ft_5_3, fv_5_4, ft_5_4, fv_5_5, ft_5_5, fv_5_6, ft_5_6, fv_5_7, ft_5_7, fv_5_8, ft_5_8, fv_5_9, ft_5_9, fv_5_10, ft_5_10, fv_5_11, ft_5_11, fv_5_12, ft_5_12, fv_5_13, ft_5_13, fv_5_14, ft_5_14, fv_5_15, ft_5_15, fv_5_16, ft_5_16, fv_5_17, ft_5_17, fv_5_18, ft_5_18, fv_5_19, ft_5_19, fv_5_20, ft_5_20, fv_5_21, ft_5_21, fv_5_22, ft_5_22, kd_0, kd_1, kd_2, kd_3, kd_4, kd_5, kd_6, kd_7, kd_8, kd_9, kd_10, kd_11, kd_12, kd_13, kd_14, kd_15, kd_16, kd_17, kd_18, kd_19, kd_20, kd_21, kd_22, kd_23, kd_24, kd_25, kd_26, kd_27, kd_28, kd_29, kd_30, kd_31, kd_32, kd_33, kd_34, kd_35, kd_36, kd_37, kd_38, kd_39, rt_0_0, rt_0_1, rt_0_2, rt_0_3, rt_0_4, rt_0_5, rt_1_0, rt_1_1, rt_1_2, rt_1_3, rt_1_4, rt_1_5, rt_1_6, rt_1_7, rt_1_8, rt_2_0, rt_12_0, rt_12_1, rt_18_1, rt_18_6, rt_18_7, rt_18_8, rt_18_9, rt_18_10, rt_18_11, rt_18_12, rt_18_14, rt_18_15, rt_18_16, rt_18_17, rt_18_18, rt_18_19, rt_18_20, rt_18_21, rt_18_22, rt_N7, rt_N8, ra_3, ra_15, sc_pu, Nat.reduceAdd, Int.toNat_natCast, true_and, and_true, reduceIte, forall_const, Nat.reduceLeDiff, Nat.zero_le, sc_in, sc_in6, Int.reduceLE, Int.reduceNeg, Int.reduceLT, Int.reduceEq, Nat.reduceEqDiff, ne_eq, not_false_eq_true, lk_Mo_nextPlan_0, lk_Mo_nextPlan_1, lk_Mo_nextPlan_4, lk_Mo_nextPlan_5, lk_Mo_nextPlan_6, lk_Mo_nextPlan_7, lk_Mo_nextPlan_8, lk_Mo_nextPlan_9, lk_Mo_nextPlan_12, lk_Mo_nextPlan_15, lk_Mo_nextPlan_16, lk_Mo_nextPlan_17, lk_Mo_nextPlan_18, lk_Mo_nextPlan_19, lk_Mo_nextPlan_22, lk_Mo_nextPlan_23, lk_Mo_nextPlan_24, lk_Mo_nextPlan_27, lk_Mo_nextPlan_30, lk_Mo_nextPlan_31, lk_Mo_nextPlan_34, lk_Mo_nextPlan_35, lk_Mo_nextPlan_36, lk_Mo_nextPlan_39, lk_Mo_nextPlan_40, lk_Mo_nextPlan_41, lk_Mo_nextPlan_44, lk_Mo_nextPlan_45, lk_Mo_nextPlan_46, lk_Mo_nextPlan_49, lk_Mo_nextPlan_50, lk_Mo_nextPlan_51, lk_Mo_nextPlan_54, lk_Mo_nextPlan_55, lk_Mo_nextPlan_58, lk_Mo_nextPlan_61, lk_Mo_nextPlan_62, lk_Mo_nextPlan_63, lk_Mo_nextPlan_64, lk_Mo_nextPlan_65, lk_Mo_nextPlan_67, lk_Mo_nextPlan_68, lk_Mo_nextPlan_71, lk_Mo_nextPlan_73, lk_Mo_nextPlan_74, lk_Mo_nextPlan_75, lk_Mo_nextPlan_76, lk_Mo_nextPlan_77, lk_Mo_nextPlan_78, lk_Mo_nextPlan_79, lk_Mo_nextPlan_82, lk_Mo_nextPlan_84, lk_Mo_nextPlan_85, lk_Mo_nextPlan_86, lk_Mo_nextPlan_89, lk_Mo_nextPlan_90, lk_Mo_nextPlan_91, lk_Mo_nextPlan_94, lk_Mo_nextPlan_95, lk_Mo_nextPlan_96, lk_Mo_nextPlan_97, lk_Mo_nextPlan_100, lk_Mo_nextPlan_102, lk_Mo_nextPlan_103, lk_Mo_nextPlan_104, lk_Mo_nextPlan_107, lk_Mo_nextPlan_110, lk_Mo_nextPlan_113, lk_Mo_nextPlan_116, lk_Mo_nextPlan_117, e25, e31, sc_t243, at9, hat, e21']) | with_reducible apply And.intro | with_reducible intro _ | omega | (refine ⟨_, c1, ?_⟩; rintro _ _ ⟨e1, e2⟩; rw [e1, e2]) | (refine ⟨_, c2, ?_⟩; rintro _ _ ⟨e1, e2⟩; rw [e1, e2]) | (refine ⟨_, c3, ?_⟩; rintro _ _ ⟨e1, e2⟩; rw [e1, e2])
        all_goals first | exact hfin | omega | (exfalso; omega) | grind [sc_in, sc_in6]
      · obtain ⟨cb1, cb2⟩ := cb hc
        have ih1 := fun v4 => ih (w + 1) (sc_up m1 28 (243 * k + w) 0) v4 (by omega) ⟨fun b h1 h2 => by rw [hne _ b h2, t1 b h1 h2], hin _ sc_zero, fun k' w' h1 h2 => by
          by_cases hkw : k' = k ∧ w' = w
          · obtain ⟨rfl, rfl⟩ := hkw
            rw [hat, if_pos (by omega), fo_P_yes (t + 1) k' w' hsl hwW, hSt2, cb1]
            rfl
          · rw [hot _ k' w' hkw h2, t3 k' w' h1 h2]
            by_cases hb : k' < k ∨ (k' = k ∧ w' < w)
            · rw [if_pos hb, if_pos (by omega)]
            · rw [if_neg hb, if_neg (by omega)]⟩ (by
          show (t + 1) % fo_r M N k (fo_b M N W k) (w + 1) = 0
          rw [fo_r, fo_mlt_pos _ _ hsl, hSt2]
          exact cb2)
        simp only [sc_cast1] at ih1
        rw [← sc_up_up m1 28 (243 * k + w) (((t / fo_R M N W k w % St : Nat) : Int) + 1) 0] at ih1
        generalize t / fo_R M N W k w % St = dd at at9 hc hdl ih1
        clear ca cb cb1 cb2 ih hnx hot hne hin
        generalize fo_ps M μ N W t = Post at ih1 ⊢
        refine sc_rp ?_
        repeat' first | (with_reducible refine sc_st1 tk_Mo_nextPlan ?_; simp only [sc_dz, sc_gz, sc_brn, sc_stp, sc_nth, sc_sto_0, sc_sto_1, sc_sto_s, sc_stoJ_0, sc_stoJ_1, sc_stoJ_s, sc_k1_i, sc_k1_j, sc_k1_r, sc_k1_u, sc_x1, sc_x2, sc_xv, sc_xc, sc_1i, sc_2i, sc_1j, sc_2j, sc_1r, sc_ir, sc_iir, sc_jir, sc_xr, sc_jr, sc_1v, sc_2v, sc_vI, sc_vJ, sc_vR, sc_retI, sc_call, sc_callS, sc_args, sc_psh_i, sc_psh_j, sc_psh_r, sc_psh_u, sc_cats, sc_sw, sc_cpy, sc_isJ, fv_0_0, ft_0_0, fv_0_1, ft_0_1, fv_0_2, ft_0_2, fv_1_0, ft_1_0, fv_1_1, ft_1_1, fv_1_2, ft_1_2, fv_1_3, ft_1_3, fv_2_0, ft_2_0, fv_2_1, ft_2_1, fv_2_2, ft_2_2, fv_2_3, ft_2_3, fv_2_4, ft_2_4, fv_2_5, ft_2_5, fv_2_6, ft_2_6, fv_2_7, ft_2_7, fv_2_8, ft_2_8, fv_3_0, ft_3_0, fv_3_1, ft_3_1, fv_3_2, ft_3_2, fv_3_3, ft_3_3, fv_3_4, ft_3_4, fv_3_5, ft_3_5, fv_3_6, ft_3_6, fv_3_7, ft_3_7, fv_3_8, ft_3_8, fv_3_9, ft_3_9, fv_3_10, ft_3_10, fv_3_11, ft_3_11, fv_4_0, ft_4_0, fv_4_1, ft_4_1, fv_4_2, ft_4_2, fv_4_3, ft_4_3, fv_4_4, ft_4_4, fv_4_5, ft_4_5, fv_4_6, ft_4_6, fv_4_7, ft_4_7, fv_4_8, ft_4_8, fv_4_9, ft_4_9, fv_5_0, ft_5_0, fv_5_1, ft_5_1, fv_5_2, ft_5_2, fv_5_3, ft_5_3, fv_5_4, ft_5_4, fv_5_5, ft_5_5, fv_5_6, ft_5_6, fv_5_7, ft_5_7, fv_5_8, ft_5_8, fv_5_9, ft_5_9, fv_5_10, ft_5_10, fv_5_11, ft_5_11, fv_5_12, ft_5_12, fv_5_13, ft_5_13, fv_5_14, ft_5_14, fv_5_15, ft_5_15, fv_5_16, ft_5_16, fv_5_17, ft_5_17, fv_5_18, ft_5_18, fv_5_19, ft_5_19, fv_5_20, ft_5_20, fv_5_21, ft_5_21, fv_5_22, ft_5_22, kd_0, kd_1, kd_2, kd_3, kd_4, kd_5, kd_6, kd_7, kd_8, kd_9, kd_10, kd_11, kd_12, kd_13, kd_14, kd_15, kd_16, kd_17, kd_18, kd_19, kd_20, kd_21, kd_22, kd_23, kd_24, kd_25, kd_26, kd_27, kd_28, kd_29, kd_30, kd_31, kd_32, kd_33, kd_34, kd_35, kd_36, kd_37, kd_38, kd_39, rt_0_0, rt_0_1, rt_0_2, rt_0_3, rt_0_4, rt_0_5, rt_1_0, rt_1_1, rt_1_2, rt_1_3, rt_1_4, rt_1_5, rt_1_6, rt_1_7, rt_1_8, rt_2_0, rt_12_0, rt_12_1, rt_18_1, rt_18_6, rt_18_7, rt_18_8, rt_18_9, rt_18_10, rt_18_11, rt_18_12, rt_18_14, rt_18_15, rt_18_16, rt_18_17, rt_18_18, rt_18_19, rt_18_20, rt_18_21, rt_18_22, rt_N7, rt_N8, ra_3, ra_15, sc_pu, Nat.reduceAdd, Int.toNat_natCast, true_and, and_true, reduceIte, forall_const, Nat.reduceLeDiff, Nat.zero_le, sc_in, sc_in6, Int.reduceLE, Int.reduceNeg, Int.reduceLT, Int.reduceEq, Nat.reduceEqDiff, ne_eq, not_false_eq_true, lk_Mo_nextPlan_0, lk_Mo_nextPlan_1, lk_Mo_nextPlan_4, lk_Mo_nextPlan_5, lk_Mo_nextPlan_6, lk_Mo_nextPlan_7, lk_Mo_nextPlan_8, lk_Mo_nextPlan_9, lk_Mo_nextPlan_12, lk_Mo_nextPlan_15, lk_Mo_nextPlan_16, lk_Mo_nextPlan_17, lk_Mo_nextPlan_18, lk_Mo_nextPlan_19, lk_Mo_nextPlan_22, lk_Mo_nextPlan_23, lk_Mo_nextPlan_24, lk_Mo_nextPlan_27, lk_Mo_nextPlan_30, lk_Mo_nextPlan_31, lk_Mo_nextPlan_34, lk_Mo_nextPlan_35, lk_Mo_nextPlan_36, lk_Mo_nextPlan_39, lk_Mo_nextPlan_40, lk_Mo_nextPlan_41, lk_Mo_nextPlan_44, lk_Mo_nextPlan_45, lk_Mo_nextPlan_46, lk_Mo_nextPlan_49, lk_Mo_nextPlan_50, lk_Mo_nextPlan_51, lk_Mo_nextPlan_54, lk_Mo_nextPlan_55, lk_Mo_nextPlan_58, lk_Mo_nextPlan_61, lk_Mo_nextPlan_62, lk_Mo_nextPlan_63, lk_Mo_nextPlan_64, lk_Mo_nextPlan_65, lk_Mo_nextPlan_67, lk_Mo_nextPlan_68, lk_Mo_nextPlan_71, lk_Mo_nextPlan_73, lk_Mo_nextPlan_74, lk_Mo_nextPlan_75, lk_Mo_nextPlan_76, lk_Mo_nextPlan_77, lk_Mo_nextPlan_78, lk_Mo_nextPlan_79, lk_Mo_nextPlan_82, lk_Mo_nextPlan_84, lk_Mo_nextPlan_85, lk_Mo_nextPlan_86, lk_Mo_nextPlan_89, lk_Mo_nextPlan_90, lk_Mo_nextPlan_91, lk_Mo_nextPlan_94, lk_Mo_nextPlan_95, lk_Mo_nextPlan_96, lk_Mo_nextPlan_97, lk_Mo_nextPlan_100, lk_Mo_nextPlan_102, lk_Mo_nextPlan_103, lk_Mo_nextPlan_104, lk_Mo_nextPlan_107, lk_Mo_nextPlan_110, lk_Mo_nextPlan_113, lk_Mo_nextPlan_116, lk_Mo_nextPlan_117, e25, e31, sc_t243, at9, hat, e21']) | with_reducible apply And.intro | with_reducible intro _ | omega | (refine ⟨_, c1, ?_⟩; rintro _ _ ⟨e1, e2⟩; rw [e1, e2]) | (refine ⟨_, c2, ?_⟩; rintro _ _ ⟨e1, e2⟩; rw [e1, e2]) | (refine ⟨_, c3, ?_⟩; rintro _ _ ⟨e1, e2⟩; rw [e1, e2])
        all_goals first | exact ih1 _ | omega | (exfalso; omega) | grind [sc_in, sc_in6]
    · have hnbw : ¬ md_nb M N (M 24 k) w = w := fun h => hsl ⟨hic, hfk, h⟩
      have ih1 := fun v4 => ih (w + 1) m1 v4 (by omega) ⟨t1, t2, fun k' w' h1 h2 => by
        rw [t3 k' w' h1 h2]
        by_cases hkw : k' = k ∧ w' = w
        · obtain ⟨rfl, rfl⟩ := hkw
          rw [if_neg (by omega), if_pos (by omega), fo_P_no t k' w' (fun h => hsl h.1), fo_P_no (t + 1) k' w' (fun h => hsl h.1)]
        · by_cases hb : k' < k ∨ (k' = k ∧ w' < w)
          · rw [if_pos hb, if_pos (by omega)]
          · rw [if_neg hb, if_neg (by omega)]⟩ (by
        show (t + 1) % fo_r M N k (fo_b M N W k) (w + 1) = 0
        rw [fo_r, fo_mlt_neg _ _ hsl]
        exact hmod)
      simp only [sc_cast1] at ih1
      clear ih hnx
      generalize md_nb M N (M 24 k) w = nb at c3 hnb hnbw
      generalize fo_ps M μ N W t = Post at ih1 ⊢
      refine sc_rp ?_
      repeat' first | (with_reducible refine sc_st1 tk_Mo_nextPlan ?_; simp only [sc_dz, sc_gz, sc_brn, sc_stp, sc_nth, sc_sto_0, sc_sto_1, sc_sto_s, sc_stoJ_0, sc_stoJ_1, sc_stoJ_s, sc_k1_i, sc_k1_j, sc_k1_r, sc_k1_u, sc_x1, sc_x2, sc_xv, sc_xc, sc_1i, sc_2i, sc_1j, sc_2j, sc_1r, sc_ir, sc_iir, sc_jir, sc_xr, sc_jr, sc_1v, sc_2v, sc_vI, sc_vJ, sc_vR, sc_retI, sc_call, sc_callS, sc_args, sc_psh_i, sc_psh_j, sc_psh_r, sc_psh_u, sc_cats, sc_sw, sc_cpy, sc_isJ, fv_0_0, ft_0_0, fv_0_1, ft_0_1, fv_0_2, ft_0_2, fv_1_0, ft_1_0, fv_1_1, ft_1_1, fv_1_2, ft_1_2, fv_1_3, ft_1_3, fv_2_0, ft_2_0, fv_2_1, ft_2_1, fv_2_2, ft_2_2, fv_2_3, ft_2_3, fv_2_4, ft_2_4, fv_2_5, ft_2_5, fv_2_6, ft_2_6, fv_2_7, ft_2_7, fv_2_8, ft_2_8, fv_3_0, ft_3_0, fv_3_1, ft_3_1, fv_3_2, ft_3_2, fv_3_3, ft_3_3, fv_3_4, ft_3_4, fv_3_5, ft_3_5, fv_3_6, ft_3_6, fv_3_7, ft_3_7, fv_3_8, ft_3_8, fv_3_9, ft_3_9, fv_3_10, ft_3_10, fv_3_11, ft_3_11, fv_4_0, ft_4_0, fv_4_1, ft_4_1, fv_4_2, ft_4_2, fv_4_3, ft_4_3, fv_4_4, ft_4_4, fv_4_5, ft_4_5, fv_4_6, ft_4_6, fv_4_7, ft_4_7, fv_4_8, ft_4_8, fv_4_9, ft_4_9, fv_5_0, ft_5_0, fv_5_1, ft_5_1, fv_5_2, ft_5_2, fv_5_3, ft_5_3, fv_5_4, ft_5_4, fv_5_5, ft_5_5, fv_5_6, ft_5_6, fv_5_7, ft_5_7, fv_5_8, ft_5_8, fv_5_9, ft_5_9, fv_5_10, ft_5_10, fv_5_11, ft_5_11, fv_5_12, ft_5_12, fv_5_13, ft_5_13, fv_5_14, ft_5_14, fv_5_15, ft_5_15, fv_5_16, ft_5_16, fv_5_17, ft_5_17, fv_5_18, ft_5_18, fv_5_19, ft_5_19, fv_5_20, ft_5_20, fv_5_21, ft_5_21, fv_5_22, ft_5_22, kd_0, kd_1, kd_2, kd_3, kd_4, kd_5, kd_6, kd_7, kd_8, kd_9, kd_10, kd_11, kd_12, kd_13, kd_14, kd_15, kd_16, kd_17, kd_18, kd_19, kd_20, kd_21, kd_22, kd_23, kd_24, kd_25, kd_26, kd_27, kd_28, kd_29, kd_30, kd_31, kd_32, kd_33, kd_34, kd_35, kd_36, kd_37, kd_38, kd_39, rt_0_0, rt_0_1, rt_0_2, rt_0_3, rt_0_4, rt_0_5, rt_1_0, rt_1_1, rt_1_2, rt_1_3, rt_1_4, rt_1_5, rt_1_6, rt_1_7, rt_1_8, rt_2_0, rt_12_0, rt_12_1, rt_18_1, rt_18_6, rt_18_7, rt_18_8, rt_18_9, rt_18_10, rt_18_11, rt_18_12, rt_18_14, rt_18_15, rt_18_16, rt_18_17, rt_18_18, rt_18_19, rt_18_20, rt_18_21, rt_18_22, rt_N7, rt_N8, ra_3, ra_15, sc_pu, Nat.reduceAdd, Int.toNat_natCast, true_and, and_true, reduceIte, forall_const, Nat.reduceLeDiff, Nat.zero_le, sc_in, sc_in6, Int.reduceLE, Int.reduceNeg, Int.reduceLT, Int.reduceEq, Nat.reduceEqDiff, ne_eq, not_false_eq_true, lk_Mo_nextPlan_0, lk_Mo_nextPlan_1, lk_Mo_nextPlan_4, lk_Mo_nextPlan_5, lk_Mo_nextPlan_6, lk_Mo_nextPlan_7, lk_Mo_nextPlan_8, lk_Mo_nextPlan_9, lk_Mo_nextPlan_12, lk_Mo_nextPlan_15, lk_Mo_nextPlan_16, lk_Mo_nextPlan_17, lk_Mo_nextPlan_18, lk_Mo_nextPlan_19, lk_Mo_nextPlan_22, lk_Mo_nextPlan_23, lk_Mo_nextPlan_24, lk_Mo_nextPlan_27, lk_Mo_nextPlan_30, lk_Mo_nextPlan_31, lk_Mo_nextPlan_34, lk_Mo_nextPlan_35, lk_Mo_nextPlan_36, lk_Mo_nextPlan_39, lk_Mo_nextPlan_40, lk_Mo_nextPlan_41, lk_Mo_nextPlan_44, lk_Mo_nextPlan_45, lk_Mo_nextPlan_46, lk_Mo_nextPlan_49, lk_Mo_nextPlan_50, lk_Mo_nextPlan_51, lk_Mo_nextPlan_54, lk_Mo_nextPlan_55, lk_Mo_nextPlan_58, lk_Mo_nextPlan_61, lk_Mo_nextPlan_62, lk_Mo_nextPlan_63, lk_Mo_nextPlan_64, lk_Mo_nextPlan_65, lk_Mo_nextPlan_67, lk_Mo_nextPlan_68, lk_Mo_nextPlan_71, lk_Mo_nextPlan_73, lk_Mo_nextPlan_74, lk_Mo_nextPlan_75, lk_Mo_nextPlan_76, lk_Mo_nextPlan_77, lk_Mo_nextPlan_78, lk_Mo_nextPlan_79, lk_Mo_nextPlan_82, lk_Mo_nextPlan_84, lk_Mo_nextPlan_85, lk_Mo_nextPlan_86, lk_Mo_nextPlan_89, lk_Mo_nextPlan_90, lk_Mo_nextPlan_91, lk_Mo_nextPlan_94, lk_Mo_nextPlan_95, lk_Mo_nextPlan_96, lk_Mo_nextPlan_97, lk_Mo_nextPlan_100, lk_Mo_nextPlan_102, lk_Mo_nextPlan_103, lk_Mo_nextPlan_104, lk_Mo_nextPlan_107, lk_Mo_nextPlan_110, lk_Mo_nextPlan_113, lk_Mo_nextPlan_116, lk_Mo_nextPlan_117, e25, e31]) | with_reducible apply And.intro | with_reducible intro _ | (refine ⟨_, c1, ?_⟩; rintro _ _ ⟨e1, e2⟩; rw [e1, e2]) | (refine ⟨_, c2, ?_⟩; rintro _ _ ⟨e1, e2⟩; rw [e1, e2]) | (refine ⟨_, c3, ?_⟩; rintro _ _ ⟨e1, e2⟩; rw [e1, e2])
      all_goals first | exact ih1 _ | omega | (exfalso; omega) | grind [sc_in, sc_in6]
set_option maxRecDepth 100000 in
set_option maxHeartbeats 4000000 in
theorem sp_Mo_nextPlan (l : Launch) (G : sc_G) (d : Nat) (μ : sc_M) (M : sc_M) (N : Nat) (hw : mo_w M N) (hs : mo_sm M μ) (h31 : ∀ k, k < N → μ 31 k = M 24 k) (W : Nat) (hW : mo_sd (M 20) (M 21) N = W) (t : Nat) (htT : t < fo_b M N W N) (hat : fo_at M μ μ N W t) : sc_Sp l G (d + 1) mq_Mo_nextPlan [.inr (.inr (.inl (18)))] μ (fo_ps M μ N W t) := by
  have hN1 := hw.1
  have hN : μ 18 5 = N := by rw [hs 18 (by omega)]; exact hw.2.1
  have hsd := hw.2.2.2.1
  have hW1 := mo_sd_pos (M 20) (M 21) N (fun k hk => (hw.2.2.1 k hk).2.2.1) N (Nat.le_refl _)
  have key : ∀ (j k : Nat) (m : sc_M) (v3 v4 : sc_V), k + j = N → fo_st M μ m N W t k 0 → (t + 1) % fo_b M N W k = 0 → sc_Wp l G (d + 1) mq_Mo_nextPlan 7 [.inr (.inr (.inl (18))), .inl ((W : Int)), .inl ((k : Int)), v3, v4] [] m (fo_ps M μ N W t) := by
    intro j
    induction j with
    | zero =>
      intro k m v3 v4 hj hst hmod
      have hj : k = N := by omega
      subst hj
      have hge : ¬ t + 1 < fo_b M k W k := fun h => by
        have := Nat.le_of_dvd (by omega) (Nat.dvd_of_mod_eq_zero hmod)
        omega
      have hN' : m 18 5 = k := by rw [hst.1 18 (by decide) (by decide)]; exact hN
      have hfin : fo_ps M μ k W t (.inl (0)) m := by
        unfold fo_ps
        rw [if_neg hge]
        exact ⟨rfl, hst.1, hst.2.1⟩
      generalize fo_ps M μ k W t = Post at hfin ⊢
      refine sc_rp ?_
      repeat' first | (with_reducible refine sc_st1 tk_Mo_nextPlan ?_; simp only [sc_dz, sc_gz, sc_brn, sc_stp, sc_nth, sc_sto_0, sc_sto_1, sc_sto_s, sc_stoJ_0, sc_stoJ_1, sc_stoJ_s, sc_k1_i, sc_k1_j, sc_k1_r, sc_k1_u, sc_x1, sc_x2, sc_xv, sc_xc, sc_1i, sc_2i, sc_1j, sc_2j, sc_1r, sc_ir, sc_iir, sc_jir, sc_xr, sc_jr, sc_1v, sc_2v, sc_vI, sc_vJ, sc_vR, sc_retI, sc_call, sc_callS, sc_args, sc_psh_i, sc_psh_j, sc_psh_r, sc_psh_u, sc_cats, sc_sw, sc_cpy, sc_isJ, fv_0_0, ft_0_0, fv_0_1, ft_0_1, fv_0_2, ft_0_2, fv_1_0, ft_1_0, fv_1_1, ft_1_1, fv_1_2, ft_1_2, fv_1_3, ft_1_3, fv_2_0, ft_2_0, fv_2_1, ft_2_1, fv_2_2, ft_2_2, fv_2_3, ft_2_3, fv_2_4, ft_2_4, fv_2_5, ft_2_5, fv_2_6, ft_2_6, fv_2_7, ft_2_7, fv_2_8, ft_2_8, fv_3_0, ft_3_0, fv_3_1, ft_3_1, fv_3_2, ft_3_2, fv_3_3, ft_3_3, fv_3_4, ft_3_4, fv_3_5, ft_3_5, fv_3_6, ft_3_6, fv_3_7, ft_3_7, fv_3_8, ft_3_8, fv_3_9, ft_3_9, fv_3_10, ft_3_10, fv_3_11, ft_3_11, fv_4_0, ft_4_0, fv_4_1, ft_4_1, fv_4_2, ft_4_2, fv_4_3, ft_4_3, fv_4_4, ft_4_4, fv_4_5, ft_4_5, fv_4_6, ft_4_6, fv_4_7, ft_4_7, fv_4_8, ft_4_8, fv_4_9, ft_4_9, fv_5_0, ft_5_0, fv_5_1, ft_5_1, fv_5_2, ft_5_2, fv_5_3, ft_5_3, fv_5_4, ft_5_4, fv_5_5, ft_5_5, fv_5_6, ft_5_6, fv_5_7, ft_5_7, fv_5_8, ft_5_8, fv_5_9, ft_5_9, fv_5_10, ft_5_10, fv_5_11, ft_5_11, fv_5_12, ft_5_12, fv_5_13, ft_5_13, fv_5_14, ft_5_14, fv_5_15, ft_5_15, fv_5_16, ft_5_16, fv_5_17, ft_5_17, fv_5_18, ft_5_18, fv_5_19, ft_5_19, fv_5_20, ft_5_20, fv_5_21, ft_5_21, fv_5_22, ft_5_22, kd_0, kd_1, kd_2, kd_3, kd_4, kd_5, kd_6, kd_7, kd_8, kd_9, kd_10, kd_11, kd_12, kd_13, kd_14, kd_15, kd_16, kd_17, kd_18, kd_19, kd_20, kd_21, kd_22, kd_23, kd_24, kd_25, kd_26, kd_27, kd_28, kd_29, kd_30, kd_31, kd_32, kd_33, kd_34, kd_35, kd_36, kd_37, kd_38, kd_39, rt_0_0, rt_0_1, rt_0_2, rt_0_3, rt_0_4, rt_0_5, rt_1_0, rt_1_1, rt_1_2, rt_1_3, rt_1_4, rt_1_5, rt_1_6, rt_1_7, rt_1_8, rt_2_0, rt_12_0, rt_12_1, rt_18_1, rt_18_6, rt_18_7, rt_18_8, rt_18_9, rt_18_10, rt_18_11, rt_18_12, rt_18_14, rt_18_15, rt_18_16, rt_18_17, rt_18_18, rt_18_19, rt_18_20, rt_18_21, rt_18_22, rt_N7, rt_N8, ra_3, ra_15, sc_pu, Nat.reduceAdd, Int.toNat_natCast, true_and, and_true, reduceIte, forall_const, Nat.reduceLeDiff, Nat.zero_le, sc_in, sc_in6, Int.reduceLE, Int.reduceNeg, Int.reduceLT, Int.reduceEq, Nat.reduceEqDiff, ne_eq, not_false_eq_true, lk_Mo_nextPlan_0, lk_Mo_nextPlan_1, lk_Mo_nextPlan_4, lk_Mo_nextPlan_5, lk_Mo_nextPlan_6, lk_Mo_nextPlan_7, lk_Mo_nextPlan_8, lk_Mo_nextPlan_9, lk_Mo_nextPlan_12, lk_Mo_nextPlan_15, lk_Mo_nextPlan_16, lk_Mo_nextPlan_17, lk_Mo_nextPlan_18, lk_Mo_nextPlan_19, lk_Mo_nextPlan_22, lk_Mo_nextPlan_23, lk_Mo_nextPlan_24, lk_Mo_nextPlan_27, lk_Mo_nextPlan_30, lk_Mo_nextPlan_31, lk_Mo_nextPlan_34, lk_Mo_nextPlan_35, lk_Mo_nextPlan_36, lk_Mo_nextPlan_39, lk_Mo_nextPlan_40, lk_Mo_nextPlan_41, lk_Mo_nextPlan_44, lk_Mo_nextPlan_45, lk_Mo_nextPlan_46, lk_Mo_nextPlan_49, lk_Mo_nextPlan_50, lk_Mo_nextPlan_51, lk_Mo_nextPlan_54, lk_Mo_nextPlan_55, lk_Mo_nextPlan_58, lk_Mo_nextPlan_61, lk_Mo_nextPlan_62, lk_Mo_nextPlan_63, lk_Mo_nextPlan_64, lk_Mo_nextPlan_65, lk_Mo_nextPlan_67, lk_Mo_nextPlan_68, lk_Mo_nextPlan_71, lk_Mo_nextPlan_73, lk_Mo_nextPlan_74, lk_Mo_nextPlan_75, lk_Mo_nextPlan_76, lk_Mo_nextPlan_77, lk_Mo_nextPlan_78, lk_Mo_nextPlan_79, lk_Mo_nextPlan_82, lk_Mo_nextPlan_84, lk_Mo_nextPlan_85, lk_Mo_nextPlan_86, lk_Mo_nextPlan_89, lk_Mo_nextPlan_90, lk_Mo_nextPlan_91, lk_Mo_nextPlan_94, lk_Mo_nextPlan_95, lk_Mo_nextPlan_96, lk_Mo_nextPlan_97, lk_Mo_nextPlan_100, lk_Mo_nextPlan_102, lk_Mo_nextPlan_103, lk_Mo_nextPlan_104, lk_Mo_nextPlan_107, lk_Mo_nextPlan_110, lk_Mo_nextPlan_113, lk_Mo_nextPlan_116, lk_Mo_nextPlan_117, hN']) | with_reducible apply And.intro | with_reducible intro _
      all_goals first | exact hfin | omega | (exfalso; omega) | grind [sc_in, sc_in6]
    | succ j ih =>
      intro k m v3 v4 hj hst hmod
      have hN' : m 18 5 = N := by rw [hst.1 18 (by decide) (by decide)]; exact hN
      have ih1 := fun m v3 v4 h1 h2 => ih (k + 1) m v3 v4 (by omega) h1 h2
      simp only [sc_cast1] at ih1
      have k0 : sc_Wp l G (d + 1) mq_Mo_nextPlan 17 [.inr (.inr (.inl (18))), .inl ((W : Int)), .inl ((k : Int)), .inl (0), v4] [] m (fo_ps M μ N W t) := by
        by_cases hc : md_ic M k ∧ M 25 k < 0
        · exact lp_next_in l G d μ M N hw hs h31 W hW t k (by omega) hc.1 hc.2 htT ih1 W 0 m v4 (by omega) hst hmod
        · have hno : ∀ w, ¬ fo_sl M N k w := fun w h => hc ⟨h.1, h.2.1⟩
          have ih2 := ih1 m (.inl (0)) v4 ⟨hst.1, hst.2.1, fun k' w' h1 h2 => by
            rw [hst.2.2 k' w' h1 h2]
            by_cases hkk : k' = k
            · subst hkk
              rw [fo_P_no t k' w' (fun h => hno w' h.1), fo_P_no (t + 1) k' w' (fun h => hno w' h.1)]
              simp
            · by_cases hb : k' < k ∨ (k' = k ∧ w' < 0)
              · rw [if_pos hb, if_pos (by omega)]
              · rw [if_neg hb, if_neg (by omega)]⟩ (by
            show (t + 1) % fo_r M N k (fo_b M N W k) W = 0
            rw [fo_r_no _ hno]
            exact hmod)
          have hsm : mo_sm M m := fun b hb => by rw [hst.1 b (by omega) (by omega), hs b hb]
          have c1 := sp_Mo_isChoice l G d m N (mo_sm_w hsm hw) k (by omega)
          rw [hsm 20 (by omega), hsm 18 (by omega)] at c1
          have e25 : m 25 k = M 25 k := by rw [hsm 25 (by omega)]
          have hF9 := (hw.2.2.1 k (by omega)).2.2.2.2.2.2.1
          clear ih ih1
          generalize fo_ps M μ N W t = Post at ih2 ⊢
          by_cases hi : md_ic M k
          · have hf9 : 0 ≤ M 25 k := Int.not_lt.mp (fun h => hc ⟨hi, h⟩)
            rw [if_pos hi] at c1
            refine sc_rp ?_
            repeat' first | (with_reducible refine sc_st1 tk_Mo_nextPlan ?_; simp only [sc_dz, sc_gz, sc_brn, sc_stp, sc_nth, sc_sto_0, sc_sto_1, sc_sto_s, sc_stoJ_0, sc_stoJ_1, sc_stoJ_s, sc_k1_i, sc_k1_j, sc_k1_r, sc_k1_u, sc_x1, sc_x2, sc_xv, sc_xc, sc_1i, sc_2i, sc_1j, sc_2j, sc_1r, sc_ir, sc_iir, sc_jir, sc_xr, sc_jr, sc_1v, sc_2v, sc_vI, sc_vJ, sc_vR, sc_retI, sc_call, sc_callS, sc_args, sc_psh_i, sc_psh_j, sc_psh_r, sc_psh_u, sc_cats, sc_sw, sc_cpy, sc_isJ, fv_0_0, ft_0_0, fv_0_1, ft_0_1, fv_0_2, ft_0_2, fv_1_0, ft_1_0, fv_1_1, ft_1_1, fv_1_2, ft_1_2, fv_1_3, ft_1_3, fv_2_0, ft_2_0, fv_2_1, ft_2_1, fv_2_2, ft_2_2, fv_2_3, ft_2_3, fv_2_4, ft_2_4, fv_2_5, ft_2_5, fv_2_6, ft_2_6, fv_2_7, ft_2_7, fv_2_8, ft_2_8, fv_3_0, ft_3_0, fv_3_1, ft_3_1, fv_3_2, ft_3_2, fv_3_3, ft_3_3, fv_3_4, ft_3_4, fv_3_5, ft_3_5, fv_3_6, ft_3_6, fv_3_7, ft_3_7, fv_3_8, ft_3_8, fv_3_9, ft_3_9, fv_3_10, ft_3_10, fv_3_11, ft_3_11, fv_4_0, ft_4_0, fv_4_1, ft_4_1, fv_4_2, ft_4_2, fv_4_3, ft_4_3, fv_4_4, ft_4_4, fv_4_5, ft_4_5, fv_4_6, ft_4_6, fv_4_7, ft_4_7, fv_4_8, ft_4_8, fv_4_9, ft_4_9, fv_5_0, ft_5_0, fv_5_1, ft_5_1, fv_5_2, ft_5_2, fv_5_3, ft_5_3, fv_5_4, ft_5_4, fv_5_5, ft_5_5, fv_5_6, ft_5_6, fv_5_7, ft_5_7, fv_5_8, ft_5_8, fv_5_9, ft_5_9, fv_5_10, ft_5_10, fv_5_11, ft_5_11, fv_5_12, ft_5_12, fv_5_13, ft_5_13, fv_5_14, ft_5_14, fv_5_15, ft_5_15, fv_5_16, ft_5_16, fv_5_17, ft_5_17, fv_5_18, ft_5_18, fv_5_19, ft_5_19, fv_5_20, ft_5_20, fv_5_21, ft_5_21, fv_5_22, ft_5_22, kd_0, kd_1, kd_2, kd_3, kd_4, kd_5, kd_6, kd_7, kd_8, kd_9, kd_10, kd_11, kd_12, kd_13, kd_14, kd_15, kd_16, kd_17, kd_18, kd_19, kd_20, kd_21, kd_22, kd_23, kd_24, kd_25, kd_26, kd_27, kd_28, kd_29, kd_30, kd_31, kd_32, kd_33, kd_34, kd_35, kd_36, kd_37, kd_38, kd_39, rt_0_0, rt_0_1, rt_0_2, rt_0_3, rt_0_4, rt_0_5, rt_1_0, rt_1_1, rt_1_2, rt_1_3, rt_1_4, rt_1_5, rt_1_6, rt_1_7, rt_1_8, rt_2_0, rt_12_0, rt_12_1, rt_18_1, rt_18_6, rt_18_7, rt_18_8, rt_18_9, rt_18_10, rt_18_11, rt_18_12, rt_18_14, rt_18_15, rt_18_16, rt_18_17, rt_18_18, rt_18_19, rt_18_20, rt_18_21, rt_18_22, rt_N7, rt_N8, ra_3, ra_15, sc_pu, Nat.reduceAdd, Int.toNat_natCast, true_and, and_true, reduceIte, forall_const, Nat.reduceLeDiff, Nat.zero_le, sc_in, sc_in6, Int.reduceLE, Int.reduceNeg, Int.reduceLT, Int.reduceEq, Nat.reduceEqDiff, ne_eq, not_false_eq_true, lk_Mo_nextPlan_0, lk_Mo_nextPlan_1, lk_Mo_nextPlan_4, lk_Mo_nextPlan_5, lk_Mo_nextPlan_6, lk_Mo_nextPlan_7, lk_Mo_nextPlan_8, lk_Mo_nextPlan_9, lk_Mo_nextPlan_12, lk_Mo_nextPlan_15, lk_Mo_nextPlan_16, lk_Mo_nextPlan_17, lk_Mo_nextPlan_18, lk_Mo_nextPlan_19, lk_Mo_nextPlan_22, lk_Mo_nextPlan_23, lk_Mo_nextPlan_24, lk_Mo_nextPlan_27, lk_Mo_nextPlan_30, lk_Mo_nextPlan_31, lk_Mo_nextPlan_34, lk_Mo_nextPlan_35, lk_Mo_nextPlan_36, lk_Mo_nextPlan_39, lk_Mo_nextPlan_40, lk_Mo_nextPlan_41, lk_Mo_nextPlan_44, lk_Mo_nextPlan_45, lk_Mo_nextPlan_46, lk_Mo_nextPlan_49, lk_Mo_nextPlan_50, lk_Mo_nextPlan_51, lk_Mo_nextPlan_54, lk_Mo_nextPlan_55, lk_Mo_nextPlan_58, lk_Mo_nextPlan_61, lk_Mo_nextPlan_62, lk_Mo_nextPlan_63, lk_Mo_nextPlan_64, lk_Mo_nextPlan_65, lk_Mo_nextPlan_67, lk_Mo_nextPlan_68, lk_Mo_nextPlan_71, lk_Mo_nextPlan_73, lk_Mo_nextPlan_74, lk_Mo_nextPlan_75, lk_Mo_nextPlan_76, lk_Mo_nextPlan_77, lk_Mo_nextPlan_78, lk_Mo_nextPlan_79, lk_Mo_nextPlan_82, lk_Mo_nextPlan_84, lk_Mo_nextPlan_85, lk_Mo_nextPlan_86, lk_Mo_nextPlan_89, lk_Mo_nextPlan_90, lk_Mo_nextPlan_91, lk_Mo_nextPlan_94, lk_Mo_nextPlan_95, lk_Mo_nextPlan_96, lk_Mo_nextPlan_97, lk_Mo_nextPlan_100, lk_Mo_nextPlan_102, lk_Mo_nextPlan_103, lk_Mo_nextPlan_104, lk_Mo_nextPlan_107, lk_Mo_nextPlan_110, lk_Mo_nextPlan_113, lk_Mo_nextPlan_116, lk_Mo_nextPlan_117, e25]) | with_reducible apply And.intro | with_reducible intro _ | (refine ⟨_, c1, ?_⟩; rintro _ _ ⟨e1, e2⟩; rw [e1, e2])
            all_goals first | exact ih2 | omega | (exfalso; omega) | grind [sc_in, sc_in6]
          · rw [if_neg hi] at c1
            refine sc_rp ?_
            repeat' first | (with_reducible refine sc_st1 tk_Mo_nextPlan ?_; simp only [sc_dz, sc_gz, sc_brn, sc_stp, sc_nth, sc_sto_0, sc_sto_1, sc_sto_s, sc_stoJ_0, sc_stoJ_1, sc_stoJ_s, sc_k1_i, sc_k1_j, sc_k1_r, sc_k1_u, sc_x1, sc_x2, sc_xv, sc_xc, sc_1i, sc_2i, sc_1j, sc_2j, sc_1r, sc_ir, sc_iir, sc_jir, sc_xr, sc_jr, sc_1v, sc_2v, sc_vI, sc_vJ, sc_vR, sc_retI, sc_call, sc_callS, sc_args, sc_psh_i, sc_psh_j, sc_psh_r, sc_psh_u, sc_cats, sc_sw, sc_cpy, sc_isJ, fv_0_0, ft_0_0, fv_0_1, ft_0_1, fv_0_2, ft_0_2, fv_1_0, ft_1_0, fv_1_1, ft_1_1, fv_1_2, ft_1_2, fv_1_3, ft_1_3, fv_2_0, ft_2_0, fv_2_1, ft_2_1, fv_2_2, ft_2_2, fv_2_3, ft_2_3, fv_2_4, ft_2_4, fv_2_5, ft_2_5, fv_2_6, ft_2_6, fv_2_7, ft_2_7, fv_2_8, ft_2_8, fv_3_0, ft_3_0, fv_3_1, ft_3_1, fv_3_2, ft_3_2, fv_3_3, ft_3_3, fv_3_4, ft_3_4, fv_3_5, ft_3_5, fv_3_6, ft_3_6, fv_3_7, ft_3_7, fv_3_8, ft_3_8, fv_3_9, ft_3_9, fv_3_10, ft_3_10, fv_3_11, ft_3_11, fv_4_0, ft_4_0, fv_4_1, ft_4_1, fv_4_2, ft_4_2, fv_4_3, ft_4_3, fv_4_4, ft_4_4, fv_4_5, ft_4_5, fv_4_6, ft_4_6, fv_4_7, ft_4_7, fv_4_8, ft_4_8, fv_4_9, ft_4_9, fv_5_0, ft_5_0, fv_5_1, ft_5_1, fv_5_2, ft_5_2, fv_5_3, ft_5_3, fv_5_4, ft_5_4, fv_5_5, ft_5_5, fv_5_6, ft_5_6, fv_5_7, ft_5_7, fv_5_8, ft_5_8, fv_5_9, ft_5_9, fv_5_10, ft_5_10, fv_5_11, ft_5_11, fv_5_12, ft_5_12, fv_5_13, ft_5_13, fv_5_14, ft_5_14, fv_5_15, ft_5_15, fv_5_16, ft_5_16, fv_5_17, ft_5_17, fv_5_18, ft_5_18, fv_5_19, ft_5_19, fv_5_20, ft_5_20, fv_5_21, ft_5_21, fv_5_22, ft_5_22, kd_0, kd_1, kd_2, kd_3, kd_4, kd_5, kd_6, kd_7, kd_8, kd_9, kd_10, kd_11, kd_12, kd_13, kd_14, kd_15, kd_16, kd_17, kd_18, kd_19, kd_20, kd_21, kd_22, kd_23, kd_24, kd_25, kd_26, kd_27, kd_28, kd_29, kd_30, kd_31, kd_32, kd_33, kd_34, kd_35, kd_36, kd_37, kd_38, kd_39, rt_0_0, rt_0_1, rt_0_2, rt_0_3, rt_0_4, rt_0_5, rt_1_0, rt_1_1, rt_1_2, rt_1_3, rt_1_4, rt_1_5, rt_1_6, rt_1_7, rt_1_8, rt_2_0, rt_12_0, rt_12_1, rt_18_1, rt_18_6, rt_18_7, rt_18_8, rt_18_9, rt_18_10, rt_18_11, rt_18_12, rt_18_14, rt_18_15, rt_18_16, rt_18_17, rt_18_18, rt_18_19, rt_18_20, rt_18_21, rt_18_22, rt_N7, rt_N8, ra_3, ra_15, sc_pu, Nat.reduceAdd, Int.toNat_natCast, true_and, and_true, reduceIte, forall_const, Nat.reduceLeDiff, Nat.zero_le, sc_in, sc_in6, Int.reduceLE, Int.reduceNeg, Int.reduceLT, Int.reduceEq, Nat.reduceEqDiff, ne_eq, not_false_eq_true, lk_Mo_nextPlan_0, lk_Mo_nextPlan_1, lk_Mo_nextPlan_4, lk_Mo_nextPlan_5, lk_Mo_nextPlan_6, lk_Mo_nextPlan_7, lk_Mo_nextPlan_8, lk_Mo_nextPlan_9, lk_Mo_nextPlan_12, lk_Mo_nextPlan_15, lk_Mo_nextPlan_16, lk_Mo_nextPlan_17, lk_Mo_nextPlan_18, lk_Mo_nextPlan_19, lk_Mo_nextPlan_22, lk_Mo_nextPlan_23, lk_Mo_nextPlan_24, lk_Mo_nextPlan_27, lk_Mo_nextPlan_30, lk_Mo_nextPlan_31, lk_Mo_nextPlan_34, lk_Mo_nextPlan_35, lk_Mo_nextPlan_36, lk_Mo_nextPlan_39, lk_Mo_nextPlan_40, lk_Mo_nextPlan_41, lk_Mo_nextPlan_44, lk_Mo_nextPlan_45, lk_Mo_nextPlan_46, lk_Mo_nextPlan_49, lk_Mo_nextPlan_50, lk_Mo_nextPlan_51, lk_Mo_nextPlan_54, lk_Mo_nextPlan_55, lk_Mo_nextPlan_58, lk_Mo_nextPlan_61, lk_Mo_nextPlan_62, lk_Mo_nextPlan_63, lk_Mo_nextPlan_64, lk_Mo_nextPlan_65, lk_Mo_nextPlan_67, lk_Mo_nextPlan_68, lk_Mo_nextPlan_71, lk_Mo_nextPlan_73, lk_Mo_nextPlan_74, lk_Mo_nextPlan_75, lk_Mo_nextPlan_76, lk_Mo_nextPlan_77, lk_Mo_nextPlan_78, lk_Mo_nextPlan_79, lk_Mo_nextPlan_82, lk_Mo_nextPlan_84, lk_Mo_nextPlan_85, lk_Mo_nextPlan_86, lk_Mo_nextPlan_89, lk_Mo_nextPlan_90, lk_Mo_nextPlan_91, lk_Mo_nextPlan_94, lk_Mo_nextPlan_95, lk_Mo_nextPlan_96, lk_Mo_nextPlan_97, lk_Mo_nextPlan_100, lk_Mo_nextPlan_102, lk_Mo_nextPlan_103, lk_Mo_nextPlan_104, lk_Mo_nextPlan_107, lk_Mo_nextPlan_110, lk_Mo_nextPlan_113, lk_Mo_nextPlan_116, lk_Mo_nextPlan_117, e25]) | with_reducible apply And.intro | with_reducible intro _ | (refine ⟨_, c1, ?_⟩; rintro _ _ ⟨e1, e2⟩; rw [e1, e2])
            all_goals first | exact ih2 | omega | (exfalso; omega) | grind [sc_in, sc_in6]
      clear ih ih1
      generalize fo_ps M μ N W t = Post at k0 ⊢
      refine sc_rp ?_
      repeat' first | (with_reducible refine sc_st1 tk_Mo_nextPlan ?_; simp only [sc_dz, sc_gz, sc_brn, sc_stp, sc_nth, sc_sto_0, sc_sto_1, sc_sto_s, sc_stoJ_0, sc_stoJ_1, sc_stoJ_s, sc_k1_i, sc_k1_j, sc_k1_r, sc_k1_u, sc_x1, sc_x2, sc_xv, sc_xc, sc_1i, sc_2i, sc_1j, sc_2j, sc_1r, sc_ir, sc_iir, sc_jir, sc_xr, sc_jr, sc_1v, sc_2v, sc_vI, sc_vJ, sc_vR, sc_retI, sc_call, sc_callS, sc_args, sc_psh_i, sc_psh_j, sc_psh_r, sc_psh_u, sc_cats, sc_sw, sc_cpy, sc_isJ, fv_0_0, ft_0_0, fv_0_1, ft_0_1, fv_0_2, ft_0_2, fv_1_0, ft_1_0, fv_1_1, ft_1_1, fv_1_2, ft_1_2, fv_1_3, ft_1_3, fv_2_0, ft_2_0, fv_2_1, ft_2_1, fv_2_2, ft_2_2, fv_2_3, ft_2_3, fv_2_4, ft_2_4, fv_2_5, ft_2_5, fv_2_6, ft_2_6, fv_2_7, ft_2_7, fv_2_8, ft_2_8, fv_3_0, ft_3_0, fv_3_1, ft_3_1, fv_3_2, ft_3_2, fv_3_3, ft_3_3, fv_3_4, ft_3_4, fv_3_5, ft_3_5, fv_3_6, ft_3_6, fv_3_7, ft_3_7, fv_3_8, ft_3_8, fv_3_9, ft_3_9, fv_3_10, ft_3_10, fv_3_11, ft_3_11, fv_4_0, ft_4_0, fv_4_1, ft_4_1, fv_4_2, ft_4_2, fv_4_3, ft_4_3, fv_4_4, ft_4_4, fv_4_5, ft_4_5, fv_4_6, ft_4_6, fv_4_7, ft_4_7, fv_4_8, ft_4_8, fv_4_9, ft_4_9, fv_5_0, ft_5_0, fv_5_1, ft_5_1, fv_5_2, ft_5_2, fv_5_3, ft_5_3, fv_5_4, ft_5_4, fv_5_5, ft_5_5, fv_5_6, ft_5_6, fv_5_7, ft_5_7, fv_5_8, ft_5_8, fv_5_9, ft_5_9, fv_5_10, ft_5_10, fv_5_11, ft_5_11, fv_5_12, ft_5_12, fv_5_13, ft_5_13, fv_5_14, ft_5_14, fv_5_15, ft_5_15, fv_5_16, ft_5_16, fv_5_17, ft_5_17, fv_5_18, ft_5_18, fv_5_19, ft_5_19, fv_5_20, ft_5_20, fv_5_21, ft_5_21, fv_5_22, ft_5_22, kd_0, kd_1, kd_2, kd_3, kd_4, kd_5, kd_6, kd_7, kd_8, kd_9, kd_10, kd_11, kd_12, kd_13, kd_14, kd_15, kd_16, kd_17, kd_18, kd_19, kd_20, kd_21, kd_22, kd_23, kd_24, kd_25, kd_26, kd_27, kd_28, kd_29, kd_30, kd_31, kd_32, kd_33, kd_34, kd_35, kd_36, kd_37, kd_38, kd_39, rt_0_0, rt_0_1, rt_0_2, rt_0_3, rt_0_4, rt_0_5, rt_1_0, rt_1_1, rt_1_2, rt_1_3, rt_1_4, rt_1_5, rt_1_6, rt_1_7, rt_1_8, rt_2_0, rt_12_0, rt_12_1, rt_18_1, rt_18_6, rt_18_7, rt_18_8, rt_18_9, rt_18_10, rt_18_11, rt_18_12, rt_18_14, rt_18_15, rt_18_16, rt_18_17, rt_18_18, rt_18_19, rt_18_20, rt_18_21, rt_18_22, rt_N7, rt_N8, ra_3, ra_15, sc_pu, Nat.reduceAdd, Int.toNat_natCast, true_and, and_true, reduceIte, forall_const, Nat.reduceLeDiff, Nat.zero_le, sc_in, sc_in6, Int.reduceLE, Int.reduceNeg, Int.reduceLT, Int.reduceEq, Nat.reduceEqDiff, ne_eq, not_false_eq_true, lk_Mo_nextPlan_0, lk_Mo_nextPlan_1, lk_Mo_nextPlan_4, lk_Mo_nextPlan_5, lk_Mo_nextPlan_6, lk_Mo_nextPlan_7, lk_Mo_nextPlan_8, lk_Mo_nextPlan_9, lk_Mo_nextPlan_12, lk_Mo_nextPlan_15, lk_Mo_nextPlan_16, lk_Mo_nextPlan_17, lk_Mo_nextPlan_18, lk_Mo_nextPlan_19, lk_Mo_nextPlan_22, lk_Mo_nextPlan_23, lk_Mo_nextPlan_24, lk_Mo_nextPlan_27, lk_Mo_nextPlan_30, lk_Mo_nextPlan_31, lk_Mo_nextPlan_34, lk_Mo_nextPlan_35, lk_Mo_nextPlan_36, lk_Mo_nextPlan_39, lk_Mo_nextPlan_40, lk_Mo_nextPlan_41, lk_Mo_nextPlan_44, lk_Mo_nextPlan_45, lk_Mo_nextPlan_46, lk_Mo_nextPlan_49, lk_Mo_nextPlan_50, lk_Mo_nextPlan_51, lk_Mo_nextPlan_54, lk_Mo_nextPlan_55, lk_Mo_nextPlan_58, lk_Mo_nextPlan_61, lk_Mo_nextPlan_62, lk_Mo_nextPlan_63, lk_Mo_nextPlan_64, lk_Mo_nextPlan_65, lk_Mo_nextPlan_67, lk_Mo_nextPlan_68, lk_Mo_nextPlan_71, lk_Mo_nextPlan_73, lk_Mo_nextPlan_74, lk_Mo_nextPlan_75, lk_Mo_nextPlan_76, lk_Mo_nextPlan_77, lk_Mo_nextPlan_78, lk_Mo_nextPlan_79, lk_Mo_nextPlan_82, lk_Mo_nextPlan_84, lk_Mo_nextPlan_85, lk_Mo_nextPlan_86, lk_Mo_nextPlan_89, lk_Mo_nextPlan_90, lk_Mo_nextPlan_91, lk_Mo_nextPlan_94, lk_Mo_nextPlan_95, lk_Mo_nextPlan_96, lk_Mo_nextPlan_97, lk_Mo_nextPlan_100, lk_Mo_nextPlan_102, lk_Mo_nextPlan_103, lk_Mo_nextPlan_104, lk_Mo_nextPlan_107, lk_Mo_nextPlan_110, lk_Mo_nextPlan_113, lk_Mo_nextPlan_116, lk_Mo_nextPlan_117, hN']) | with_reducible apply And.intro | with_reducible intro _
      all_goals first | exact k0 | omega | (exfalso; omega) | grind [sc_in, sc_in6]
  have k0 := key N 0 μ (.inr (.inr (.inr ()))) (.inr (.inr (.inr ()))) (by omega) ⟨hat.1, hat.2.1, fun k' w' h1 h2 => by rw [hat.2.2 k' w' h1 h2, if_neg (by omega)]⟩ (by rw [fo_b]; exact Nat.mod_one _)
  have c0 := sp_Mo_worlds l G d μ N (mo_sm_w hs hw)
  rw [hs 20 (by omega), hs 21 (by omega), hW] at c0
  clear key
  generalize fo_ps M μ N W t = Post at k0 ⊢
  refine sc_enter cm_Mo_nextPlan (plainFor_of_name (by decide)) [.inr (.inr (.inl (18))), .inr (.inr (.inr ())), .inr (.inr (.inr ())), .inr (.inr (.inr ())), .inr (.inr (.inr ()))] rfl rfl ?_
  refine sc_rp ?_
  repeat' first | (with_reducible refine sc_st1 tk_Mo_nextPlan ?_; simp only [sc_dz, sc_gz, sc_brn, sc_stp, sc_nth, sc_sto_0, sc_sto_1, sc_sto_s, sc_stoJ_0, sc_stoJ_1, sc_stoJ_s, sc_k1_i, sc_k1_j, sc_k1_r, sc_k1_u, sc_x1, sc_x2, sc_xv, sc_xc, sc_1i, sc_2i, sc_1j, sc_2j, sc_1r, sc_ir, sc_iir, sc_jir, sc_xr, sc_jr, sc_1v, sc_2v, sc_vI, sc_vJ, sc_vR, sc_retI, sc_call, sc_callS, sc_args, sc_psh_i, sc_psh_j, sc_psh_r, sc_psh_u, sc_cats, sc_sw, sc_cpy, sc_isJ, fv_0_0, ft_0_0, fv_0_1, ft_0_1, fv_0_2, ft_0_2, fv_1_0, ft_1_0, fv_1_1, ft_1_1, fv_1_2, ft_1_2, fv_1_3, ft_1_3, fv_2_0, ft_2_0, fv_2_1, ft_2_1, fv_2_2, ft_2_2, fv_2_3, ft_2_3, fv_2_4, ft_2_4, fv_2_5, ft_2_5, fv_2_6, ft_2_6, fv_2_7, ft_2_7, fv_2_8, ft_2_8, fv_3_0, ft_3_0, fv_3_1, ft_3_1, fv_3_2, ft_3_2, fv_3_3, ft_3_3, fv_3_4, ft_3_4, fv_3_5, ft_3_5, fv_3_6, ft_3_6, fv_3_7, ft_3_7, fv_3_8, ft_3_8, fv_3_9, ft_3_9, fv_3_10, ft_3_10, fv_3_11, ft_3_11, fv_4_0, ft_4_0, fv_4_1, ft_4_1, fv_4_2, ft_4_2, fv_4_3, ft_4_3, fv_4_4, ft_4_4, fv_4_5, ft_4_5, fv_4_6, ft_4_6, fv_4_7, ft_4_7, fv_4_8, ft_4_8, fv_4_9, ft_4_9, fv_5_0, ft_5_0, fv_5_1, ft_5_1, fv_5_2, ft_5_2, fv_5_3, ft_5_3, fv_5_4, ft_5_4, fv_5_5, ft_5_5, fv_5_6, ft_5_6, fv_5_7, ft_5_7, fv_5_8, ft_5_8, fv_5_9, ft_5_9, fv_5_10, ft_5_10, fv_5_11, ft_5_11, fv_5_12, ft_5_12, fv_5_13, ft_5_13, fv_5_14, ft_5_14, fv_5_15, ft_5_15, fv_5_16, ft_5_16, fv_5_17, ft_5_17, fv_5_18, ft_5_18, fv_5_19, ft_5_19, fv_5_20, ft_5_20, fv_5_21, ft_5_21, fv_5_22, ft_5_22, kd_0, kd_1, kd_2, kd_3, kd_4, kd_5, kd_6, kd_7, kd_8, kd_9, kd_10, kd_11, kd_12, kd_13, kd_14, kd_15, kd_16, kd_17, kd_18, kd_19, kd_20, kd_21, kd_22, kd_23, kd_24, kd_25, kd_26, kd_27, kd_28, kd_29, kd_30, kd_31, kd_32, kd_33, kd_34, kd_35, kd_36, kd_37, kd_38, kd_39, rt_0_0, rt_0_1, rt_0_2, rt_0_3, rt_0_4, rt_0_5, rt_1_0, rt_1_1, rt_1_2, rt_1_3, rt_1_4, rt_1_5, rt_1_6, rt_1_7, rt_1_8, rt_2_0, rt_12_0, rt_12_1, rt_18_1, rt_18_6, rt_18_7, rt_18_8, rt_18_9, rt_18_10, rt_18_11, rt_18_12, rt_18_14, rt_18_15, rt_18_16, rt_18_17, rt_18_18, rt_18_19, rt_18_20, rt_18_21, rt_18_22, rt_N7, rt_N8, ra_3, ra_15, sc_pu, Nat.reduceAdd, Int.toNat_natCast, true_and, and_true, reduceIte, forall_const, Nat.reduceLeDiff, Nat.zero_le, sc_in, sc_in6, Int.reduceLE, Int.reduceNeg, Int.reduceLT, Int.reduceEq, Nat.reduceEqDiff, ne_eq, not_false_eq_true, lk_Mo_nextPlan_0, lk_Mo_nextPlan_1, lk_Mo_nextPlan_4, lk_Mo_nextPlan_5, lk_Mo_nextPlan_6, lk_Mo_nextPlan_7, lk_Mo_nextPlan_8, lk_Mo_nextPlan_9, lk_Mo_nextPlan_12, lk_Mo_nextPlan_15, lk_Mo_nextPlan_16, lk_Mo_nextPlan_17, lk_Mo_nextPlan_18, lk_Mo_nextPlan_19, lk_Mo_nextPlan_22, lk_Mo_nextPlan_23, lk_Mo_nextPlan_24, lk_Mo_nextPlan_27, lk_Mo_nextPlan_30, lk_Mo_nextPlan_31, lk_Mo_nextPlan_34, lk_Mo_nextPlan_35, lk_Mo_nextPlan_36, lk_Mo_nextPlan_39, lk_Mo_nextPlan_40, lk_Mo_nextPlan_41, lk_Mo_nextPlan_44, lk_Mo_nextPlan_45, lk_Mo_nextPlan_46, lk_Mo_nextPlan_49, lk_Mo_nextPlan_50, lk_Mo_nextPlan_51, lk_Mo_nextPlan_54, lk_Mo_nextPlan_55, lk_Mo_nextPlan_58, lk_Mo_nextPlan_61, lk_Mo_nextPlan_62, lk_Mo_nextPlan_63, lk_Mo_nextPlan_64, lk_Mo_nextPlan_65, lk_Mo_nextPlan_67, lk_Mo_nextPlan_68, lk_Mo_nextPlan_71, lk_Mo_nextPlan_73, lk_Mo_nextPlan_74, lk_Mo_nextPlan_75, lk_Mo_nextPlan_76, lk_Mo_nextPlan_77, lk_Mo_nextPlan_78, lk_Mo_nextPlan_79, lk_Mo_nextPlan_82, lk_Mo_nextPlan_84, lk_Mo_nextPlan_85, lk_Mo_nextPlan_86, lk_Mo_nextPlan_89, lk_Mo_nextPlan_90, lk_Mo_nextPlan_91, lk_Mo_nextPlan_94, lk_Mo_nextPlan_95, lk_Mo_nextPlan_96, lk_Mo_nextPlan_97, lk_Mo_nextPlan_100, lk_Mo_nextPlan_102, lk_Mo_nextPlan_103, lk_Mo_nextPlan_104, lk_Mo_nextPlan_107, lk_Mo_nextPlan_110, lk_Mo_nextPlan_113, lk_Mo_nextPlan_116, lk_Mo_nextPlan_117, if_true]) | with_reducible apply And.intro | with_reducible intro _ | (refine ⟨_, c0, ?_⟩; rintro _ _ ⟨e1, e2⟩; rw [e1, e2])
  all_goals exact k0
