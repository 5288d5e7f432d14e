def cl_fr (M : sc_M) (k : Nat) : Prop := (k : Int) = M 18 13 ∨ (M 20 k = 2 ∧ M 25 k = -9)
noncomputable def cl_A (M : sc_M) (N W : Nat) (ω v : Nat → Int) (c key s : Nat) : Int := sc_sum (fun w => sc_if (md_nb M N (md_kn M c) w = key ∧ md_dg M w c = s) (ω w * v w) 0) W
noncomputable def cl_D (M : sc_M) (N W : Nat) (v : Nat → Int) (c : Nat) (ω : Nat → Int) : Nat → Int := fun w => sc_if (cl_fr M c ∧ ¬ md_dg M w c = (mo_am (cl_A M N W ω v c (md_nb M N (md_kn M c) w).toNat) (M 21 c).toNat : Int)) 0 (ω w)
noncomputable def cl_W (M : sc_M) (N W : Nat) (v ω : Nat → Int) : Nat → Nat → Int
  | 0 => ω
  | j + 1 => cl_D M N W v (N - 1 - j) (cl_W M N W v ω j)
theorem cl_W_01 (M : sc_M) (N W : Nat) (v ω : Nat → Int) : ∀ j w, cl_W M N W v ω j w = 0 ∨ cl_W M N W v ω j w = ω w
  | 0, w => Or.inr rfl
  | j + 1, w => by
    rw [cl_W, cl_D]
    by_cases h : cl_fr M (N - 1 - j) ∧ ¬ md_dg M w (N - 1 - j) = (mo_am (cl_A M N W (cl_W M N W v ω j) v (N - 1 - j) (md_nb M N (md_kn M (N - 1 - j)) w).toNat) (M 21 (N - 1 - j)).toNat : Int)
    · rw [sc_if_pos _ _ h]; exact Or.inl rfl
    · rw [sc_if_neg _ _ h]; exact cl_W_01 M N W v ω j w
def pl_ok (M μ : sc_M) (N : Nat) (ω v : Nat → Int) : Prop := cn_ok M μ N ∧ μ 1 10 = (na_sd M N : Int) ∧ μ 1 11 = M 18 13 ∧ (∀ n, n < N → μ 5 n = wo_kn M n) ∧ (∀ w, w < na_sd M N → μ 6 w = ω w) ∧ ∀ w, w < na_sd M N → μ 7 w = v w
def pl_bd (M : sc_M) (N : Nat) (ω v : Nat → Int) : Prop := ∀ w, w < na_sd M N → (0 ≤ ω w ∧ ω w ≤ 400000000) ∧ -2000 ≤ v w ∧ v w ≤ 2000
theorem pl_bd_W {M : sc_M} {N : Nat} {ω v : Nat → Int} (h : pl_bd M N ω v) (W j : Nat) : pl_bd M N (cl_W M N W v ω j) v := fun w hw => by
  have h1 := h w hw
  rcases cl_W_01 M N W v ω j w with e | e <;> rw [e] <;> omega
theorem cl_fr_ic {M : sc_M} {k : Nat} (h : cl_fr M k) : md_ic M k := h.elim Or.inr (fun h => Or.inl h.1)
theorem cl_sum_A {M μ : sc_M} {N : Nat} (hw : mo_w M N) (hx : mo_x M N) {ω v : Nat → Int} (h6 : ∀ w, w < na_sd M N → μ 6 w = ω w) (h7 : ∀ w, w < na_sd M N → μ 7 w = v w) (c : Nat) (hc : c < N) (hK : ¬ M 20 c = 0) (key s : Nat) (hkey : key < na_sd M c) : cl_sum M μ N (sc_bor (md_kn M c) (sc_bshl 1 (c : Int))) (key + s * na_sd M c) (na_sd M N) = cl_A M N (na_sd M N) ω v c key s := by
  unfold cl_sum cl_A
  refine sc_sum_cg _ _ _ (fun w hw9 => ?_)
  have hz := na_sd_eq hw c (by omega)
  have hnb := md_nb_kn hw hx c hc w
  have hd := md_dg_ok hw w c hc hK
  obtain ⟨a, ha⟩ := Int.eq_ofNat_of_zero_le hnb.1
  obtain ⟨b, hb⟩ := Int.eq_ofNat_of_zero_le hd.1
  rw [h6 w hw9, h7 w hw9, md_nb_own hw hx c hc hK w, hz.1, ha, hb]
  rw [ha, hz.1] at hnb
  have e : (a : Int) + (na_sd M c : Int) * (b : Int) = ((key + s * na_sd M c : Nat) : Int) ↔ ((a : Int) = key ∧ (b : Int) = s) := by
    rw [← Int.natCast_mul, ← Int.natCast_add]
    constructor
    · intro h
      have h := Int.ofNat.inj h
      have h1 := congrArg (· % na_sd M c) h
      simp only [Nat.add_mul_mod_self_left, Nat.add_mul_mod_self_right] at h1
      rw [Nat.mod_eq_of_lt (by omega), Nat.mod_eq_of_lt hkey] at h1
      have h2 : na_sd M c * b = na_sd M c * s := by rw [Nat.mul_comm (na_sd M c) s]; omega
      exact ⟨by omega, by rw [Nat.eq_of_mul_eq_mul_left hz.2 h2]⟩
    · rintro ⟨h1, h2⟩
      rw [show a = key by omega, show b = s by omega, Nat.mul_comm (na_sd M c) s]
  by_cases hq : (a : Int) = key ∧ (b : Int) = s
  · rw [if_pos (e.mpr hq), sc_if_pos _ _ hq]
  · rw [if_neg (fun h => hq (e.mp h)), sc_if_neg _ _ hq]
theorem cl_sum_in {M μ : sc_M} {N : Nat} (hw : mo_w M N) {ω v : Nat → Int} (h6 : ∀ w, w < na_sd M N → μ 6 w = ω w) (h7 : ∀ w, w < na_sd M N → μ 7 w = v w) (hb : pl_bd M N ω v) (s : Int) (i : Nat) : sc_in6 (cl_sum M μ N s i (na_sd M N)) := by
  have hZ := na_sd_243 hw N (Nat.le_refl _)
  have h := sc_sum_le (fun w => if md_nb M N s w = (i : Int) then μ 6 w * μ 7 w else 0) 800000000000 (na_sd M N) (fun w hw9 => by
    have h1 := hb w hw9
    rw [h6 w hw9, h7 w hw9]
    split
    · have a1 := Int.mul_le_mul_of_nonneg_left h1.2.2 h1.1.1
      have a2 := Int.mul_le_mul_of_nonneg_left h1.2.1 h1.1.1
      constructor <;> omega
    · omega)
  unfold cl_sum
  exact ⟨by omega, by omega⟩
set_option maxRecDepth 100000 in
set_option maxHeartbeats 4000000 in
theorem sp_Wo_settleBehind (l : Launch) (G : sc_G) (d : Nat) (μ : sc_M) (M : sc_M) (N : Nat) (hw : mo_w M N) (hx : mo_x M N) (ω v : Nat → Int) (hp : pl_ok M μ N ω v) (hb : pl_bd M N ω v) (f1 : Nat) (hf : f1 ≤ N) : sc_Sp l G (d + 2) mq_Wo_settleBehind [.inr (.inr (.inl (1))), .inl ((f1 : Int) - 1)] μ (fun r μ' => r = .inr (.inr (.inr ())) ∧ (∀ b, b ≠ 6 → b ≠ 8 → b ≠ 9 → μ' b = μ b) ∧ ∀ w, w < na_sd M N → μ' 6 w = cl_W M N (na_sd M N) v ω (N - f1) w) := by
  have hN1 := hw.1
  have hN := hp.1.1.2.1
  have lo : ∀ (j : Nat) (m : sc_M), f1 + j ≤ N → (∀ b, b ≠ 6 → b ≠ 8 → b ≠ 9 → m b = μ b) → (∀ w, w < na_sd M N → m 6 w = cl_W M N (na_sd M N) v ω (N - (f1 + j)) w) → sc_Wp l G (d + 2) mq_Wo_settleBehind 10 [.inr (.inr (.inl (1))), .inl ((f1 : Int) - 1), .inl (((f1 + j : Nat) : Int) - 1)] [] m (fun r μ' => r = .inr (.inr (.inr ())) ∧ (∀ b, b ≠ 6 → b ≠ 8 → b ≠ 9 → μ' b = μ b) ∧ ∀ w, w < na_sd M N → μ' 6 w = cl_W M N (na_sd M N) v ω (N - f1) w) := by
    intro j
    induction j with
    | zero =>
      intro m hj g1 g2
      refine sc_rp ?_
      repeat' first | (with_reducible refine sc_st1 tk_Wo_settleBehind ?_; simp only [sc_dz, sc_gz, sc_brn, sc_stp, sc_nth, sc_sto_0, sc_sto_1, sc_sto_s, sc_stoJ_0, sc_stoJ_1, sc_stoJ_s, sc_k1_i, sc_k1_j, sc_k1_r, sc_k1_u, sc_x1, sc_x2, sc_xv, sc_xc, sc_1i, sc_2i, sc_1j, sc_2j, sc_1r, sc_ir, sc_iir, sc_jir, sc_xr, sc_jr, sc_1v, sc_2v, sc_vI, sc_vJ, sc_vR, sc_retI, sc_call, sc_callS, sc_args, sc_psh_i, sc_psh_j, sc_psh_r, sc_psh_u, sc_cats, sc_sw, sc_cpy, sc_isJ, fv_0_0, ft_0_0, fv_0_1, ft_0_1, fv_0_2, ft_0_2, fv_1_0, ft_1_0, fv_1_1, ft_1_1, fv_1_2, ft_1_2, fv_1_3, ft_1_3, fv_2_0, ft_2_0, fv_2_1, ft_2_1, fv_2_2, ft_2_2, fv_2_3, ft_2_3, fv_2_4, ft_2_4, fv_2_5, ft_2_5, fv_2_6, ft_2_6, fv_2_7, ft_2_7, fv_2_8, ft_2_8, fv_3_0, ft_3_0, fv_3_1, ft_3_1, fv_3_2, ft_3_2, fv_3_3, ft_3_3, fv_3_4, ft_3_4, fv_3_5, ft_3_5, fv_3_6, ft_3_6, fv_3_7, ft_3_7, fv_3_8, ft_3_8, fv_3_9, ft_3_9, fv_3_10, ft_3_10, fv_3_11, ft_3_11, fv_4_0, ft_4_0, fv_4_1, ft_4_1, fv_4_2, ft_4_2, fv_4_3, ft_4_3, fv_4_4, ft_4_4, fv_4_5, ft_4_5, fv_4_6, ft_4_6, fv_4_7, ft_4_7, fv_4_8, ft_4_8, fv_4_9, ft_4_9, fv_5_0, ft_5_0, fv_5_1, ft_5_1, fv_5_2, ft_5_2, fv_5_3, ft_5_3, fv_5_4, ft_5_4, fv_5_5, ft_5_5, fv_5_6, ft_5_6, fv_5_7, ft_5_7, fv_5_8, ft_5_8, fv_5_9, ft_5_9, fv_5_10, ft_5_10, fv_5_11, ft_5_11, fv_5_12, ft_5_12, fv_5_13, ft_5_13, fv_5_14, ft_5_14, fv_5_15, ft_5_15, fv_5_16, ft_5_16, fv_5_17, ft_5_17, fv_5_18, ft_5_18, fv_5_19, ft_5_19, fv_5_20, ft_5_20, fv_5_21, ft_5_21, fv_5_22, ft_5_22, kd_0, kd_1, kd_2, kd_3, kd_4, kd_5, kd_6, kd_7, kd_8, kd_9, kd_10, kd_11, kd_12, kd_13, kd_14, kd_15, kd_16, kd_17, kd_18, kd_19, kd_20, kd_21, kd_22, kd_23, kd_24, kd_25, kd_26, kd_27, kd_28, kd_29, kd_30, kd_31, kd_32, kd_33, kd_34, kd_35, kd_36, kd_37, kd_38, kd_39, rt_0_0, rt_0_1, rt_0_2, rt_0_3, rt_0_4, rt_0_5, rt_1_0, rt_1_1, rt_1_2, rt_1_3, rt_1_4, rt_1_5, rt_1_6, rt_1_7, rt_1_8, rt_2_0, rt_12_0, rt_12_1, rt_18_1, rt_18_6, rt_18_7, rt_18_8, rt_18_9, rt_18_10, rt_18_11, rt_18_12, rt_18_14, rt_18_15, rt_18_16, rt_18_17, rt_18_18, rt_18_19, rt_18_20, rt_18_21, rt_18_22, rt_N7, rt_N8, ra_3, ra_15, sc_pu, Nat.reduceAdd, Int.toNat_natCast, true_and, and_true, reduceIte, forall_const, Nat.reduceLeDiff, Nat.zero_le, sc_in, sc_in6, Int.reduceLE, Int.reduceNeg, Int.reduceLT, Int.reduceEq, Nat.reduceEqDiff, ne_eq, not_false_eq_true, lk_Wo_settleBehind_0, lk_Wo_settleBehind_1, lk_Wo_settleBehind_4, lk_Wo_settleBehind_7, lk_Wo_settleBehind_8, lk_Wo_settleBehind_9, lk_Wo_settleBehind_10, lk_Wo_settleBehind_11, lk_Wo_settleBehind_12, lk_Wo_settleBehind_15, lk_Wo_settleBehind_16, lk_Wo_settleBehind_17, lk_Wo_settleBehind_20, lk_Wo_settleBehind_23, lk_Wo_settleBehind_26, lk_Wo_settleBehind_27, lk_Wo_settleBehind_28, lk_Wo_settleBehind_31, lk_Wo_settleBehind_32, lk_Wo_settleBehind_33, lk_Wo_settleBehind_36, lk_Wo_settleBehind_39, lk_Wo_settleBehind_40, lk_Wo_settleBehind_41, lk_Wo_settleBehind_44, lk_Wo_settleBehind_47, lk_Wo_settleBehind_50]) | with_reducible apply And.intro | with_reducible intro _
      all_goals first | rfl | exact g1 _ ‹_› ‹_› ‹_› | exact g2 _ ‹_› | exact g1 | exact g2 | omega | (exfalso; omega)
    | succ j ih =>
      intro m hj g1 g2
      rw [show ((f1 + (j + 1) : Nat) : Int) - 1 = ((f1 + j : Nat) : Int) by omega]
      have ih1 := fun m h1 h2 => ih m (by omega) h1 h2
      clear ih
      have hWs : cl_W M N (na_sd M N) v ω (N - (f1 + j)) = cl_D M N (na_sd M N) v (f1 + j) (cl_W M N (na_sd M N) v ω (N - (f1 + (j + 1)))) := by
        rw [show N - (f1 + j) = (N - (f1 + (j + 1))) + 1 by omega, cl_W, show N - 1 - (N - (f1 + (j + 1))) = f1 + j by omega]
      rw [hWs] at ih1
      have hbj := pl_bd_W hb (na_sd M N) (N - (f1 + (j + 1)))
      clear hWs
      generalize cl_W M N (na_sd M N) v ω (N - (f1 + (j + 1))) = ωj at g2 ih1 hbj
      generalize cl_W M N (na_sd M N) v ω (N - f1) = ωf at ih1 ⊢
      have hcN : f1 + j < N := by omega
      have hge : (f1 : Int) - 1 < ((f1 + j : Nat) : Int) := by omega
      generalize hcc : f1 + j = c at hcN ih1 hge ⊢
      have hc10 : c < 10 := by omega
      have hcm : cn_ok M m N := cn_ok_cells hp.1 (fun b hb => g1 b (by omega) (by omega) (by omega))
      have hm10 : m 1 10 = (na_sd M N : Int) := by rw [g1 1 (by decide) (by decide) (by decide)]; exact hp.2.1
      have c1 := sp_Wo_isFree l G d m M N hw hcm (by rw [g1 1 (by decide) (by decide) (by decide)]; exact hp.2.2.1) c hcN
      by_cases hfr : cl_fr M c
      · rw [if_pos (show (c : Int) = M 18 13 ∨ (M 20 c = 2 ∧ M 25 c = -9) from hfr)] at c1
        have hic := cl_fr_ic hfr
        have hK := mo_ic_ne hw hcN hic
        have hSk := (hw.2.2.1 c hcN).2.2.1 hK
        obtain ⟨S, hS⟩ := Int.eq_ofNat_of_zero_le (show 0 ≤ M 21 c by omega)
        have h5 : m 5 c = md_kn M c := by rw [g1 5 (by decide) (by decide) (by decide), hp.2.2.2.1 c hcN, wo_kn_md hw c hcN hic]
        have h7 : ∀ w, w < na_sd M N → m 7 w = v w := fun w hw9 => by rw [g1 7 (by decide) (by decide) (by decide)]; exact hp.2.2.2.2.2 w hw9
        have c2 := sp_Wo_sumUp l G (d) m M N hw hcm hm10 c hcN (by rw [h5]; exact md_kn_lt hw c hcN) (fun w hw9 => by rw [g2 w hw9]; have := hbj w hw9; exact ⟨by omega, by omega⟩) (fun w hw9 => by rw [h7 w hw9]; have := hbj w hw9; exact ⟨by omega, by omega⟩)
        rw [h5] at c2
        refine sc_rp ?_
        repeat' first | (with_reducible refine sc_st1 tk_Wo_settleBehind ?_; simp only [sc_dz, sc_gz, sc_brn, sc_stp, sc_nth, sc_sto_0, sc_sto_1, sc_sto_s, sc_stoJ_0, sc_stoJ_1, sc_stoJ_s, sc_k1_i, sc_k1_j, sc_k1_r, sc_k1_u, sc_x1, sc_x2, sc_xv, sc_xc, sc_1i, sc_2i, sc_1j, sc_2j, sc_1r, sc_ir, sc_iir, sc_jir, sc_xr, sc_jr, sc_1v, sc_2v, sc_vI, sc_vJ, sc_vR, sc_retI, sc_call, sc_callS, sc_args, sc_psh_i, sc_psh_j, sc_psh_r, sc_psh_u, sc_cats, sc_sw, sc_cpy, sc_isJ, fv_0_0, ft_0_0, fv_0_1, ft_0_1, fv_0_2, ft_0_2, fv_1_0, ft_1_0, fv_1_1, ft_1_1, fv_1_2, ft_1_2, fv_1_3, ft_1_3, fv_2_0, ft_2_0, fv_2_1, ft_2_1, fv_2_2, ft_2_2, fv_2_3, ft_2_3, fv_2_4, ft_2_4, fv_2_5, ft_2_5, fv_2_6, ft_2_6, fv_2_7, ft_2_7, fv_2_8, ft_2_8, fv_3_0, ft_3_0, fv_3_1, ft_3_1, fv_3_2, ft_3_2, fv_3_3, ft_3_3, fv_3_4, ft_3_4, fv_3_5, ft_3_5, fv_3_6, ft_3_6, fv_3_7, ft_3_7, fv_3_8, ft_3_8, fv_3_9, ft_3_9, fv_3_10, ft_3_10, fv_3_11, ft_3_11, fv_4_0, ft_4_0, fv_4_1, ft_4_1, fv_4_2, ft_4_2, fv_4_3, ft_4_3, fv_4_4, ft_4_4, fv_4_5, ft_4_5, fv_4_6, ft_4_6, fv_4_7, ft_4_7, fv_4_8, ft_4_8, fv_4_9, ft_4_9, fv_5_0, ft_5_0, fv_5_1, ft_5_1, fv_5_2, ft_5_2, fv_5_3, ft_5_3, fv_5_4, ft_5_4, fv_5_5, ft_5_5, fv_5_6, ft_5_6, fv_5_7, ft_5_7, fv_5_8, ft_5_8, fv_5_9, ft_5_9, fv_5_10, ft_5_10, fv_5_11, ft_5_11, fv_5_12, ft_5_12, fv_5_13, ft_5_13, fv_5_14, ft_5_14, fv_5_15, ft_5_15, fv_5_16, ft_5_16, fv_5_17, ft_5_17, fv_5_18, ft_5_18, fv_5_19, ft_5_19, fv_5_20, ft_5_20, fv_5_21, ft_5_21, fv_5_22, ft_5_22, kd_0, kd_1, kd_2, kd_3, kd_4, kd_5, kd_6, kd_7, kd_8, kd_9, kd_10, kd_11, kd_12, kd_13, kd_14, kd_15, kd_16, kd_17, kd_18, kd_19, kd_20, kd_21, kd_22, kd_23, kd_24, kd_25, kd_26, kd_27, kd_28, kd_29, kd_30, kd_31, kd_32, kd_33, kd_34, kd_35, kd_36, kd_37, kd_38, kd_39, rt_0_0, rt_0_1, rt_0_2, rt_0_3, rt_0_4, rt_0_5, rt_1_0, rt_1_1, rt_1_2, rt_1_3, rt_1_4, rt_1_5, rt_1_6, rt_1_7, rt_1_8, rt_2_0, rt_12_0, rt_12_1, rt_18_1, rt_18_6, rt_18_7, rt_18_8, rt_18_9, rt_18_10, rt_18_11, rt_18_12, rt_18_14, rt_18_15, rt_18_16, rt_18_17, rt_18_18, rt_18_19, rt_18_20, rt_18_21, rt_18_22, rt_N7, rt_N8, ra_3, ra_15, sc_pu, Nat.reduceAdd, Int.toNat_natCast, true_and, and_true, reduceIte, forall_const, Nat.reduceLeDiff, Nat.zero_le, sc_in, sc_in6, Int.reduceLE, Int.reduceNeg, Int.reduceLT, Int.reduceEq, Nat.reduceEqDiff, ne_eq, not_false_eq_true, lk_Wo_settleBehind_0, lk_Wo_settleBehind_1, lk_Wo_settleBehind_4, lk_Wo_settleBehind_7, lk_Wo_settleBehind_8, lk_Wo_settleBehind_9, lk_Wo_settleBehind_10, lk_Wo_settleBehind_11, lk_Wo_settleBehind_12, lk_Wo_settleBehind_15, lk_Wo_settleBehind_16, lk_Wo_settleBehind_17, lk_Wo_settleBehind_20, lk_Wo_settleBehind_23, lk_Wo_settleBehind_26, lk_Wo_settleBehind_27, lk_Wo_settleBehind_28, lk_Wo_settleBehind_31, lk_Wo_settleBehind_32, lk_Wo_settleBehind_33, lk_Wo_settleBehind_36, lk_Wo_settleBehind_39, lk_Wo_settleBehind_40, lk_Wo_settleBehind_41, lk_Wo_settleBehind_44, lk_Wo_settleBehind_47, lk_Wo_settleBehind_50, if_true]) | with_reducible apply And.intro | with_reducible intro _ | (refine ⟨_, c1, ?_⟩; rintro _ _ ⟨e1, e2⟩; rw [e1, e2])
        all_goals try (first | omega | exact Or.inl trivial | (exfalso; first | omega | (rename_i h; exact h trivial) | contradiction))
        refine ⟨_, c2, ?_⟩
        rintro _ m2 ⟨rfl, q1, q2, q3⟩
        have hcm2 : cn_ok M m2 N := cn_ok_cells hcm (fun b hb => q1 b (by omega) (by omega))
        have hm2 : m2 1 10 = (na_sd M N : Int) := by rw [q1 1 (by decide) (by decide)]; exact hm10
        have hZc := na_sd_eq hw c (by omega)
        have c3 := sp_Wo_dropOthers l G (d) m2 M N hw hcm2 hm2 c hcN S hS (by omega) hK (fun w => (md_nb M N (md_kn M c) w).toNat) (fun w hw9 => by
          have hnb := md_nb_kn hw hx c hcN w
          rw [q2 w hw9, md_nb_own hw hx c hcN hK w, hZc.1]
          refine ⟨?_, by omega⟩
          rw [show (((md_nb M N (md_kn M c) w).toNat : Nat) : Int) = md_nb M N (md_kn M c) w by omega, Int.mul_comm]) (fun w hw9 => by
          rw [q1 6 (by decide) (by decide), g2 w hw9]
          have := hbj w hw9
          exact ⟨by omega, by omega⟩) (fun i hi => by rw [q3 i hi]; exact cl_sum_in hw g2 h7 hbj _ _)
        have ih2 : ∀ m3 : sc_M, (∀ b, b ≠ 6 → m3 b = m2 b) → (∀ w, w < na_sd M N → m3 6 w = if md_dg M w c = (mo_am (fun s => m2 9 ((md_nb M N (md_kn M c) w).toNat + s * na_sd M c)) S : Int) then m2 6 w else 0) → sc_Wp l G (d + 2) mq_Wo_settleBehind 10 [.inr (.inr (.inl (1))), .inl ((f1 : Int) - 1), .inl ((c : Int) - 1)] [] m3 (fun r μ' => r = .inr (.inr (.inr ())) ∧ (∀ b, b ≠ 6 → b ≠ 8 → b ≠ 9 → μ' b = μ b) ∧ ∀ w, w < na_sd M N → μ' 6 w = ωf w) := fun m3 p1 p2 => ih1 m3 (fun b h1 h2 h3 => by rw [p1 b h1, q1 b h2 h3, g1 b h1 h2 h3]) (fun w hw9 => by
          rw [p2 w hw9, q1 6 (by decide) (by decide), g2 w hw9]
          unfold cl_D
          have hnb := md_nb_kn hw hx c hcN w
          have ham : mo_am (fun s => m2 9 ((md_nb M N (md_kn M c) w).toNat + s * na_sd M c)) S = mo_am (cl_A M N (na_sd M N) ωj v c (md_nb M N (md_kn M c) w).toNat) (M 21 c).toNat := by
            rw [show (M 21 c).toNat = S by rw [hS]; rfl]
            refine mo_am_cg _ _ S (fun s hs => ?_)
            have hbig : S * na_sd M c ≤ 243 := by
              have h1 := na_sd_243 hw (c + 1) (by omega)
              rw [na_sd_s hw hcN hK, hS, Int.toNat_natCast, Nat.mul_comm] at h1
              exact h1
            have hle : s * na_sd M c + na_sd M c ≤ S * na_sd M c := by
              rw [← Nat.succ_mul]
              exact Nat.mul_le_mul_right _ hs
            rw [q3 _ (by omega)]
            exact cl_sum_A hw hx g2 h7 c hcN hK _ s (by omega)
          rw [ham]
          by_cases hd : md_dg M w c = (mo_am (cl_A M N (na_sd M N) ωj v c (md_nb M N (md_kn M c) w).toNat) (M 21 c).toNat : Int)
          · rw [if_pos hd, sc_if_neg _ _ (fun h => h.2 hd)]
          · rw [if_neg hd, sc_if_pos _ _ ⟨hfr, hd⟩])
        clear ih1
        repeat' first | (with_reducible refine sc_st1 tk_Wo_settleBehind ?_; simp only [sc_dz, sc_gz, sc_brn, sc_stp, sc_nth, sc_sto_0, sc_sto_1, sc_sto_s, sc_stoJ_0, sc_stoJ_1, sc_stoJ_s, sc_k1_i, sc_k1_j, sc_k1_r, sc_k1_u, sc_x1, sc_x2, sc_xv, sc_xc, sc_1i, sc_2i, sc_1j, sc_2j, sc_1r, sc_ir, sc_iir, sc_jir, sc_xr, sc_jr, sc_1v, sc_2v, sc_vI, sc_vJ, sc_vR, sc_retI, sc_call, sc_callS, sc_args, sc_psh_i, sc_psh_j, sc_psh_r, sc_psh_u, sc_cats, sc_sw, sc_cpy, sc_isJ, fv_0_0, ft_0_0, fv_0_1, ft_0_1, fv_0_2, ft_0_2, fv_1_0, ft_1_0, fv_1_1, ft_1_1, fv_1_2, ft_1_2, fv_1_3, ft_1_3, fv_2_0, ft_2_0, fv_2_1, ft_2_1, fv_2_2, ft_2_2, fv_2_3, ft_2_3, fv_2_4, ft_2_4, fv_2_5, ft_2_5, fv_2_6, ft_2_6, fv_2_7, ft_2_7, fv_2_8, ft_2_8, fv_3_0, ft_3_0, fv_3_1, ft_3_1, fv_3_2, ft_3_2, fv_3_3, ft_3_3, fv_3_4, ft_3_4, fv_3_5, ft_3_5, fv_3_6, ft_3_6, fv_3_7, ft_3_7, fv_3_8, ft_3_8, fv_3_9, ft_3_9, fv_3_10, ft_3_10, fv_3_11, ft_3_11, fv_4_0, ft_4_0, fv_4_1, ft_4_1, fv_4_2, ft_4_2, fv_4_3, ft_4_3, fv_4_4, ft_4_4, fv_4_5, ft_4_5, fv_4_6, ft_4_6, fv_4_7, ft_4_7, fv_4_8, ft_4_8, fv_4_9, ft_4_9, fv_5_0, ft_5_0, fv_5_1, ft_5_1, fv_5_2, ft_5_2, fv_5_3, ft_5_3, fv_5_4, ft_5_4, fv_5_5, ft_5_5, fv_5_6, ft_5_6, fv_5_7, ft_5_7, fv_5_8, ft_5_8, fv_5_9, ft_5_9, fv_5_10, ft_5_10, fv_5_11, ft_5_11, fv_5_12, ft_5_12, fv_5_13, ft_5_13, fv_5_14, ft_5_14, fv_5_15, ft_5_15, fv_5_16, ft_5_16, fv_5_17, ft_5_17, fv_5_18, ft_5_18, fv_5_19, ft_5_19, fv_5_20, ft_5_20, fv_5_21, ft_5_21, fv_5_22, ft_5_22, kd_0, kd_1, kd_2, kd_3, kd_4, kd_5, kd_6, kd_7, kd_8, kd_9, kd_10, kd_11, kd_12, kd_13, kd_14, kd_15, kd_16, kd_17, kd_18, kd_19, kd_20, kd_21, kd_22, kd_23, kd_24, kd_25, kd_26, kd_27, kd_28, kd_29, kd_30, kd_31, kd_32, kd_33, kd_34, kd_35, kd_36, kd_37, kd_38, kd_39, rt_0_0, rt_0_1, rt_0_2, rt_0_3, rt_0_4, rt_0_5, rt_1_0, rt_1_1, rt_1_2, rt_1_3, rt_1_4, rt_1_5, rt_1_6, rt_1_7, rt_1_8, rt_2_0, rt_12_0, rt_12_1, rt_18_1, rt_18_6, rt_18_7, rt_18_8, rt_18_9, rt_18_10, rt_18_11, rt_18_12, rt_18_14, rt_18_15, rt_18_16, rt_18_17, rt_18_18, rt_18_19, rt_18_20, rt_18_21, rt_18_22, rt_N7, rt_N8, ra_3, ra_15, sc_pu, Nat.reduceAdd, Int.toNat_natCast, true_and, and_true, reduceIte, forall_const, Nat.reduceLeDiff, Nat.zero_le, sc_in, sc_in6, Int.reduceLE, Int.reduceNeg, Int.reduceLT, Int.reduceEq, Nat.reduceEqDiff, ne_eq, not_false_eq_true, lk_Wo_settleBehind_0, lk_Wo_settleBehind_1, lk_Wo_settleBehind_4, lk_Wo_settleBehind_7, lk_Wo_settleBehind_8, lk_Wo_settleBehind_9, lk_Wo_settleBehind_10, lk_Wo_settleBehind_11, lk_Wo_settleBehind_12, lk_Wo_settleBehind_15, lk_Wo_settleBehind_16, lk_Wo_settleBehind_17, lk_Wo_settleBehind_20, lk_Wo_settleBehind_23, lk_Wo_settleBehind_26, lk_Wo_settleBehind_27, lk_Wo_settleBehind_28, lk_Wo_settleBehind_31, lk_Wo_settleBehind_32, lk_Wo_settleBehind_33, lk_Wo_settleBehind_36, lk_Wo_settleBehind_39, lk_Wo_settleBehind_40, lk_Wo_settleBehind_41, lk_Wo_settleBehind_44, lk_Wo_settleBehind_47, lk_Wo_settleBehind_50]) | with_reducible apply And.intro | with_reducible intro _
        all_goals try (first | omega | exact Or.inl trivial | (exfalso; first | omega | (rename_i h; exact h trivial) | contradiction))
        refine ⟨_, c3, ?_⟩
        rintro _ m3 ⟨rfl, p1, p2⟩
        have ih3 := ih2 m3 p1 p2
        clear ih2
        repeat' first | (with_reducible refine sc_st1 tk_Wo_settleBehind ?_; simp only [sc_dz, sc_gz, sc_brn, sc_stp, sc_nth, sc_sto_0, sc_sto_1, sc_sto_s, sc_stoJ_0, sc_stoJ_1, sc_stoJ_s, sc_k1_i, sc_k1_j, sc_k1_r, sc_k1_u, sc_x1, sc_x2, sc_xv, sc_xc, sc_1i, sc_2i, sc_1j, sc_2j, sc_1r, sc_ir, sc_iir, sc_jir, sc_xr, sc_jr, sc_1v, sc_2v, sc_vI, sc_vJ, sc_vR, sc_retI, sc_call, sc_callS, sc_args, sc_psh_i, sc_psh_j, sc_psh_r, sc_psh_u, sc_cats, sc_sw, sc_cpy, sc_isJ, fv_0_0, ft_0_0, fv_0_1, ft_0_1, fv_0_2, ft_0_2, fv_1_0, ft_1_0, fv_1_1, ft_1_1, fv_1_2, ft_1_2, fv_1_3, ft_1_3, fv_2_0, ft_2_0, fv_2_1, ft_2_1, fv_2_2, ft_2_2, fv_2_3, ft_2_3, fv_2_4, ft_2_4, fv_2_5, ft_2_5, fv_2_6, ft_2_6, fv_2_7, ft_2_7, fv_2_8, ft_2_8, fv_3_0, ft_3_0, fv_3_1, ft_3_1, fv_3_2, ft_3_2, fv_3_3, ft_3_3, fv_3_4, ft_3_4, fv_3_5, ft_3_5, fv_3_6, ft_3_6, fv_3_7, ft_3_7, fv_3_8, ft_3_8, fv_3_9, ft_3_9, fv_3_10, ft_3_10, fv_3_11, ft_3_11, fv_4_0, ft_4_0, fv_4_1, ft_4_1, fv_4_2, ft_4_2, fv_4_3, ft_4_3, fv_4_4, ft_4_4, fv_4_5, ft_4_5, fv_4_6, ft_4_6, fv_4_7, ft_4_7, fv_4_8, ft_4_8, fv_4_9, ft_4_9, fv_5_0, ft_5_0, fv_5_1, ft_5_1, fv_5_2, ft_5_2, fv_5_3, ft_5_3, fv_5_4, ft_5_4, fv_5_5, ft_5_5, fv_5_6, ft_5_6, fv_5_7, ft_5_7, fv_5_8, ft_5_8, fv_5_9, ft_5_9, fv_5_10, ft_5_10, fv_5_11, ft_5_11, fv_5_12, ft_5_12, fv_5_13, ft_5_13, fv_5_14, ft_5_14, fv_5_15, ft_5_15, fv_5_16, ft_5_16, fv_5_17, ft_5_17, fv_5_18, ft_5_18, fv_5_19, ft_5_19, fv_5_20, ft_5_20, fv_5_21, ft_5_21, fv_5_22, ft_5_22, kd_0, kd_1, kd_2, kd_3, kd_4, kd_5, kd_6, kd_7, kd_8, kd_9, kd_10, kd_11, kd_12, kd_13, kd_14, kd_15, kd_16, kd_17, kd_18, kd_19, kd_20, kd_21, kd_22, kd_23, kd_24, kd_25, kd_26, kd_27, kd_28, kd_29, kd_30, kd_31, kd_32, kd_33, kd_34, kd_35, kd_36, kd_37, kd_38, kd_39, rt_0_0, rt_0_1, rt_0_2, rt_0_3, rt_0_4, rt_0_5, rt_1_0, rt_1_1, rt_1_2, rt_1_3, rt_1_4, rt_1_5, rt_1_6, rt_1_7, rt_1_8, rt_2_0, rt_12_0, rt_12_1, rt_18_1, rt_18_6, rt_18_7, rt_18_8, rt_18_9, rt_18_10, rt_18_11, rt_18_12, rt_18_14, rt_18_15, rt_18_16, rt_18_17, rt_18_18, rt_18_19, rt_18_20, rt_18_21, rt_18_22, rt_N7, rt_N8, ra_3, ra_15, sc_pu, Nat.reduceAdd, Int.toNat_natCast, true_and, and_true, reduceIte, forall_const, Nat.reduceLeDiff, Nat.zero_le, sc_in, sc_in6, Int.reduceLE, Int.reduceNeg, Int.reduceLT, Int.reduceEq, Nat.reduceEqDiff, ne_eq, not_false_eq_true, lk_Wo_settleBehind_0, lk_Wo_settleBehind_1, lk_Wo_settleBehind_4, lk_Wo_settleBehind_7, lk_Wo_settleBehind_8, lk_Wo_settleBehind_9, lk_Wo_settleBehind_10, lk_Wo_settleBehind_11, lk_Wo_settleBehind_12, lk_Wo_settleBehind_15, lk_Wo_settleBehind_16, lk_Wo_settleBehind_17, lk_Wo_settleBehind_20, lk_Wo_settleBehind_23, lk_Wo_settleBehind_26, lk_Wo_settleBehind_27, lk_Wo_settleBehind_28, lk_Wo_settleBehind_31, lk_Wo_settleBehind_32, lk_Wo_settleBehind_33, lk_Wo_settleBehind_36, lk_Wo_settleBehind_39, lk_Wo_settleBehind_40, lk_Wo_settleBehind_41, lk_Wo_settleBehind_44, lk_Wo_settleBehind_47, lk_Wo_settleBehind_50]) | with_reducible apply And.intro | with_reducible intro _
        all_goals first | exact ih3 | omega | (exfalso; omega)
      · rw [if_neg (show ¬ ((c : Int) = M 18 13 ∨ (M 20 c = 2 ∧ M 25 c = -9)) from hfr)] at c1
        have ih2 := ih1 m g1 (fun w hw9 => by
          rw [g2 w hw9]
          unfold cl_D
          rw [sc_if_neg _ _ (fun h => hfr h.1)])
        clear ih1
        refine sc_rp ?_
        repeat' first | (with_reducible refine sc_st1 tk_Wo_settleBehind ?_; simp only [sc_dz, sc_gz, sc_brn, sc_stp, sc_nth, sc_sto_0, sc_sto_1, sc_sto_s, sc_stoJ_0, sc_stoJ_1, sc_stoJ_s, sc_k1_i, sc_k1_j, sc_k1_r, sc_k1_u, sc_x1, sc_x2, sc_xv, sc_xc, sc_1i, sc_2i, sc_1j, sc_2j, sc_1r, sc_ir, sc_iir, sc_jir, sc_xr, sc_jr, sc_1v, sc_2v, sc_vI, sc_vJ, sc_vR, sc_retI, sc_call, sc_callS, sc_args, sc_psh_i, sc_psh_j, sc_psh_r, sc_psh_u, sc_cats, sc_sw, sc_cpy, sc_isJ, fv_0_0, ft_0_0, fv_0_1, ft_0_1, fv_0_2, ft_0_2, fv_1_0, ft_1_0, fv_1_1, ft_1_1, fv_1_2, ft_1_2, fv_1_3, ft_1_3, fv_2_0, ft_2_0, fv_2_1, ft_2_1, fv_2_2, ft_2_2, fv_2_3, ft_2_3, fv_2_4, ft_2_4, fv_2_5, ft_2_5, fv_2_6, ft_2_6, fv_2_7, ft_2_7, fv_2_8, ft_2_8, fv_3_0, ft_3_0, fv_3_1, ft_3_1, fv_3_2, ft_3_2, fv_3_3, ft_3_3, fv_3_4, ft_3_4, fv_3_5, ft_3_5, fv_3_6, ft_3_6, fv_3_7, ft_3_7, fv_3_8, ft_3_8, fv_3_9, ft_3_9, fv_3_10, ft_3_10, fv_3_11, ft_3_11, fv_4_0, ft_4_0, fv_4_1, ft_4_1, fv_4_2, ft_4_2, fv_4_3, ft_4_3, fv_4_4, ft_4_4, fv_4_5, ft_4_5, fv_4_6, ft_4_6, fv_4_7, ft_4_7, fv_4_8, ft_4_8, fv_4_9, ft_4_9, fv_5_0, ft_5_0, fv_5_1, ft_5_1, fv_5_2, ft_5_2, fv_5_3, ft_5_3, fv_5_4, ft_5_4, fv_5_5, ft_5_5, fv_5_6, ft_5_6, fv_5_7, ft_5_7, fv_5_8, ft_5_8, fv_5_9, ft_5_9, fv_5_10, ft_5_10, fv_5_11, ft_5_11, fv_5_12, ft_5_12, fv_5_13, ft_5_13, fv_5_14, ft_5_14, fv_5_15, ft_5_15, fv_5_16, ft_5_16, fv_5_17, ft_5_17, fv_5_18, ft_5_18, fv_5_19, ft_5_19, fv_5_20, ft_5_20, fv_5_21, ft_5_21, fv_5_22, ft_5_22, kd_0, kd_1, kd_2, kd_3, kd_4, kd_5, kd_6, kd_7, kd_8, kd_9, kd_10, kd_11, kd_12, kd_13, kd_14, kd_15, kd_16, kd_17, kd_18, kd_19, kd_20, kd_21, kd_22, kd_23, kd_24, kd_25, kd_26, kd_27, kd_28, kd_29, kd_30, kd_31, kd_32, kd_33, kd_34, kd_35, kd_36, kd_37, kd_38, kd_39, rt_0_0, rt_0_1, rt_0_2, rt_0_3, rt_0_4, rt_0_5, rt_1_0, rt_1_1, rt_1_2, rt_1_3, rt_1_4, rt_1_5, rt_1_6, rt_1_7, rt_1_8, rt_2_0, rt_12_0, rt_12_1, rt_18_1, rt_18_6, rt_18_7, rt_18_8, rt_18_9, rt_18_10, rt_18_11, rt_18_12, rt_18_14, rt_18_15, rt_18_16, rt_18_17, rt_18_18, rt_18_19, rt_18_20, rt_18_21, rt_18_22, rt_N7, rt_N8, ra_3, ra_15, sc_pu, Nat.reduceAdd, Int.toNat_natCast, true_and, and_true, reduceIte, forall_const, Nat.reduceLeDiff, Nat.zero_le, sc_in, sc_in6, Int.reduceLE, Int.reduceNeg, Int.reduceLT, Int.reduceEq, Nat.reduceEqDiff, ne_eq, not_false_eq_true, lk_Wo_settleBehind_0, lk_Wo_settleBehind_1, lk_Wo_settleBehind_4, lk_Wo_settleBehind_7, lk_Wo_settleBehind_8, lk_Wo_settleBehind_9, lk_Wo_settleBehind_10, lk_Wo_settleBehind_11, lk_Wo_settleBehind_12, lk_Wo_settleBehind_15, lk_Wo_settleBehind_16, lk_Wo_settleBehind_17, lk_Wo_settleBehind_20, lk_Wo_settleBehind_23, lk_Wo_settleBehind_26, lk_Wo_settleBehind_27, lk_Wo_settleBehind_28, lk_Wo_settleBehind_31, lk_Wo_settleBehind_32, lk_Wo_settleBehind_33, lk_Wo_settleBehind_36, lk_Wo_settleBehind_39, lk_Wo_settleBehind_40, lk_Wo_settleBehind_41, lk_Wo_settleBehind_44, lk_Wo_settleBehind_47, lk_Wo_settleBehind_50, if_true]) | with_reducible apply And.intro | with_reducible intro _ | (refine ⟨_, c1, ?_⟩; rintro _ _ ⟨e1, e2⟩; rw [e1, e2])
        all_goals first | exact ih2 | omega | (exfalso; omega) | grind [sc_in, sc_in6]
  have k0 := lo (N - f1) μ (by omega) (fun _ _ _ _ => rfl) (fun w hw9 => by rw [show N - (f1 + (N - f1)) = 0 by omega]; exact hp.2.2.2.2.1 w hw9)
  rw [show f1 + (N - f1) = N by omega] at k0
  clear lo
  refine sc_enter cm_Wo_settleBehind (plainFor_of_name (by decide)) [.inr (.inr (.inl (1))), .inl ((f1 : Int) - 1), .inr (.inr (.inr ()))] rfl rfl ?_
  refine sc_rp ?_
  repeat' first | (with_reducible refine sc_st1 tk_Wo_settleBehind ?_; simp only [sc_dz, sc_gz, sc_brn, sc_stp, sc_nth, sc_sto_0, sc_sto_1, sc_sto_s, sc_stoJ_0, sc_stoJ_1, sc_stoJ_s, sc_k1_i, sc_k1_j, sc_k1_r, sc_k1_u, sc_x1, sc_x2, sc_xv, sc_xc, sc_1i, sc_2i, sc_1j, sc_2j, sc_1r, sc_ir, sc_iir, sc_jir, sc_xr, sc_jr, sc_1v, sc_2v, sc_vI, sc_vJ, sc_vR, sc_retI, sc_call, sc_callS, sc_args, sc_psh_i, sc_psh_j, sc_psh_r, sc_psh_u, sc_cats, sc_sw, sc_cpy, sc_isJ, fv_0_0, ft_0_0, fv_0_1, ft_0_1, fv_0_2, ft_0_2, fv_1_0, ft_1_0, fv_1_1, ft_1_1, fv_1_2, ft_1_2, fv_1_3, ft_1_3, fv_2_0, ft_2_0, fv_2_1, ft_2_1, fv_2_2, ft_2_2, fv_2_3, ft_2_3, fv_2_4, ft_2_4, fv_2_5, ft_2_5, fv_2_6, ft_2_6, fv_2_7, ft_2_7, fv_2_8, ft_2_8, fv_3_0, ft_3_0, fv_3_1, ft_3_1, fv_3_2, ft_3_2, fv_3_3, ft_3_3, fv_3_4, ft_3_4, fv_3_5, ft_3_5, fv_3_6, ft_3_6, fv_3_7, ft_3_7, fv_3_8, ft_3_8, fv_3_9, ft_3_9, fv_3_10, ft_3_10, fv_3_11, ft_3_11, fv_4_0, ft_4_0, fv_4_1, ft_4_1, fv_4_2, ft_4_2, fv_4_3, ft_4_3, fv_4_4, ft_4_4, fv_4_5, ft_4_5, fv_4_6, ft_4_6, fv_4_7, ft_4_7, fv_4_8, ft_4_8, fv_4_9, ft_4_9, fv_5_0, ft_5_0, fv_5_1, ft_5_1, fv_5_2, ft_5_2, fv_5_3, ft_5_3, fv_5_4, ft_5_4, fv_5_5, ft_5_5, fv_5_6, ft_5_6, fv_5_7, ft_5_7, fv_5_8, ft_5_8, fv_5_9, ft_5_9, fv_5_10, ft_5_10, fv_5_11, ft_5_11, fv_5_12, ft_5_12, fv_5_13, ft_5_13, fv_5_14, ft_5_14, fv_5_15, ft_5_15, fv_5_16, ft_5_16, fv_5_17, ft_5_17, fv_5_18, ft_5_18, fv_5_19, ft_5_19, fv_5_20, ft_5_20, fv_5_21, ft_5_21, fv_5_22, ft_5_22, kd_0, kd_1, kd_2, kd_3, kd_4, kd_5, kd_6, kd_7, kd_8, kd_9, kd_10, kd_11, kd_12, kd_13, kd_14, kd_15, kd_16, kd_17, kd_18, kd_19, kd_20, kd_21, kd_22, kd_23, kd_24, kd_25, kd_26, kd_27, kd_28, kd_29, kd_30, kd_31, kd_32, kd_33, kd_34, kd_35, kd_36, kd_37, kd_38, kd_39, rt_0_0, rt_0_1, rt_0_2, rt_0_3, rt_0_4, rt_0_5, rt_1_0, rt_1_1, rt_1_2, rt_1_3, rt_1_4, rt_1_5, rt_1_6, rt_1_7, rt_1_8, rt_2_0, rt_12_0, rt_12_1, rt_18_1, rt_18_6, rt_18_7, rt_18_8, rt_18_9, rt_18_10, rt_18_11, rt_18_12, rt_18_14, rt_18_15, rt_18_16, rt_18_17, rt_18_18, rt_18_19, rt_18_20, rt_18_21, rt_18_22, rt_N7, rt_N8, ra_3, ra_15, sc_pu, Nat.reduceAdd, Int.toNat_natCast, true_and, and_true, reduceIte, forall_const, Nat.reduceLeDiff, Nat.zero_le, sc_in, sc_in6, Int.reduceLE, Int.reduceNeg, Int.reduceLT, Int.reduceEq, Nat.reduceEqDiff, ne_eq, not_false_eq_true, lk_Wo_settleBehind_0, lk_Wo_settleBehind_1, lk_Wo_settleBehind_4, lk_Wo_settleBehind_7, lk_Wo_settleBehind_8, lk_Wo_settleBehind_9, lk_Wo_settleBehind_10, lk_Wo_settleBehind_11, lk_Wo_settleBehind_12, lk_Wo_settleBehind_15, lk_Wo_settleBehind_16, lk_Wo_settleBehind_17, lk_Wo_settleBehind_20, lk_Wo_settleBehind_23, lk_Wo_settleBehind_26, lk_Wo_settleBehind_27, lk_Wo_settleBehind_28, lk_Wo_settleBehind_31, lk_Wo_settleBehind_32, lk_Wo_settleBehind_33, lk_Wo_settleBehind_36, lk_Wo_settleBehind_39, lk_Wo_settleBehind_40, lk_Wo_settleBehind_41, lk_Wo_settleBehind_44, lk_Wo_settleBehind_47, lk_Wo_settleBehind_50, hN]) | with_reducible apply And.intro | with_reducible intro _
  all_goals first | exact k0 | omega
