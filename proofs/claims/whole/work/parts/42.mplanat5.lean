/-- the memory behind one more world, in planAt -/
noncomputable def mo_m1 (N : Nat) (m : sc_M) (w : Nat) : sc_M := sc_arr m 27 (mo_now (m 20) (m 21) (w : Int) (m 27) N)
noncomputable def mo_key (N c : Nat) (m : sc_M) : Int := mo_nb (m 20) (m 21) (m 27) (m 31 c) N
noncomputable def mo_wgt (N : Nat) (m : sc_M) : Int := mo_wn (m 20) (m 21) (m 22) (m 23) (m 26) (m 27) (m 18 13) N
noncomputable def mo_wor (N : Nat) (m : sc_M) : Int := mo_on (m 20) (m 21) (m 22) (m 23) (m 26) (m 27) N
noncomputable def mo_m2 (N c : Nat) (m : sc_M) : sc_M := sc_up m 30 (mo_key N c m).toNat (if m 30 (mo_key N c m).toNat = 1 ∨ (0 < mo_wgt N m ∧ mo_fo (m 25) (m 27) c = true) then 1 else 0)
noncomputable def mo_m3 (N c : Nat) (m : sc_M) : sc_M := sc_up (mo_m2 N c m) 29 (3 * (mo_key N c m).toNat + (m 27 c).toNat) (m 29 (3 * (mo_key N c m).toNat + (m 27 c).toNat) + (if mo_bh (m 20) (m 21) (m 27) (m 25) (m 31) (m 28) (m 18 13) N c (N - (c + 1)) = true then mo_wgt N m * mo_wor N m else 0))
noncomputable def mo_p3 (μ : sc_M) (N c : Nat) : Nat → sc_M
  | 0 => μ
  | w + 1 => mo_m3 N c (mo_m1 N (mo_p3 μ N c w) w)
theorem mo_m2_ne (N c : Nat) (m : sc_M) {b : Nat} (h : b ≠ 30) : mo_m2 N c m b = m b := sc_up_ne _ _ _ h
theorem mo_m3_ne (N c : Nat) (m : sc_M) {b : Nat} (h : b ≠ 30) (h2 : b ≠ 29) : mo_m3 N c m b = m b := by
  unfold mo_m3
  rw [sc_up_ne _ _ _ h2, mo_m2_ne N c m h]
theorem mo_p3_ne (μ : sc_M) (N c : Nat) {b : Nat} (h : b ≠ 30) (h2 : b ≠ 29) (h3 : b ≠ 27) : ∀ w, mo_p3 μ N c w b = μ b
  | 0 => rfl
  | w + 1 => by
    rw [mo_p3, mo_m3_ne N c _ h h2, mo_m1, sc_arr_ne _ _ h3]
    exact mo_p3_ne μ N c h h2 h3 w
theorem mo_p3_30 (μ : sc_M) (N c : Nat) (h : ∀ i, μ 30 i = 0 ∨ μ 30 i = 1) : ∀ w i, mo_p3 μ N c w 30 i = 0 ∨ mo_p3 μ N c w 30 i = 1
  | 0, i => h i
  | w + 1, i => by
    have ih := mo_p3_30 μ N c h w i
    rw [mo_p3, mo_m3, sc_up_ne _ _ _ (by decide)]
    unfold mo_m2
    rw [sc_up_eq]
    simp only []
    split
    · split
      · exact Or.inr rfl
      · exact Or.inl rfl
    · rw [mo_m1, sc_arr_ne _ _ (by decide)]
      exact ih
set_option maxRecDepth 100000 in
set_option maxHeartbeats 4000000 in
theorem lp_plan_w (l : Launch) (G : sc_G) (d : Nat) (μ : sc_M) (N : Nat) (hw : mo_w μ N) (hpl : ∀ i, sc_in (μ 28 i)) (h30 : ∀ i, μ 30 i = 0 ∨ μ 30 i = 1) (c : Nat) (hc : c < N) (hK : ¬ μ 20 c = 0) (W9 : Nat) (hW9 : W9 ≤ 243) (Post : sc_V → sc_M → Prop)
    (h : ∀ v4 v5 v6 v7 v8 v9, sc_Wp l G (d + 2) mq_Mo_planAt 280 [.inr (.inr (.inl (18))), .inl ((c : Int)), .inl ((W9 : Int)), .inl (0), v4, v5, v6, v7, v8, v9] [] (mo_p3 μ N c W9) Post) :
    ∀ (j w : Nat) (v4 v5 v6 v7 v8 v9 : sc_V), w + j = W9 → sc_Wp l G (d + 2) mq_Mo_planAt 64 [.inr (.inr (.inl (18))), .inl ((c : Int)), .inl ((W9 : Int)), .inl ((w : Int)), v4, v5, v6, v7, v8, v9] [] (mo_p3 μ N c w) Post := by
  intro j
  induction j with
  | zero =>
    intro w v4 v5 v6 v7 v8 v9 hw9
    have hw9 : w = W9 := by omega
    subst hw9
    have h := h v4 v5 v6 v7 v8 v9
    refine sc_rp ?_
    repeat' first | (with_reducible refine sc_st1 tk_Mo_planAt ?_; simp only [sc_dz, sc_gz, sc_brn, sc_stp, sc_nth, sc_sto_0, sc_sto_1, sc_sto_s, sc_stoJ_0, sc_stoJ_1, sc_stoJ_s, sc_k1_i, sc_k1_j, sc_k1_r, sc_k1_u, sc_x1, sc_x2, sc_xv, sc_xc, sc_1i, sc_2i, sc_1j, sc_2j, sc_1r, sc_ir, sc_iir, sc_jir, sc_xr, sc_jr, sc_1v, sc_2v, sc_vI, sc_vJ, sc_vR, sc_retI, sc_call, sc_callS, sc_args, sc_psh_i, sc_psh_j, sc_psh_r, sc_psh_u, sc_cats, sc_sw, sc_cpy, sc_isJ, fv_0_0, ft_0_0, fv_0_1, ft_0_1, fv_0_2, ft_0_2, fv_1_0, ft_1_0, fv_1_1, ft_1_1, fv_1_2, ft_1_2, fv_1_3, ft_1_3, fv_2_0, ft_2_0, fv_2_1, ft_2_1, fv_2_2, ft_2_2, fv_2_3, ft_2_3, fv_2_4, ft_2_4, fv_2_5, ft_2_5, fv_2_6, ft_2_6, fv_2_7, ft_2_7, fv_2_8, ft_2_8, fv_3_0, ft_3_0, fv_3_1, ft_3_1, fv_3_2, ft_3_2, fv_3_3, ft_3_3, fv_3_4, ft_3_4, fv_3_5, ft_3_5, fv_3_6, ft_3_6, fv_3_7, ft_3_7, fv_3_8, ft_3_8, fv_3_9, ft_3_9, fv_3_10, ft_3_10, fv_3_11, ft_3_11, fv_4_0, ft_4_0, fv_4_1, ft_4_1, fv_4_2, ft_4_2, fv_4_3, ft_4_3, fv_4_4, ft_4_4, fv_4_5, ft_4_5, fv_4_6, ft_4_6, fv_4_7, ft_4_7, fv_4_8, ft_4_8, fv_4_9, ft_4_9, fv_5_0, ft_5_0, fv_5_1, ft_5_1, fv_5_2, ft_5_2, fv_5_3, ft_5_3, fv_5_4, ft_5_4, fv_5_5, ft_5_5, fv_5_6, ft_5_6, fv_5_7, ft_5_7, fv_5_8, ft_5_8, fv_5_9, ft_5_9, fv_5_10, ft_5_10, fv_5_11, ft_5_11, fv_5_12, ft_5_12, fv_5_13, ft_5_13, fv_5_14, ft_5_14, fv_5_15, ft_5_15, fv_5_16, ft_5_16, fv_5_17, ft_5_17, fv_5_18, ft_5_18, fv_5_19, ft_5_19, fv_5_20, ft_5_20, fv_5_21, ft_5_21, fv_5_22, ft_5_22, kd_0, kd_1, kd_2, kd_3, kd_4, kd_5, kd_6, kd_7, kd_8, kd_9, kd_10, kd_11, kd_12, kd_13, kd_14, kd_15, kd_16, kd_17, kd_18, kd_19, kd_20, kd_21, kd_22, kd_23, kd_24, kd_25, kd_26, kd_27, kd_28, kd_29, kd_30, kd_31, kd_32, kd_33, kd_34, kd_35, kd_36, kd_37, kd_38, kd_39, rt_0_0, rt_0_1, rt_0_2, rt_0_3, rt_0_4, rt_0_5, rt_1_0, rt_1_1, rt_1_2, rt_1_3, rt_1_4, rt_1_5, rt_1_6, rt_1_7, rt_1_8, rt_2_0, rt_12_0, rt_12_1, rt_18_1, rt_18_6, rt_18_7, rt_18_8, rt_18_9, rt_18_10, rt_18_11, rt_18_12, rt_18_14, rt_18_15, rt_18_16, rt_18_17, rt_18_18, rt_18_19, rt_18_20, rt_18_21, rt_18_22, rt_N7, rt_N8, ra_3, ra_15, sc_pu, Nat.reduceAdd, Int.toNat_natCast, true_and, and_true, reduceIte, forall_const, Nat.reduceLeDiff, Nat.zero_le, sc_in, sc_in6, Int.reduceLE, Int.reduceNeg, Int.reduceLT, Int.reduceEq, Nat.reduceEqDiff, ne_eq, not_false_eq_true, lk_Mo_planAt_0, lk_Mo_planAt_1, lk_Mo_planAt_2, lk_Mo_planAt_3, lk_Mo_planAt_6, lk_Mo_planAt_9, lk_Mo_planAt_10, lk_Mo_planAt_13, lk_Mo_planAt_14, lk_Mo_planAt_15, lk_Mo_planAt_16, lk_Mo_planAt_19, lk_Mo_planAt_22, lk_Mo_planAt_23, lk_Mo_planAt_24, lk_Mo_planAt_25, lk_Mo_planAt_28, lk_Mo_planAt_31, lk_Mo_planAt_32, lk_Mo_planAt_35, lk_Mo_planAt_36, lk_Mo_planAt_37, lk_Mo_planAt_38, lk_Mo_planAt_39, lk_Mo_planAt_42, lk_Mo_planAt_45, lk_Mo_planAt_46, lk_Mo_planAt_47, lk_Mo_planAt_48, lk_Mo_planAt_49, lk_Mo_planAt_50, lk_Mo_planAt_51, lk_Mo_planAt_54, lk_Mo_planAt_57, lk_Mo_planAt_58, lk_Mo_planAt_61, lk_Mo_planAt_62, lk_Mo_planAt_63, lk_Mo_planAt_64, lk_Mo_planAt_65, lk_Mo_planAt_66, lk_Mo_planAt_69, lk_Mo_planAt_70, lk_Mo_planAt_71, lk_Mo_planAt_74, lk_Mo_planAt_75, lk_Mo_planAt_78, lk_Mo_planAt_80, lk_Mo_planAt_81, lk_Mo_planAt_82, lk_Mo_planAt_85, lk_Mo_planAt_86, lk_Mo_planAt_87, lk_Mo_planAt_90, lk_Mo_planAt_92, lk_Mo_planAt_93, lk_Mo_planAt_95, lk_Mo_planAt_96, lk_Mo_planAt_98, lk_Mo_planAt_100, lk_Mo_planAt_101, lk_Mo_planAt_104, lk_Mo_planAt_106, lk_Mo_planAt_109, lk_Mo_planAt_110, lk_Mo_planAt_113, lk_Mo_planAt_115, lk_Mo_planAt_116, lk_Mo_planAt_119, lk_Mo_planAt_120, lk_Mo_planAt_123, lk_Mo_planAt_125, lk_Mo_planAt_126, lk_Mo_planAt_127, lk_Mo_planAt_130, lk_Mo_planAt_132, lk_Mo_planAt_133, lk_Mo_planAt_136, lk_Mo_planAt_137, lk_Mo_planAt_140, lk_Mo_planAt_141, lk_Mo_planAt_143, lk_Mo_planAt_146, lk_Mo_planAt_149, lk_Mo_planAt_150, lk_Mo_planAt_153, lk_Mo_planAt_155, lk_Mo_planAt_156, lk_Mo_planAt_159, lk_Mo_planAt_161, lk_Mo_planAt_162, lk_Mo_planAt_165, lk_Mo_planAt_167, lk_Mo_planAt_168, lk_Mo_planAt_169, lk_Mo_planAt_172, lk_Mo_planAt_174, lk_Mo_planAt_177, lk_Mo_planAt_178, lk_Mo_planAt_181, lk_Mo_planAt_182, lk_Mo_planAt_183, lk_Mo_planAt_184, lk_Mo_planAt_186, lk_Mo_planAt_187, lk_Mo_planAt_188, lk_Mo_planAt_189, lk_Mo_planAt_191, lk_Mo_planAt_193, lk_Mo_planAt_194, lk_Mo_planAt_197, lk_Mo_planAt_200, lk_Mo_planAt_202, lk_Mo_planAt_205, lk_Mo_planAt_206, lk_Mo_planAt_208, lk_Mo_planAt_211, lk_Mo_planAt_214, lk_Mo_planAt_215, lk_Mo_planAt_217, lk_Mo_planAt_220, lk_Mo_planAt_223, lk_Mo_planAt_224, lk_Mo_planAt_227, lk_Mo_planAt_228, lk_Mo_planAt_230, lk_Mo_planAt_233, lk_Mo_planAt_236, lk_Mo_planAt_237, lk_Mo_planAt_240, lk_Mo_planAt_241, lk_Mo_planAt_243, lk_Mo_planAt_244, lk_Mo_planAt_245, lk_Mo_planAt_248, lk_Mo_planAt_249, lk_Mo_planAt_250, lk_Mo_planAt_251, lk_Mo_planAt_252, lk_Mo_planAt_253, lk_Mo_planAt_255, lk_Mo_planAt_258, lk_Mo_planAt_260, lk_Mo_planAt_261, lk_Mo_planAt_264, lk_Mo_planAt_265, lk_Mo_planAt_266, lk_Mo_planAt_269, lk_Mo_planAt_270, lk_Mo_planAt_271, lk_Mo_planAt_272, lk_Mo_planAt_275, lk_Mo_planAt_278, lk_Mo_planAt_279, lk_Mo_planAt_280, lk_Mo_planAt_281, lk_Mo_planAt_284, lk_Mo_planAt_287, lk_Mo_planAt_288, lk_Mo_planAt_290, lk_Mo_planAt_291, lk_Mo_planAt_293, lk_Mo_planAt_295, lk_Mo_planAt_296, lk_Mo_planAt_299, lk_Mo_planAt_300, lk_Mo_planAt_301, lk_Mo_planAt_304, lk_Mo_planAt_305, lk_Mo_planAt_308, lk_Mo_planAt_309, lk_Mo_planAt_310, lk_Mo_planAt_313, lk_Mo_planAt_314, lk_Mo_planAt_317, lk_Mo_planAt_318, lk_Mo_planAt_319, lk_Mo_planAt_320, lk_Mo_planAt_322, lk_Mo_planAt_323, lk_Mo_planAt_324, lk_Mo_planAt_325, lk_Mo_planAt_328, lk_Mo_planAt_329, lk_Mo_planAt_330, lk_Mo_planAt_331, lk_Mo_planAt_333, lk_Mo_planAt_334, lk_Mo_planAt_335, lk_Mo_planAt_336, lk_Mo_planAt_339, lk_Mo_planAt_341, lk_Mo_planAt_344, lk_Mo_planAt_346, lk_Mo_planAt_348, lk_Mo_planAt_351, lk_Mo_planAt_354, lk_Mo_planAt_355, lk_Mo_planAt_358, lk_Mo_planAt_361, lk_Mo_planAt_362, lk_Mo_planAt_363, lk_Mo_planAt_364, lk_Mo_planAt_365, lk_Mo_planAt_367, lk_Mo_planAt_368, lk_Mo_planAt_371, lk_Mo_planAt_374, lk_Mo_planAt_0, lk_Mo_planAt_1, lk_Mo_planAt_2, lk_Mo_planAt_3, lk_Mo_planAt_6, lk_Mo_planAt_9, lk_Mo_planAt_10, lk_Mo_planAt_13, lk_Mo_planAt_14, lk_Mo_planAt_15, lk_Mo_planAt_16, lk_Mo_planAt_19, lk_Mo_planAt_22, lk_Mo_planAt_23, lk_Mo_planAt_24, lk_Mo_planAt_25, lk_Mo_planAt_28, lk_Mo_planAt_31, lk_Mo_planAt_32, lk_Mo_planAt_35, lk_Mo_planAt_36, lk_Mo_planAt_37, lk_Mo_planAt_38, lk_Mo_planAt_39, lk_Mo_planAt_42, lk_Mo_planAt_45, lk_Mo_planAt_46, lk_Mo_planAt_47, lk_Mo_planAt_48, lk_Mo_planAt_49, lk_Mo_planAt_50, lk_Mo_planAt_51, lk_Mo_planAt_54, lk_Mo_planAt_57, lk_Mo_planAt_58, lk_Mo_planAt_61, lk_Mo_planAt_62, lk_Mo_planAt_63, lk_Mo_planAt_64, lk_Mo_planAt_65, lk_Mo_planAt_66, lk_Mo_planAt_69, lk_Mo_planAt_70, lk_Mo_planAt_71, lk_Mo_planAt_74, lk_Mo_planAt_75, lk_Mo_planAt_78, lk_Mo_planAt_80, lk_Mo_planAt_81, lk_Mo_planAt_82, lk_Mo_planAt_85, lk_Mo_planAt_86, lk_Mo_planAt_87, lk_Mo_planAt_90, lk_Mo_planAt_92, lk_Mo_planAt_93, lk_Mo_planAt_95, lk_Mo_planAt_96, lk_Mo_planAt_98, lk_Mo_planAt_100, lk_Mo_planAt_101, lk_Mo_planAt_104, lk_Mo_planAt_106, lk_Mo_planAt_109, lk_Mo_planAt_110, lk_Mo_planAt_113, lk_Mo_planAt_115, lk_Mo_planAt_116, lk_Mo_planAt_119, lk_Mo_planAt_120, lk_Mo_planAt_123, lk_Mo_planAt_125, lk_Mo_planAt_126, lk_Mo_planAt_127, lk_Mo_planAt_130, lk_Mo_planAt_132, lk_Mo_planAt_133, lk_Mo_planAt_136, lk_Mo_planAt_137, lk_Mo_planAt_140, lk_Mo_planAt_141, lk_Mo_planAt_143, lk_Mo_planAt_146, lk_Mo_planAt_149, lk_Mo_planAt_150, lk_Mo_planAt_153, lk_Mo_planAt_155, lk_Mo_planAt_156, lk_Mo_planAt_159, lk_Mo_planAt_161, lk_Mo_planAt_162, lk_Mo_planAt_165, lk_Mo_planAt_167, lk_Mo_planAt_168, lk_Mo_planAt_169, lk_Mo_planAt_172, lk_Mo_planAt_174, lk_Mo_planAt_177, lk_Mo_planAt_178, lk_Mo_planAt_181, lk_Mo_planAt_182, lk_Mo_planAt_183, lk_Mo_planAt_184, lk_Mo_planAt_186, lk_Mo_planAt_187, lk_Mo_planAt_188, lk_Mo_planAt_189, lk_Mo_planAt_191, lk_Mo_planAt_193, lk_Mo_planAt_194, lk_Mo_planAt_197, lk_Mo_planAt_200, lk_Mo_planAt_202, lk_Mo_planAt_205, lk_Mo_planAt_206, lk_Mo_planAt_208, lk_Mo_planAt_211, lk_Mo_planAt_214, lk_Mo_planAt_215, lk_Mo_planAt_217, lk_Mo_planAt_220, lk_Mo_planAt_223, lk_Mo_planAt_224, lk_Mo_planAt_227, lk_Mo_planAt_228, lk_Mo_planAt_230, lk_Mo_planAt_233, lk_Mo_planAt_236, lk_Mo_planAt_237, lk_Mo_planAt_240, lk_Mo_planAt_241, lk_Mo_planAt_243, lk_Mo_planAt_244, lk_Mo_planAt_245, lk_Mo_planAt_248, lk_Mo_planAt_249, lk_Mo_planAt_250, lk_Mo_planAt_251, lk_Mo_planAt_252, lk_Mo_planAt_253, lk_Mo_planAt_255, lk_Mo_planAt_258, lk_Mo_planAt_260, lk_Mo_planAt_261, lk_Mo_planAt_264, lk_Mo_planAt_265, lk_Mo_planAt_266, lk_Mo_planAt_269, lk_Mo_planAt_270, lk_Mo_planAt_271, lk_Mo_planAt_272, lk_Mo_planAt_275, lk_Mo_planAt_278, lk_Mo_planAt_279, lk_Mo_planAt_280, lk_Mo_planAt_281, lk_Mo_planAt_284, lk_Mo_planAt_287, lk_Mo_planAt_288, lk_Mo_planAt_290, lk_Mo_planAt_291, lk_Mo_planAt_293, lk_Mo_planAt_295, lk_Mo_planAt_296, lk_Mo_planAt_299, lk_Mo_planAt_300, lk_Mo_planAt_301, lk_Mo_planAt_304, lk_Mo_planAt_305, lk_Mo_planAt_308, lk_Mo_planAt_309, lk_Mo_planAt_310, lk_Mo_planAt_313, lk_Mo_planAt_314, lk_Mo_planAt_317, lk_Mo_planAt_318, lk_Mo_planAt_319, lk_Mo_planAt_320, lk_Mo_planAt_322, lk_Mo_planAt_323, lk_Mo_planAt_324, lk_Mo_planAt_325, lk_Mo_planAt_328, lk_Mo_planAt_329, lk_Mo_planAt_330, lk_Mo_planAt_331, lk_Mo_planAt_333, lk_Mo_planAt_334, lk_Mo_planAt_335, lk_Mo_planAt_336, lk_Mo_planAt_339, lk_Mo_planAt_341, lk_Mo_planAt_344, lk_Mo_planAt_346, lk_Mo_planAt_348, lk_Mo_planAt_351, lk_Mo_planAt_354, lk_Mo_planAt_355, lk_Mo_planAt_358, lk_Mo_planAt_361, lk_Mo_planAt_362, lk_Mo_planAt_363, lk_Mo_planAt_364, lk_Mo_planAt_365, lk_Mo_planAt_367, lk_Mo_planAt_368, lk_Mo_planAt_371, lk_Mo_planAt_374]) | with_reducible apply And.intro | with_reducible intro _
    all_goals first | exact h | omega
  | succ j ih =>
    intro w v4 v5 v6 v7 v8 v9 hw9
    have e : ∀ b, b ≠ 30 → b ≠ 29 → b ≠ 27 → mo_p3 μ N c w b = μ b := fun b h1 h2 h3 => mo_p3_ne μ N c h1 h2 h3 w
    have hm : mo_w (mo_p3 μ N c w) N := mo_w_cells hw (fun b hb => e b (by omega) (by omega) (by omega))
    have h28 : ∀ i, sc_in (mo_p3 μ N c w 28 i) := by rw [e 28 (by decide) (by decide) (by decide)]; exact hpl
    have h30' := mo_p3_30 μ N c h30 w
    have hK' : ¬ mo_p3 μ N c w 20 c = 0 := by rw [e 20 (by decide) (by decide) (by decide)]; exact hK
    have ih1 := fun a4 a5 a6 a7 a8 a9 => ih (w + 1) a4 a5 a6 a7 a8 a9 (by omega)
    simp only [sc_cast1, mo_p3] at ih1
    clear e ih h
    generalize mo_p3 μ N c w = m at hm h28 h30' hK' ih1 ⊢
    have hset := sp_Mo_setWorld l G (d + 1) m N hm (w : Int) (by omega) ⟨by omega, by omega⟩
    have hm1 : mo_w (mo_m1 N m w) N := mo_w_now _ hm
    have e1 : ∀ b, b ≠ 27 → mo_m1 N m w b = m b := fun b hb => sc_arr_ne _ _ hb
    have hS : ∀ k, k < N → ¬ m 20 k = 0 → 2 ≤ m 21 k ∧ m 21 k ≤ 3 := fun k hk => (hm.2.2.1 k hk).2.2.1
    have hok : mo_ok (mo_m1 N m w 20) (mo_m1 N m w 21) (mo_m1 N m w 27) N := by
      rw [e1 20 (by decide), e1 21 (by decide), show mo_m1 N m w 27 = _ from sc_arr_eq _ _ _]
      exact mo_now_ok _ _ (by omega) _ N hS
    have h27 : ∀ k, k < N → sc_in (mo_m1 N m w 27 k) := fun k hk => by
      by_cases hz : m 20 k = 0
      · rw [show mo_m1 N m w 27 = _ from sc_arr_eq _ _ _]
        simp only [mo_now, hk, if_true, mo_dg, hz]
        exact sc_zero
      · have a1 := hok k hk (by rw [e1 20 (by decide)]; exact hz)
        have a2 := hS k hk hz
        rw [e1 21 (by decide)] at a1
        exact ⟨by omega, by omega⟩
    rw [show sc_arr m 27 (mo_now (m 20) (m 21) (w : Int) (m 27) N) = mo_m1 N m w from rfl] at hset
    have h28' : ∀ i, sc_in (mo_m1 N m w 28 i) := by rw [e1 28 (by decide)]; exact h28
    have h30'' : ∀ i, mo_m1 N m w 30 i = 0 ∨ mo_m1 N m w 30 i = 1 := by rw [e1 30 (by decide)]; exact h30'
    have hK'' : ¬ mo_m1 N m w 20 c = 0 := by rw [e1 20 (by decide)]; exact hK'
    clear e1 hm h28 h30' hK' hS
    generalize mo_m1 N m w = m1 at hset hm1 hok h27 h28' h30'' hK'' ih1
    have hN1 := hm1.1
    have hwn := sp_Mo_weightNow l G d m1 N hm1 hok
    have hnb := sp_Mo_numberOf l G (d + 1) m1 N hm1 (m1 31 c)
    have hkl := mo_nb_lt (m1 20) (m1 21) (m1 27) (m1 31 c) N (fun k hk => (hm1.2.2.1 k hk).2.2.1) hok N (Nat.le_refl _)
    have hsd := hm1.2.2.2.1
    have hwb := mo_wn_le m1 (m1 18 13) N hN1 hm1.2.2.1 hok N (Nat.le_refl _)
    have hob := mo_on_le m1 N hm1.2.2.1 hok N (Nat.le_refl _)
    have hdc := hok c hc hK''
    have hsc := (hm1.2.2.1 c hc).2.2.1 hK''
    sorry
