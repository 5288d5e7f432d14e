theorem fv_0_0 (μ : sc_M) (a : Nat) : sc_fv μ 0 a 0 = .inr (.inr (.inl (sc_rt a 0))) := rfl
theorem ft_0_0 : sc_ft 0 0 = 2 := rfl
theorem fv_0_1 (μ : sc_M) (a : Nat) : sc_fv μ 0 a 1 = .inl (μ a 1) := rfl
theorem ft_0_1 : sc_ft 0 1 = 0 := rfl
theorem fv_0_2 (μ : sc_M) (a : Nat) : sc_fv μ 0 a 2 = .inl (μ a 2) := rfl
theorem ft_0_2 : sc_ft 0 2 = 0 := rfl
theorem fv_1_0 (μ : sc_M) (a : Nat) : sc_fv μ 1 a 0 = .inr (.inr (.inl (sc_rt a 0))) := rfl
theorem ft_1_0 : sc_ft 1 0 = 2 := rfl
theorem fv_1_1 (μ : sc_M) (a : Nat) : sc_fv μ 1 a 1 = .inr (.inr (.inl (sc_rt a 1))) := rfl
theorem ft_1_1 : sc_ft 1 1 = 2 := rfl
theorem fv_1_2 (μ : sc_M) (a : Nat) : sc_fv μ 1 a 2 = .inl (μ a 2) := rfl
theorem ft_1_2 : sc_ft 1 2 = 0 := rfl
theorem fv_1_3 (μ : sc_M) (a : Nat) : sc_fv μ 1 a 3 = .inl (μ a 3) := rfl
theorem ft_1_3 : sc_ft 1 3 = 0 := rfl
theorem fv_2_0 (μ : sc_M) (a : Nat) : sc_fv μ 2 a 0 = .inl (μ a 0) := rfl
theorem ft_2_0 : sc_ft 2 0 = 0 := rfl
theorem fv_2_1 (μ : sc_M) (a : Nat) : sc_fv μ 2 a 1 = .inl (μ a 1) := rfl
theorem ft_2_1 : sc_ft 2 1 = 0 := rfl
theorem fv_2_2 (μ : sc_M) (a : Nat) : sc_fv μ 2 a 2 = .inl (μ a 2) := rfl
theorem ft_2_2 : sc_ft 2 2 = 0 := rfl
theorem fv_2_3 (μ : sc_M) (a : Nat) : sc_fv μ 2 a 3 = .inl (μ a 3) := rfl
theorem ft_2_3 : sc_ft 2 3 = 0 := rfl
theorem fv_2_4 (μ : sc_M) (a : Nat) : sc_fv μ 2 a 4 = .inl (μ a 4) := rfl
theorem ft_2_4 : sc_ft 2 4 = 0 := rfl
theorem fv_2_5 (μ : sc_M) (a : Nat) : sc_fv μ 2 a 5 = .inl (μ a 5) := rfl
theorem ft_2_5 : sc_ft 2 5 = 0 := rfl
theorem fv_2_6 (μ : sc_M) (a : Nat) : sc_fv μ 2 a 6 = .inl (μ a 6) := rfl
theorem ft_2_6 : sc_ft 2 6 = 0 := rfl
theorem fv_2_7 (μ : sc_M) (a : Nat) : sc_fv μ 2 a 7 = .inr (.inr (.inl (sc_rt a 7))) := rfl
theorem ft_2_7 : sc_ft 2 7 = 2 := rfl
theorem fv_2_8 (μ : sc_M) (a : Nat) : sc_fv μ 2 a 8 = .inr (.inr (.inl (sc_rt a 8))) := rfl
theorem ft_2_8 : sc_ft 2 8 = 2 := rfl
theorem fv_3_0 (μ : sc_M) (a : Nat) : sc_fv μ 3 a 0 = .inr (.inr (.inl (sc_rt a 0))) := rfl
theorem ft_3_0 : sc_ft 3 0 = 2 := rfl
theorem fv_3_1 (μ : sc_M) (a : Nat) : sc_fv μ 3 a 1 = .inr (.inr (.inl (sc_rt a 1))) := rfl
theorem ft_3_1 : sc_ft 3 1 = 2 := rfl
theorem fv_3_2 (μ : sc_M) (a : Nat) : sc_fv μ 3 a 2 = .inr (.inr (.inl (sc_rt a 2))) := rfl
theorem ft_3_2 : sc_ft 3 2 = 2 := rfl
theorem fv_3_3 (μ : sc_M) (a : Nat) : sc_fv μ 3 a 3 = .inr (.inr (.inl (sc_rt a 3))) := rfl
theorem ft_3_3 : sc_ft 3 3 = 2 := rfl
theorem fv_3_4 (μ : sc_M) (a : Nat) : sc_fv μ 3 a 4 = .inr (.inr (.inl (sc_rt a 4))) := rfl
theorem ft_3_4 : sc_ft 3 4 = 2 := rfl
theorem fv_3_5 (μ : sc_M) (a : Nat) : sc_fv μ 3 a 5 = .inr (.inr (.inl (sc_rt a 5))) := rfl
theorem ft_3_5 : sc_ft 3 5 = 2 := rfl
theorem fv_3_6 (μ : sc_M) (a : Nat) : sc_fv μ 3 a 6 = .inr (.inr (.inl (sc_rt a 6))) := rfl
theorem ft_3_6 : sc_ft 3 6 = 2 := rfl
theorem fv_3_7 (μ : sc_M) (a : Nat) : sc_fv μ 3 a 7 = .inr (.inr (.inl (sc_rt a 7))) := rfl
theorem ft_3_7 : sc_ft 3 7 = 2 := rfl
theorem fv_3_8 (μ : sc_M) (a : Nat) : sc_fv μ 3 a 8 = .inr (.inr (.inl (sc_rt a 8))) := rfl
theorem ft_3_8 : sc_ft 3 8 = 2 := rfl
theorem fv_3_9 (μ : sc_M) (a : Nat) : sc_fv μ 3 a 9 = .inl (μ a 9) := rfl
theorem ft_3_9 : sc_ft 3 9 = 0 := rfl
theorem fv_3_10 (μ : sc_M) (a : Nat) : sc_fv μ 3 a 10 = .inl (μ a 10) := rfl
theorem ft_3_10 : sc_ft 3 10 = 0 := rfl
theorem fv_3_11 (μ : sc_M) (a : Nat) : sc_fv μ 3 a 11 = .inl (μ a 11) := rfl
theorem ft_3_11 : sc_ft 3 11 = 0 := rfl
theorem fv_4_0 (μ : sc_M) (a : Nat) : sc_fv μ 4 a 0 = .inr (.inr (.inl (sc_rt a 0))) := rfl
theorem ft_4_0 : sc_ft 4 0 = 2 := rfl
theorem fv_4_1 (μ : sc_M) (a : Nat) : sc_fv μ 4 a 1 = .inr (.inr (.inl (sc_rt a 1))) := rfl
theorem ft_4_1 : sc_ft 4 1 = 2 := rfl
theorem fv_4_2 (μ : sc_M) (a : Nat) : sc_fv μ 4 a 2 = .inr (.inr (.inl (sc_rt a 2))) := rfl
theorem ft_4_2 : sc_ft 4 2 = 2 := rfl
theorem fv_4_3 (μ : sc_M) (a : Nat) : sc_fv μ 4 a 3 = .inr (.inr (.inl (sc_rt a 3))) := rfl
theorem ft_4_3 : sc_ft 4 3 = 2 := rfl
theorem fv_4_4 (μ : sc_M) (a : Nat) : sc_fv μ 4 a 4 = .inr (.inr (.inl (sc_rt a 4))) := rfl
theorem ft_4_4 : sc_ft 4 4 = 2 := rfl
theorem fv_4_5 (μ : sc_M) (a : Nat) : sc_fv μ 4 a 5 = .inr (.inr (.inl (sc_rt a 5))) := rfl
theorem ft_4_5 : sc_ft 4 5 = 2 := rfl
theorem fv_4_6 (μ : sc_M) (a : Nat) : sc_fv μ 4 a 6 = .inl (μ a 6) := rfl
theorem ft_4_6 : sc_ft 4 6 = 0 := rfl
theorem fv_4_7 (μ : sc_M) (a : Nat) : sc_fv μ 4 a 7 = .inl (μ a 7) := rfl
theorem ft_4_7 : sc_ft 4 7 = 0 := rfl
theorem fv_4_8 (μ : sc_M) (a : Nat) : sc_fv μ 4 a 8 = .inr (.inl (μ a 8)) := rfl
theorem ft_4_8 : sc_ft 4 8 = 1 := rfl
theorem fv_4_9 (μ : sc_M) (a : Nat) : sc_fv μ 4 a 9 = .inr (.inl (μ a 9)) := rfl
theorem ft_4_9 : sc_ft 4 9 = 1 := rfl
theorem fv_5_0 (μ : sc_M) (a : Nat) : sc_fv μ 5 a 0 = .inl (μ a 0) := rfl
theorem ft_5_0 : sc_ft 5 0 = 0 := rfl
theorem fv_5_1 (μ : sc_M) (a : Nat) : sc_fv μ 5 a 1 = .inr (.inr (.inl (sc_rt a 1))) := rfl
theorem ft_5_1 : sc_ft 5 1 = 2 := rfl
theorem fv_5_2 (μ : sc_M) (a : Nat) : sc_fv μ 5 a 2 = .inl (μ a 2) := rfl
theorem ft_5_2 : sc_ft 5 2 = 0 := rfl
theorem fv_5_3 (μ : sc_M) (a : Nat) : sc_fv μ 5 a 3 = .inr (.inl (μ a 3)) := rfl
theorem ft_5_3 : sc_ft 5 3 = 1 := rfl
theorem fv_5_4 (μ : sc_M) (a : Nat) : sc_fv μ 5 a 4 = .inr (.inl (μ a 4)) := rfl
theorem ft_5_4 : sc_ft 5 4 = 1 := rfl
theorem fv_5_5 (μ : sc_M) (a : Nat) : sc_fv μ 5 a 5 = .inl (μ a 5) := rfl
theorem ft_5_5 : sc_ft 5 5 = 0 := rfl
theorem fv_5_6 (μ : sc_M) (a : Nat) : sc_fv μ 5 a 6 = .inr (.inr (.inl (sc_rt a 6))) := rfl
theorem ft_5_6 : sc_ft 5 6 = 2 := rfl
theorem fv_5_7 (μ : sc_M) (a : Nat) : sc_fv μ 5 a 7 = .inr (.inr (.inl (sc_rt a 7))) := rfl
theorem ft_5_7 : sc_ft 5 7 = 2 := rfl
theorem fv_5_8 (μ : sc_M) (a : Nat) : sc_fv μ 5 a 8 = .inr (.inr (.inl (sc_rt a 8))) := rfl
theorem ft_5_8 : sc_ft 5 8 = 2 := rfl
theorem fv_5_9 (μ : sc_M) (a : Nat) : sc_fv μ 5 a 9 = .inr (.inr (.inl (sc_rt a 9))) := rfl
theorem ft_5_9 : sc_ft 5 9 = 2 := rfl
theorem fv_5_10 (μ : sc_M) (a : Nat) : sc_fv μ 5 a 10 = .inr (.inr (.inl (sc_rt a 10))) := rfl
theorem ft_5_10 : sc_ft 5 10 = 2 := rfl
theorem fv_5_11 (μ : sc_M) (a : Nat) : sc_fv μ 5 a 11 = .inr (.inr (.inl (sc_rt a 11))) := rfl
theorem ft_5_11 : sc_ft 5 11 = 2 := rfl
theorem fv_5_12 (μ : sc_M) (a : Nat) : sc_fv μ 5 a 12 = .inr (.inr (.inl (sc_rt a 12))) := rfl
theorem ft_5_12 : sc_ft 5 12 = 2 := rfl
theorem fv_5_13 (μ : sc_M) (a : Nat) : sc_fv μ 5 a 13 = .inl (μ a 13) := rfl
theorem ft_5_13 : sc_ft 5 13 = 0 := rfl
theorem fv_5_14 (μ : sc_M) (a : Nat) : sc_fv μ 5 a 14 = .inr (.inr (.inl (sc_rt a 14))) := rfl
theorem ft_5_14 : sc_ft 5 14 = 2 := rfl
theorem fv_5_15 (μ : sc_M) (a : Nat) : sc_fv μ 5 a 15 = .inr (.inr (.inl (sc_rt a 15))) := rfl
theorem ft_5_15 : sc_ft 5 15 = 2 := rfl
theorem fv_5_16 (μ : sc_M) (a : Nat) : sc_fv μ 5 a 16 = .inr (.inr (.inl (sc_rt a 16))) := rfl
theorem ft_5_16 : sc_ft 5 16 = 2 := rfl
theorem fv_5_17 (μ : sc_M) (a : Nat) : sc_fv μ 5 a 17 = .inr (.inr (.inl (sc_rt a 17))) := rfl
theorem ft_5_17 : sc_ft 5 17 = 2 := rfl
theorem fv_5_18 (μ : sc_M) (a : Nat) : sc_fv μ 5 a 18 = .inr (.inr (.inl (sc_rt a 18))) := rfl
theorem ft_5_18 : sc_ft 5 18 = 2 := rfl
theorem fv_5_19 (μ : sc_M) (a : Nat) : sc_fv μ 5 a 19 = .inr (.inr (.inl (sc_rt a 19))) := rfl
theorem ft_5_19 : sc_ft 5 19 = 2 := rfl
theorem fv_5_20 (μ : sc_M) (a : Nat) : sc_fv μ 5 a 20 = .inr (.inr (.inl (sc_rt a 20))) := rfl
theorem ft_5_20 : sc_ft 5 20 = 2 := rfl
theorem fv_5_21 (μ : sc_M) (a : Nat) : sc_fv μ 5 a 21 = .inr (.inr (.inl (sc_rt a 21))) := rfl
theorem ft_5_21 : sc_ft 5 21 = 2 := rfl
theorem fv_5_22 (μ : sc_M) (a : Nat) : sc_fv μ 5 a 22 = .inr (.inr (.inl (sc_rt a 22))) := rfl
theorem ft_5_22 : sc_ft 5 22 = 2 := rfl
theorem kd_0 : sc_kd 0 = (9, 10) := rfl
theorem kd_1 : sc_kd 1 = (8, 12) := rfl
theorem kd_2 : sc_kd 2 = (5, 3) := rfl
theorem kd_3 : sc_kd 3 = (3, 10) := rfl
theorem kd_4 : sc_kd 4 = (0, 10) := rfl
theorem kd_5 : sc_kd 5 = (0, 10) := rfl
theorem kd_6 : sc_kd 6 = (0, 243) := rfl
theorem kd_7 : sc_kd 7 = (0, 243) := rfl
theorem kd_8 : sc_kd 8 = (0, 243) := rfl
theorem kd_9 : sc_kd 9 = (1, 243) := rfl
theorem kd_10 : sc_kd 10 = (0, 243) := rfl
theorem kd_11 : sc_kd 11 = (0, 243) := rfl
theorem kd_12 : sc_kd 12 = (6, 4) := rfl
theorem kd_13 : sc_kd 13 = (0, 9) := rfl
theorem kd_14 : sc_kd 14 = (0, 243) := rfl
theorem kd_15 : sc_kd 15 = (4, 4) := rfl
theorem kd_16 : sc_kd 16 = (0, 4) := rfl
theorem kd_17 : sc_kd 17 = (0, 6) := rfl
theorem kd_18 : sc_kd 18 = (10, 23) := rfl
theorem kd_19 : sc_kd 19 = (0, 6) := rfl
theorem kd_20 : sc_kd 20 = (0, 10) := rfl
theorem kd_21 : sc_kd 21 = (0, 10) := rfl
theorem kd_22 : sc_kd 22 = (0, 10) := rfl
theorem kd_23 : sc_kd 23 = (0, 30) := rfl
theorem kd_24 : sc_kd 24 = (0, 10) := rfl
theorem kd_25 : sc_kd 25 = (0, 10) := rfl
theorem kd_26 : sc_kd 26 = (0, 270) := rfl
theorem kd_27 : sc_kd 27 = (0, 10) := rfl
theorem kd_28 : sc_kd 28 = (0, 2430) := rfl
theorem kd_29 : sc_kd 29 = (1, 729) := rfl
theorem kd_30 : sc_kd 30 = (2, 243) := rfl
theorem kd_31 : sc_kd 31 = (0, 10) := rfl
theorem kd_32 : sc_kd 32 = (0, 10) := rfl
theorem kd_33 : sc_kd 33 = (0, 4) := rfl
theorem kd_34 : sc_kd 34 = (0, 108) := rfl
theorem kd_35 : sc_kd 35 = (0, 27) := rfl
theorem kd_36 : sc_kd 36 = (0, 27) := rfl
theorem kd_37 : sc_kd 37 = (0, 27) := rfl
theorem kd_38 : sc_kd 38 = (0, 27) := rfl
theorem kd_39 : sc_kd 39 = (0, 27) := rfl
theorem rt_0_0 : sc_rt 0 0 = 1 := rfl
theorem rt_0_1 : sc_rt 0 1 = 2 := rfl
theorem rt_0_2 : sc_rt 0 2 = 12 := rfl
theorem rt_0_3 : sc_rt 0 3 = 15 := rfl
theorem rt_0_4 : sc_rt 0 4 = 16 := rfl
theorem rt_0_5 : sc_rt 0 5 = 17 := rfl
theorem rt_1_0 : sc_rt 1 0 = 2 := rfl
theorem rt_1_1 : sc_rt 1 1 = 4 := rfl
theorem rt_1_2 : sc_rt 1 2 = 5 := rfl
theorem rt_1_3 : sc_rt 1 3 = 6 := rfl
theorem rt_1_4 : sc_rt 1 4 = 7 := rfl
theorem rt_1_5 : sc_rt 1 5 = 8 := rfl
theorem rt_1_6 : sc_rt 1 6 = 9 := rfl
theorem rt_1_7 : sc_rt 1 7 = 10 := rfl
theorem rt_1_8 : sc_rt 1 8 = 11 := rfl
theorem rt_2_0 : sc_rt 2 0 = 3 := rfl
theorem rt_12_0 : sc_rt 12 0 = 13 := rfl
theorem rt_12_1 : sc_rt 12 1 = 14 := rfl
theorem rt_18_1 : sc_rt 18 1 = 19 := rfl
theorem rt_18_6 : sc_rt 18 6 = 20 := rfl
theorem rt_18_7 : sc_rt 18 7 = 21 := rfl
theorem rt_18_8 : sc_rt 18 8 = 22 := rfl
theorem rt_18_9 : sc_rt 18 9 = 23 := rfl
theorem rt_18_10 : sc_rt 18 10 = 24 := rfl
theorem rt_18_11 : sc_rt 18 11 = 25 := rfl
theorem rt_18_12 : sc_rt 18 12 = 26 := rfl
theorem rt_18_14 : sc_rt 18 14 = 27 := rfl
theorem rt_18_15 : sc_rt 18 15 = 28 := rfl
theorem rt_18_16 : sc_rt 18 16 = 29 := rfl
theorem rt_18_17 : sc_rt 18 17 = 30 := rfl
theorem rt_18_18 : sc_rt 18 18 = 31 := rfl
theorem rt_18_19 : sc_rt 18 19 = 32 := rfl
theorem rt_18_20 : sc_rt 18 20 = 33 := rfl
theorem rt_18_21 : sc_rt 18 21 = 34 := rfl
theorem rt_18_22 : sc_rt 18 22 = 35 := rfl
theorem rt_N7 (n : Nat) : sc_rt (40 + 3 * n) 7 = 41 + 3 * n := by
  unfold sc_rt
  rw [if_neg (by omega)]
  omega
theorem rt_N8 (n : Nat) : sc_rt (40 + 3 * n) 8 = 42 + 3 * n := by
  unfold sc_rt
  rw [if_neg (by omega)]
  omega
theorem ra_3 (i : Nat) : sc_ra 3 i = 40 + 3 * i := rfl
theorem ra_15 (i : Nat) : sc_ra 15 i = 36 + i := rfl
theorem kd_N0 : ∀ n, n < 10 → sc_kd (40 + 3 * n) = (7, 9) := by decide
theorem kd_N1 : ∀ n, n < 10 → sc_kd (41 + 3 * n) = (0, 3) := by decide
theorem kd_N2 : ∀ n, n < 10 → sc_kd (42 + 3 * n) = (0, 27) := by decide
theorem kd_R : ∀ n, n < 4 → sc_kd (36 + n) = (0, 27) := by decide
