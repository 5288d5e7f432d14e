def tb_Ar_fillI : sc_T := [(0, .iconst 0, 1, .inr (.inr 0), false), (1, .istore_n 2, 1, .inl (2, 0), false), (2, .aload_n 0, 1, .inl (0, 0), false), (3, .arraylength, 1, .inr (.inr 0), false), (4, .istore_n 3, 1, .inl (3, 0), false), (5, .iload_n 2, 1, .inl (2, 0), true), (6, .iload_n 3, 1, .inl (3, 0), false), (7, .if_icmp .ge 13, 3, .inl (20, 0), false), (10, .aload_n 0, 1, .inl (0, 0), false), (11, .iload_n 2, 1, .inl (2, 0), false), (12, .iload_n 1, 1, .inl (1, 0), false), (13, .iastore, 1, .inr (.inr 0), false), (14, .iinc 2 1, 3, .inl (2, 0), false), (17, .goto (-12), 3, .inl (5, 0), false), (20, .return_, 1, .inr (.inr 0), false)]
theorem tk_Ar_fillI : sc_ok mq_Ar_fillI tb_Ar_fillI = true := by decide +kernel
theorem lk_Ar_fillI_0 : sc_lk tb_Ar_fillI 0 = some (.iconst 0, 1, .inr (.inr 0), false) := rfl
theorem lk_Ar_fillI_1 : sc_lk tb_Ar_fillI 1 = some (.istore_n 2, 1, .inl (2, 0), false) := rfl
theorem lk_Ar_fillI_2 : sc_lk tb_Ar_fillI 2 = some (.aload_n 0, 1, .inl (0, 0), false) := rfl
theorem lk_Ar_fillI_3 : sc_lk tb_Ar_fillI 3 = some (.arraylength, 1, .inr (.inr 0), false) := rfl
theorem lk_Ar_fillI_4 : sc_lk tb_Ar_fillI 4 = some (.istore_n 3, 1, .inl (3, 0), false) := rfl
theorem lk_Ar_fillI_5 : sc_lk tb_Ar_fillI 5 = some (.iload_n 2, 1, .inl (2, 0), true) := rfl
theorem lk_Ar_fillI_6 : sc_lk tb_Ar_fillI 6 = some (.iload_n 3, 1, .inl (3, 0), false) := rfl
theorem lk_Ar_fillI_7 : sc_lk tb_Ar_fillI 7 = some (.if_icmp .ge 13, 3, .inl (20, 0), false) := rfl
theorem lk_Ar_fillI_10 : sc_lk tb_Ar_fillI 10 = some (.aload_n 0, 1, .inl (0, 0), false) := rfl
theorem lk_Ar_fillI_11 : sc_lk tb_Ar_fillI 11 = some (.iload_n 2, 1, .inl (2, 0), false) := rfl
theorem lk_Ar_fillI_12 : sc_lk tb_Ar_fillI 12 = some (.iload_n 1, 1, .inl (1, 0), false) := rfl
theorem lk_Ar_fillI_13 : sc_lk tb_Ar_fillI 13 = some (.iastore, 1, .inr (.inr 0), false) := rfl
theorem lk_Ar_fillI_14 : sc_lk tb_Ar_fillI 14 = some (.iinc 2 1, 3, .inl (2, 0), false) := rfl
theorem lk_Ar_fillI_17 : sc_lk tb_Ar_fillI 17 = some (.goto (-12), 3, .inl (5, 0), false) := rfl
theorem lk_Ar_fillI_20 : sc_lk tb_Ar_fillI 20 = some (.return_, 1, .inr (.inr 0), false) := rfl
def tb_Ar_fillJ : sc_T := [(0, .iconst 0, 1, .inr (.inr 0), false), (1, .istore_n 3, 1, .inl (3, 0), false), (2, .aload_n 0, 1, .inl (0, 0), false), (3, .arraylength, 1, .inr (.inr 0), false), (4, .istore 4, 2, .inl (4, 0), false), (6, .iload_n 3, 1, .inl (3, 0), true), (7, .iload 4, 2, .inl (4, 0), false), (9, .if_icmp .ge 13, 3, .inl (22, 0), false), (12, .aload_n 0, 1, .inl (0, 0), false), (13, .iload_n 3, 1, .inl (3, 0), false), (14, .lload_n 1, 1, .inl (1, 0), false), (15, .lastore, 1, .inr (.inr 0), false), (16, .iinc 3 1, 3, .inl (3, 0), false), (19, .goto (-13), 3, .inl (6, 0), false), (22, .return_, 1, .inr (.inr 0), false)]
theorem tk_Ar_fillJ : sc_ok mq_Ar_fillJ tb_Ar_fillJ = true := by decide +kernel
theorem lk_Ar_fillJ_0 : sc_lk tb_Ar_fillJ 0 = some (.iconst 0, 1, .inr (.inr 0), false) := rfl
theorem lk_Ar_fillJ_1 : sc_lk tb_Ar_fillJ 1 = some (.istore_n 3, 1, .inl (3, 0), false) := rfl
theorem lk_Ar_fillJ_2 : sc_lk tb_Ar_fillJ 2 = some (.aload_n 0, 1, .inl (0, 0), false) := rfl
theorem lk_Ar_fillJ_3 : sc_lk tb_Ar_fillJ 3 = some (.arraylength, 1, .inr (.inr 0), false) := rfl
theorem lk_Ar_fillJ_4 : sc_lk tb_Ar_fillJ 4 = some (.istore 4, 2, .inl (4, 0), false) := rfl
theorem lk_Ar_fillJ_6 : sc_lk tb_Ar_fillJ 6 = some (.iload_n 3, 1, .inl (3, 0), true) := rfl
theorem lk_Ar_fillJ_7 : sc_lk tb_Ar_fillJ 7 = some (.iload 4, 2, .inl (4, 0), false) := rfl
theorem lk_Ar_fillJ_9 : sc_lk tb_Ar_fillJ 9 = some (.if_icmp .ge 13, 3, .inl (22, 0), false) := rfl
theorem lk_Ar_fillJ_12 : sc_lk tb_Ar_fillJ 12 = some (.aload_n 0, 1, .inl (0, 0), false) := rfl
theorem lk_Ar_fillJ_13 : sc_lk tb_Ar_fillJ 13 = some (.iload_n 3, 1, .inl (3, 0), false) := rfl
theorem lk_Ar_fillJ_14 : sc_lk tb_Ar_fillJ 14 = some (.lload_n 1, 1, .inl (1, 0), false) := rfl
theorem lk_Ar_fillJ_15 : sc_lk tb_Ar_fillJ 15 = some (.lastore, 1, .inr (.inr 0), false) := rfl
theorem lk_Ar_fillJ_16 : sc_lk tb_Ar_fillJ 16 = some (.iinc 3 1, 3, .inl (3, 0), false) := rfl
theorem lk_Ar_fillJ_19 : sc_lk tb_Ar_fillJ 19 = some (.goto (-13), 3, .inl (6, 0), false) := rfl
theorem lk_Ar_fillJ_22 : sc_lk tb_Ar_fillJ 22 = some (.return_, 1, .inr (.inr 0), false) := rfl
def tb_Ma_abs : sc_T := [(0, .lload_n 0, 1, .inl (0, 0), false), (1, .lconst 0, 1, .inr (.inr 0), false), (2, .lcmp, 1, .inr (.inr 0), false), (3, .ifCond .ge 8, 3, .inl (11, 0), false), (6, .lload_n 0, 1, .inl (0, 0), false), (7, .lneg, 1, .inr (.inr 0), false), (8, .goto 4, 3, .inl (12, 0), false), (11, .lload_n 0, 1, .inl (0, 0), false), (12, .lreturn, 1, .inr (.inr 0), false)]
theorem tk_Ma_abs : sc_ok mq_Ma_abs tb_Ma_abs = true := by decide +kernel
theorem lk_Ma_abs_0 : sc_lk tb_Ma_abs 0 = some (.lload_n 0, 1, .inl (0, 0), false) := rfl
theorem lk_Ma_abs_1 : sc_lk tb_Ma_abs 1 = some (.lconst 0, 1, .inr (.inr 0), false) := rfl
theorem lk_Ma_abs_2 : sc_lk tb_Ma_abs 2 = some (.lcmp, 1, .inr (.inr 0), false) := rfl
theorem lk_Ma_abs_3 : sc_lk tb_Ma_abs 3 = some (.ifCond .ge 8, 3, .inl (11, 0), false) := rfl
theorem lk_Ma_abs_6 : sc_lk tb_Ma_abs 6 = some (.lload_n 0, 1, .inl (0, 0), false) := rfl
theorem lk_Ma_abs_7 : sc_lk tb_Ma_abs 7 = some (.lneg, 1, .inr (.inr 0), false) := rfl
theorem lk_Ma_abs_8 : sc_lk tb_Ma_abs 8 = some (.goto 4, 3, .inl (12, 0), false) := rfl
theorem lk_Ma_abs_11 : sc_lk tb_Ma_abs 11 = some (.lload_n 0, 1, .inl (0, 0), false) := rfl
theorem lk_Ma_abs_12 : sc_lk tb_Ma_abs 12 = some (.lreturn, 1, .inr (.inr 0), false) := rfl
def tb_Ma_maxJ : sc_T := [(0, .lload_n 0, 1, .inl (0, 0), false), (1, .lload_n 2, 1, .inl (2, 0), false), (2, .lcmp, 1, .inr (.inr 0), false), (3, .ifCond .lt 7, 3, .inl (10, 0), false), (6, .lload_n 0, 1, .inl (0, 0), false), (7, .goto 4, 3, .inl (11, 0), false), (10, .lload_n 2, 1, .inl (2, 0), false), (11, .lreturn, 1, .inr (.inr 0), false)]
theorem tk_Ma_maxJ : sc_ok mq_Ma_maxJ tb_Ma_maxJ = true := by decide +kernel
theorem lk_Ma_maxJ_0 : sc_lk tb_Ma_maxJ 0 = some (.lload_n 0, 1, .inl (0, 0), false) := rfl
theorem lk_Ma_maxJ_1 : sc_lk tb_Ma_maxJ 1 = some (.lload_n 2, 1, .inl (2, 0), false) := rfl
theorem lk_Ma_maxJ_2 : sc_lk tb_Ma_maxJ 2 = some (.lcmp, 1, .inr (.inr 0), false) := rfl
theorem lk_Ma_maxJ_3 : sc_lk tb_Ma_maxJ 3 = some (.ifCond .lt 7, 3, .inl (10, 0), false) := rfl
theorem lk_Ma_maxJ_6 : sc_lk tb_Ma_maxJ 6 = some (.lload_n 0, 1, .inl (0, 0), false) := rfl
theorem lk_Ma_maxJ_7 : sc_lk tb_Ma_maxJ 7 = some (.goto 4, 3, .inl (11, 0), false) := rfl
theorem lk_Ma_maxJ_10 : sc_lk tb_Ma_maxJ 10 = some (.lload_n 2, 1, .inl (2, 0), false) := rfl
theorem lk_Ma_maxJ_11 : sc_lk tb_Ma_maxJ 11 = some (.lreturn, 1, .inr (.inr 0), false) := rfl
def tb_Ma_min : sc_T := [(0, .iload_n 0, 1, .inl (0, 0), false), (1, .iload_n 1, 1, .inl (1, 0), false), (2, .if_icmp .gt 7, 3, .inl (9, 0), false), (5, .iload_n 0, 1, .inl (0, 0), false), (6, .goto 4, 3, .inl (10, 0), false), (9, .iload_n 1, 1, .inl (1, 0), false), (10, .ireturn, 1, .inr (.inr 0), false)]
theorem tk_Ma_min : sc_ok mq_Ma_min tb_Ma_min = true := by decide +kernel
theorem lk_Ma_min_0 : sc_lk tb_Ma_min 0 = some (.iload_n 0, 1, .inl (0, 0), false) := rfl
theorem lk_Ma_min_1 : sc_lk tb_Ma_min 1 = some (.iload_n 1, 1, .inl (1, 0), false) := rfl
theorem lk_Ma_min_2 : sc_lk tb_Ma_min 2 = some (.if_icmp .gt 7, 3, .inl (9, 0), false) := rfl
theorem lk_Ma_min_5 : sc_lk tb_Ma_min 5 = some (.iload_n 0, 1, .inl (0, 0), false) := rfl
theorem lk_Ma_min_6 : sc_lk tb_Ma_min 6 = some (.goto 4, 3, .inl (10, 0), false) := rfl
theorem lk_Ma_min_9 : sc_lk tb_Ma_min 9 = some (.iload_n 1, 1, .inl (1, 0), false) := rfl
theorem lk_Ma_min_10 : sc_lk tb_Ma_min 10 = some (.ireturn, 1, .inr (.inr 0), false) := rfl
def tb_Ma_maxI : sc_T := [(0, .iload_n 0, 1, .inl (0, 0), false), (1, .iload_n 1, 1, .inl (1, 0), false), (2, .if_icmp .lt 7, 3, .inl (9, 0), false), (5, .iload_n 0, 1, .inl (0, 0), false), (6, .goto 4, 3, .inl (10, 0), false), (9, .iload_n 1, 1, .inl (1, 0), false), (10, .ireturn, 1, .inr (.inr 0), false)]
theorem tk_Ma_maxI : sc_ok mq_Ma_maxI tb_Ma_maxI = true := by decide +kernel
theorem lk_Ma_maxI_0 : sc_lk tb_Ma_maxI 0 = some (.iload_n 0, 1, .inl (0, 0), false) := rfl
theorem lk_Ma_maxI_1 : sc_lk tb_Ma_maxI 1 = some (.iload_n 1, 1, .inl (1, 0), false) := rfl
theorem lk_Ma_maxI_2 : sc_lk tb_Ma_maxI 2 = some (.if_icmp .lt 7, 3, .inl (9, 0), false) := rfl
theorem lk_Ma_maxI_5 : sc_lk tb_Ma_maxI 5 = some (.iload_n 0, 1, .inl (0, 0), false) := rfl
theorem lk_Ma_maxI_6 : sc_lk tb_Ma_maxI 6 = some (.goto 4, 3, .inl (10, 0), false) := rfl
theorem lk_Ma_maxI_9 : sc_lk tb_Ma_maxI 9 = some (.iload_n 1, 1, .inl (1, 0), false) := rfl
theorem lk_Ma_maxI_10 : sc_lk tb_Ma_maxI 10 = some (.ireturn, 1, .inr (.inr 0), false) := rfl
def tb_In_bitCount : sc_T := [(0, .iload_n 0, 1, .inl (0, 0), false), (1, .iload_n 0, 1, .inl (0, 0), false), (2, .iconst 1, 1, .inr (.inr 0), false), (3, .iushr, 1, .inr (.inr 0), false), (4, .ldc_w 265, 3, .inr (.inr (1431655765)), false), (7, .iand, 1, .inr (.inr 0), false), (8, .isub, 1, .inr (.inr 0), false), (9, .istore_n 0, 1, .inl (0, 0), false), (10, .iload_n 0, 1, .inl (0, 0), false), (11, .ldc_w 266, 3, .inr (.inr (858993459)), false), (14, .iand, 1, .inr (.inr 0), false), (15, .iload_n 0, 1, .inl (0, 0), false), (16, .iconst 2, 1, .inr (.inr 0), false), (17, .iushr, 1, .inr (.inr 0), false), (18, .ldc_w 266, 3, .inr (.inr (858993459)), false), (21, .iand, 1, .inr (.inr 0), false), (22, .iadd, 1, .inr (.inr 0), false), (23, .istore_n 0, 1, .inl (0, 0), false), (24, .iload_n 0, 1, .inl (0, 0), false), (25, .iload_n 0, 1, .inl (0, 0), false), (26, .iconst 4, 1, .inr (.inr 0), false), (27, .iushr, 1, .inr (.inr 0), false), (28, .iadd, 1, .inr (.inr 0), false), (29, .ldc_w 267, 3, .inr (.inr (252645135)), false), (32, .iand, 1, .inr (.inr 0), false), (33, .istore_n 0, 1, .inl (0, 0), false), (34, .iload_n 0, 1, .inl (0, 0), false), (35, .iload_n 0, 1, .inl (0, 0), false), (36, .bipush 8, 2, .inr (.inr 0), false), (38, .iushr, 1, .inr (.inr 0), false), (39, .iadd, 1, .inr (.inr 0), false), (40, .istore_n 0, 1, .inl (0, 0), false), (41, .iload_n 0, 1, .inl (0, 0), false), (42, .iload_n 0, 1, .inl (0, 0), false), (43, .bipush 16, 2, .inr (.inr 0), false), (45, .iushr, 1, .inr (.inr 0), false), (46, .iadd, 1, .inr (.inr 0), false), (47, .istore_n 0, 1, .inl (0, 0), false), (48, .iload_n 0, 1, .inl (0, 0), false), (49, .bipush 63, 2, .inr (.inr 0), false), (51, .iand, 1, .inr (.inr 0), false), (52, .ireturn, 1, .inr (.inr 0), false)]
theorem tk_In_bitCount : sc_ok mq_In_bitCount tb_In_bitCount = true := by decide +kernel
theorem lk_In_bitCount_0 : sc_lk tb_In_bitCount 0 = some (.iload_n 0, 1, .inl (0, 0), false) := rfl
theorem lk_In_bitCount_1 : sc_lk tb_In_bitCount 1 = some (.iload_n 0, 1, .inl (0, 0), false) := rfl
theorem lk_In_bitCount_2 : sc_lk tb_In_bitCount 2 = some (.iconst 1, 1, .inr (.inr 0), false) := rfl
theorem lk_In_bitCount_3 : sc_lk tb_In_bitCount 3 = some (.iushr, 1, .inr (.inr 0), false) := rfl
theorem lk_In_bitCount_4 : sc_lk tb_In_bitCount 4 = some (.ldc_w 265, 3, .inr (.inr (1431655765)), false) := rfl
theorem lk_In_bitCount_7 : sc_lk tb_In_bitCount 7 = some (.iand, 1, .inr (.inr 0), false) := rfl
theorem lk_In_bitCount_8 : sc_lk tb_In_bitCount 8 = some (.isub, 1, .inr (.inr 0), false) := rfl
theorem lk_In_bitCount_9 : sc_lk tb_In_bitCount 9 = some (.istore_n 0, 1, .inl (0, 0), false) := rfl
theorem lk_In_bitCount_10 : sc_lk tb_In_bitCount 10 = some (.iload_n 0, 1, .inl (0, 0), false) := rfl
theorem lk_In_bitCount_11 : sc_lk tb_In_bitCount 11 = some (.ldc_w 266, 3, .inr (.inr (858993459)), false) := rfl
theorem lk_In_bitCount_14 : sc_lk tb_In_bitCount 14 = some (.iand, 1, .inr (.inr 0), false) := rfl
theorem lk_In_bitCount_15 : sc_lk tb_In_bitCount 15 = some (.iload_n 0, 1, .inl (0, 0), false) := rfl
theorem lk_In_bitCount_16 : sc_lk tb_In_bitCount 16 = some (.iconst 2, 1, .inr (.inr 0), false) := rfl
theorem lk_In_bitCount_17 : sc_lk tb_In_bitCount 17 = some (.iushr, 1, .inr (.inr 0), false) := rfl
theorem lk_In_bitCount_18 : sc_lk tb_In_bitCount 18 = some (.ldc_w 266, 3, .inr (.inr (858993459)), false) := rfl
theorem lk_In_bitCount_21 : sc_lk tb_In_bitCount 21 = some (.iand, 1, .inr (.inr 0), false) := rfl
theorem lk_In_bitCount_22 : sc_lk tb_In_bitCount 22 = some (.iadd, 1, .inr (.inr 0), false) := rfl
theorem lk_In_bitCount_23 : sc_lk tb_In_bitCount 23 = some (.istore_n 0, 1, .inl (0, 0), false) := rfl
theorem lk_In_bitCount_24 : sc_lk tb_In_bitCount 24 = some (.iload_n 0, 1, .inl (0, 0), false) := rfl
theorem lk_In_bitCount_25 : sc_lk tb_In_bitCount 25 = some (.iload_n 0, 1, .inl (0, 0), false) := rfl
theorem lk_In_bitCount_26 : sc_lk tb_In_bitCount 26 = some (.iconst 4, 1, .inr (.inr 0), false) := rfl
theorem lk_In_bitCount_27 : sc_lk tb_In_bitCount 27 = some (.iushr, 1, .inr (.inr 0), false) := rfl
theorem lk_In_bitCount_28 : sc_lk tb_In_bitCount 28 = some (.iadd, 1, .inr (.inr 0), false) := rfl
theorem lk_In_bitCount_29 : sc_lk tb_In_bitCount 29 = some (.ldc_w 267, 3, .inr (.inr (252645135)), false) := rfl
theorem lk_In_bitCount_32 : sc_lk tb_In_bitCount 32 = some (.iand, 1, .inr (.inr 0), false) := rfl
theorem lk_In_bitCount_33 : sc_lk tb_In_bitCount 33 = some (.istore_n 0, 1, .inl (0, 0), false) := rfl
theorem lk_In_bitCount_34 : sc_lk tb_In_bitCount 34 = some (.iload_n 0, 1, .inl (0, 0), false) := rfl
theorem lk_In_bitCount_35 : sc_lk tb_In_bitCount 35 = some (.iload_n 0, 1, .inl (0, 0), false) := rfl
theorem lk_In_bitCount_36 : sc_lk tb_In_bitCount 36 = some (.bipush 8, 2, .inr (.inr 0), false) := rfl
theorem lk_In_bitCount_38 : sc_lk tb_In_bitCount 38 = some (.iushr, 1, .inr (.inr 0), false) := rfl
theorem lk_In_bitCount_39 : sc_lk tb_In_bitCount 39 = some (.iadd, 1, .inr (.inr 0), false) := rfl
theorem lk_In_bitCount_40 : sc_lk tb_In_bitCount 40 = some (.istore_n 0, 1, .inl (0, 0), false) := rfl
theorem lk_In_bitCount_41 : sc_lk tb_In_bitCount 41 = some (.iload_n 0, 1, .inl (0, 0), false) := rfl
theorem lk_In_bitCount_42 : sc_lk tb_In_bitCount 42 = some (.iload_n 0, 1, .inl (0, 0), false) := rfl
theorem lk_In_bitCount_43 : sc_lk tb_In_bitCount 43 = some (.bipush 16, 2, .inr (.inr 0), false) := rfl
theorem lk_In_bitCount_45 : sc_lk tb_In_bitCount 45 = some (.iushr, 1, .inr (.inr 0), false) := rfl
theorem lk_In_bitCount_46 : sc_lk tb_In_bitCount 46 = some (.iadd, 1, .inr (.inr 0), false) := rfl
theorem lk_In_bitCount_47 : sc_lk tb_In_bitCount 47 = some (.istore_n 0, 1, .inl (0, 0), false) := rfl
theorem lk_In_bitCount_48 : sc_lk tb_In_bitCount 48 = some (.iload_n 0, 1, .inl (0, 0), false) := rfl
theorem lk_In_bitCount_49 : sc_lk tb_In_bitCount 49 = some (.bipush 63, 2, .inr (.inr 0), false) := rfl
theorem lk_In_bitCount_51 : sc_lk tb_In_bitCount 51 = some (.iand, 1, .inr (.inr 0), false) := rfl
theorem lk_In_bitCount_52 : sc_lk tb_In_bitCount 52 = some (.ireturn, 1, .inr (.inr 0), false) := rfl
def tb_No_begin : sc_T := [(0, .aload_n 0, 1, .inl (0, 0), false), (1, .iload_n 1, 1, .inl (1, 0), false), (2, .putfield 18, 3, .inl (2, 0), false), (5, .aload_n 0, 1, .inl (0, 0), false), (6, .iload_n 2, 1, .inl (2, 0), false), (7, .putfield 22, 3, .inl (2, 1), false), (10, .aload_n 0, 1, .inl (0, 0), false), (11, .iload_n 3, 1, .inl (3, 0), false), (12, .putfield 25, 3, .inl (2, 2), false), (15, .aload_n 0, 1, .inl (0, 0), false), (16, .bipush (-9), 2, .inr (.inr 0), false), (18, .putfield 28, 3, .inl (2, 3), false), (21, .aload_n 0, 1, .inl (0, 0), false), (22, .aload_n 0, 1, .inl (0, 0), false), (23, .getfield 18, 3, .inl (2, 0), false), (26, .iconst 2, 1, .inr (.inr 0), false), (27, .if_icmp .ne 7, 3, .inl (34, 0), false), (30, .iconst 0, 1, .inr (.inr 0), false), (31, .goto 4, 3, .inl (35, 0), false), (34, .iconst 1, 1, .inr (.inr 0), false), (35, .putfield 31, 3, .inl (2, 6), false), (38, .aload_n 0, 1, .inl (0, 0), false), (39, .invokevirtual 34, 3, .inr (.inl (2, 0, mq_No_clearTable)), false), (42, .return_, 1, .inr (.inr 0), false)]
theorem tk_No_begin : sc_ok mq_No_begin tb_No_begin = true := by decide +kernel
theorem lk_No_begin_0 : sc_lk tb_No_begin 0 = some (.aload_n 0, 1, .inl (0, 0), false) := rfl
theorem lk_No_begin_1 : sc_lk tb_No_begin 1 = some (.iload_n 1, 1, .inl (1, 0), false) := rfl
theorem lk_No_begin_2 : sc_lk tb_No_begin 2 = some (.putfield 18, 3, .inl (2, 0), false) := rfl
theorem lk_No_begin_5 : sc_lk tb_No_begin 5 = some (.aload_n 0, 1, .inl (0, 0), false) := rfl
theorem lk_No_begin_6 : sc_lk tb_No_begin 6 = some (.iload_n 2, 1, .inl (2, 0), false) := rfl
theorem lk_No_begin_7 : sc_lk tb_No_begin 7 = some (.putfield 22, 3, .inl (2, 1), false) := rfl
theorem lk_No_begin_10 : sc_lk tb_No_begin 10 = some (.aload_n 0, 1, .inl (0, 0), false) := rfl
theorem lk_No_begin_11 : sc_lk tb_No_begin 11 = some (.iload_n 3, 1, .inl (3, 0), false) := rfl
theorem lk_No_begin_12 : sc_lk tb_No_begin 12 = some (.putfield 25, 3, .inl (2, 2), false) := rfl
theorem lk_No_begin_15 : sc_lk tb_No_begin 15 = some (.aload_n 0, 1, .inl (0, 0), false) := rfl
theorem lk_No_begin_16 : sc_lk tb_No_begin 16 = some (.bipush (-9), 2, .inr (.inr 0), false) := rfl
theorem lk_No_begin_18 : sc_lk tb_No_begin 18 = some (.putfield 28, 3, .inl (2, 3), false) := rfl
theorem lk_No_begin_21 : sc_lk tb_No_begin 21 = some (.aload_n 0, 1, .inl (0, 0), false) := rfl
theorem lk_No_begin_22 : sc_lk tb_No_begin 22 = some (.aload_n 0, 1, .inl (0, 0), false) := rfl
theorem lk_No_begin_23 : sc_lk tb_No_begin 23 = some (.getfield 18, 3, .inl (2, 0), false) := rfl
theorem lk_No_begin_26 : sc_lk tb_No_begin 26 = some (.iconst 2, 1, .inr (.inr 0), false) := rfl
theorem lk_No_begin_27 : sc_lk tb_No_begin 27 = some (.if_icmp .ne 7, 3, .inl (34, 0), false) := rfl
theorem lk_No_begin_30 : sc_lk tb_No_begin 30 = some (.iconst 0, 1, .inr (.inr 0), false) := rfl
theorem lk_No_begin_31 : sc_lk tb_No_begin 31 = some (.goto 4, 3, .inl (35, 0), false) := rfl
theorem lk_No_begin_34 : sc_lk tb_No_begin 34 = some (.iconst 1, 1, .inr (.inr 0), false) := rfl
theorem lk_No_begin_35 : sc_lk tb_No_begin 35 = some (.putfield 31, 3, .inl (2, 6), false) := rfl
theorem lk_No_begin_38 : sc_lk tb_No_begin 38 = some (.aload_n 0, 1, .inl (0, 0), false) := rfl
theorem lk_No_begin_39 : sc_lk tb_No_begin 39 = some (.invokevirtual 34, 3, .inr (.inl (2, 0, mq_No_clearTable)), false) := rfl
theorem lk_No_begin_42 : sc_lk tb_No_begin 42 = some (.return_, 1, .inr (.inr 0), false) := rfl
def tb_No_clearTable : sc_T := [(0, .aload_n 0, 1, .inl (0, 0), false), (1, .getfield 15, 3, .inl (2, 8), false), (4, .iconst 0, 1, .inr (.inr 0), false), (5, .invokestatic 37, 3, .inr (.inl (100, 2, mq_Ar_fillI)), false), (8, .aload_n 0, 1, .inl (0, 0), false), (9, .getfield 18, 3, .inl (2, 0), false), (12, .iconst 1, 1, .inr (.inr 0), false), (13, .if_icmp .ne 11, 3, .inl (24, 0), false), (16, .aload_n 0, 1, .inl (0, 0), false), (17, .getfield 22, 3, .inl (2, 1), false), (20, .iconst 1, 1, .inr (.inr 0), false), (21, .if_icmp .ge 4, 3, .inl (25, 0), false), (24, .return_, 1, .inr (.inr 0), false), (25, .iconst 0, 1, .inr (.inr 0), false), (26, .istore_n 1, 1, .inl (1, 0), false), (27, .iload_n 1, 1, .inl (1, 0), true), (28, .bipush 27, 2, .inr (.inr 0), false), (30, .if_icmp .ge 21, 3, .inl (51, 0), false), (33, .aload_n 0, 1, .inl (0, 0), false), (34, .getfield 15, 3, .inl (2, 8), false), (37, .iload_n 1, 1, .inl (1, 0), false), (38, .bipush 12, 2, .inr (.inr 0), false), (40, .iastore, 1, .inr (.inr 0), false), (41, .iload_n 1, 1, .inl (1, 0), false), (42, .aload_n 0, 1, .inl (0, 0), false), (43, .getfield 22, 3, .inl (2, 1), false), (46, .iadd, 1, .inr (.inr 0), false), (47, .istore_n 1, 1, .inl (1, 0), false), (48, .goto (-21), 3, .inl (27, 0), false), (51, .return_, 1, .inr (.inr 0), false)]
theorem tk_No_clearTable : sc_ok mq_No_clearTable tb_No_clearTable = true := by decide +kernel
theorem lk_No_clearTable_0 : sc_lk tb_No_clearTable 0 = some (.aload_n 0, 1, .inl (0, 0), false) := rfl
theorem lk_No_clearTable_1 : sc_lk tb_No_clearTable 1 = some (.getfield 15, 3, .inl (2, 8), false) := rfl
theorem lk_No_clearTable_4 : sc_lk tb_No_clearTable 4 = some (.iconst 0, 1, .inr (.inr 0), false) := rfl
theorem lk_No_clearTable_5 : sc_lk tb_No_clearTable 5 = some (.invokestatic 37, 3, .inr (.inl (100, 2, mq_Ar_fillI)), false) := rfl
theorem lk_No_clearTable_8 : sc_lk tb_No_clearTable 8 = some (.aload_n 0, 1, .inl (0, 0), false) := rfl
theorem lk_No_clearTable_9 : sc_lk tb_No_clearTable 9 = some (.getfield 18, 3, .inl (2, 0), false) := rfl
theorem lk_No_clearTable_12 : sc_lk tb_No_clearTable 12 = some (.iconst 1, 1, .inr (.inr 0), false) := rfl
theorem lk_No_clearTable_13 : sc_lk tb_No_clearTable 13 = some (.if_icmp .ne 11, 3, .inl (24, 0), false) := rfl
theorem lk_No_clearTable_16 : sc_lk tb_No_clearTable 16 = some (.aload_n 0, 1, .inl (0, 0), false) := rfl
theorem lk_No_clearTable_17 : sc_lk tb_No_clearTable 17 = some (.getfield 22, 3, .inl (2, 1), false) := rfl
theorem lk_No_clearTable_20 : sc_lk tb_No_clearTable 20 = some (.iconst 1, 1, .inr (.inr 0), false) := rfl
theorem lk_No_clearTable_21 : sc_lk tb_No_clearTable 21 = some (.if_icmp .ge 4, 3, .inl (25, 0), false) := rfl
theorem lk_No_clearTable_24 : sc_lk tb_No_clearTable 24 = some (.return_, 1, .inr (.inr 0), false) := rfl
theorem lk_No_clearTable_25 : sc_lk tb_No_clearTable 25 = some (.iconst 0, 1, .inr (.inr 0), false) := rfl
theorem lk_No_clearTable_26 : sc_lk tb_No_clearTable 26 = some (.istore_n 1, 1, .inl (1, 0), false) := rfl
theorem lk_No_clearTable_27 : sc_lk tb_No_clearTable 27 = some (.iload_n 1, 1, .inl (1, 0), true) := rfl
theorem lk_No_clearTable_28 : sc_lk tb_No_clearTable 28 = some (.bipush 27, 2, .inr (.inr 0), false) := rfl
theorem lk_No_clearTable_30 : sc_lk tb_No_clearTable 30 = some (.if_icmp .ge 21, 3, .inl (51, 0), false) := rfl
theorem lk_No_clearTable_33 : sc_lk tb_No_clearTable 33 = some (.aload_n 0, 1, .inl (0, 0), false) := rfl
theorem lk_No_clearTable_34 : sc_lk tb_No_clearTable 34 = some (.getfield 15, 3, .inl (2, 8), false) := rfl
theorem lk_No_clearTable_37 : sc_lk tb_No_clearTable 37 = some (.iload_n 1, 1, .inl (1, 0), false) := rfl
theorem lk_No_clearTable_38 : sc_lk tb_No_clearTable 38 = some (.bipush 12, 2, .inr (.inr 0), false) := rfl
theorem lk_No_clearTable_40 : sc_lk tb_No_clearTable 40 = some (.iastore, 1, .inr (.inr 0), false) := rfl
theorem lk_No_clearTable_41 : sc_lk tb_No_clearTable 41 = some (.iload_n 1, 1, .inl (1, 0), false) := rfl
theorem lk_No_clearTable_42 : sc_lk tb_No_clearTable 42 = some (.aload_n 0, 1, .inl (0, 0), false) := rfl
theorem lk_No_clearTable_43 : sc_lk tb_No_clearTable 43 = some (.getfield 22, 3, .inl (2, 1), false) := rfl
theorem lk_No_clearTable_46 : sc_lk tb_No_clearTable 46 = some (.iadd, 1, .inr (.inr 0), false) := rfl
theorem lk_No_clearTable_47 : sc_lk tb_No_clearTable 47 = some (.istore_n 1, 1, .inl (1, 0), false) := rfl
theorem lk_No_clearTable_48 : sc_lk tb_No_clearTable 48 = some (.goto (-21), 3, .inl (27, 0), false) := rfl
theorem lk_No_clearTable_51 : sc_lk tb_No_clearTable 51 = some (.return_, 1, .inr (.inr 0), false) := rfl
def tb_No_isChildOf : sc_T := [(0, .iconst 0, 1, .inr (.inr 0), false), (1, .istore_n 2, 1, .inl (2, 0), false), (2, .iload_n 2, 1, .inl (2, 0), true), (3, .aload_n 0, 1, .inl (0, 0), false), (4, .getfield 43, 3, .inl (2, 5), false), (7, .if_icmp .ge 26, 3, .inl (33, 0), false), (10, .iload_n 2, 1, .inl (2, 0), false), (11, .iconst 3, 1, .inr (.inr 0), false), (12, .if_icmp .ge 21, 3, .inl (33, 0), false), (15, .aload_n 0, 1, .inl (0, 0), false), (16, .getfield 9, 3, .inl (2, 7), false), (19, .iload_n 2, 1, .inl (2, 0), false), (20, .iaload, 1, .inr (.inr 0), false), (21, .iload_n 1, 1, .inl (1, 0), false), (22, .if_icmp .ne 5, 3, .inl (27, 0), false), (25, .iconst 1, 1, .inr (.inr 0), false), (26, .ireturn, 1, .inr (.inr 0), false), (27, .iinc 2 1, 3, .inl (2, 0), false), (30, .goto (-28), 3, .inl (2, 0), false), (33, .iconst 0, 1, .inr (.inr 0), false), (34, .ireturn, 1, .inr (.inr 0), false)]
theorem tk_No_isChildOf : sc_ok mq_No_isChildOf tb_No_isChildOf = true := by decide +kernel
theorem lk_No_isChildOf_0 : sc_lk tb_No_isChildOf 0 = some (.iconst 0, 1, .inr (.inr 0), false) := rfl
theorem lk_No_isChildOf_1 : sc_lk tb_No_isChildOf 1 = some (.istore_n 2, 1, .inl (2, 0), false) := rfl
theorem lk_No_isChildOf_2 : sc_lk tb_No_isChildOf 2 = some (.iload_n 2, 1, .inl (2, 0), true) := rfl
theorem lk_No_isChildOf_3 : sc_lk tb_No_isChildOf 3 = some (.aload_n 0, 1, .inl (0, 0), false) := rfl
theorem lk_No_isChildOf_4 : sc_lk tb_No_isChildOf 4 = some (.getfield 43, 3, .inl (2, 5), false) := rfl
theorem lk_No_isChildOf_7 : sc_lk tb_No_isChildOf 7 = some (.if_icmp .ge 26, 3, .inl (33, 0), false) := rfl
theorem lk_No_isChildOf_10 : sc_lk tb_No_isChildOf 10 = some (.iload_n 2, 1, .inl (2, 0), false) := rfl
theorem lk_No_isChildOf_11 : sc_lk tb_No_isChildOf 11 = some (.iconst 3, 1, .inr (.inr 0), false) := rfl
theorem lk_No_isChildOf_12 : sc_lk tb_No_isChildOf 12 = some (.if_icmp .ge 21, 3, .inl (33, 0), false) := rfl
theorem lk_No_isChildOf_15 : sc_lk tb_No_isChildOf 15 = some (.aload_n 0, 1, .inl (0, 0), false) := rfl
theorem lk_No_isChildOf_16 : sc_lk tb_No_isChildOf 16 = some (.getfield 9, 3, .inl (2, 7), false) := rfl
theorem lk_No_isChildOf_19 : sc_lk tb_No_isChildOf 19 = some (.iload_n 2, 1, .inl (2, 0), false) := rfl
theorem lk_No_isChildOf_20 : sc_lk tb_No_isChildOf 20 = some (.iaload, 1, .inr (.inr 0), false) := rfl
theorem lk_No_isChildOf_21 : sc_lk tb_No_isChildOf 21 = some (.iload_n 1, 1, .inl (1, 0), false) := rfl
theorem lk_No_isChildOf_22 : sc_lk tb_No_isChildOf 22 = some (.if_icmp .ne 5, 3, .inl (27, 0), false) := rfl
theorem lk_No_isChildOf_25 : sc_lk tb_No_isChildOf 25 = some (.iconst 1, 1, .inr (.inr 0), false) := rfl
theorem lk_No_isChildOf_26 : sc_lk tb_No_isChildOf 26 = some (.ireturn, 1, .inr (.inr 0), false) := rfl
theorem lk_No_isChildOf_27 : sc_lk tb_No_isChildOf 27 = some (.iinc 2 1, 3, .inl (2, 0), false) := rfl
theorem lk_No_isChildOf_30 : sc_lk tb_No_isChildOf 30 = some (.goto (-28), 3, .inl (2, 0), false) := rfl
theorem lk_No_isChildOf_33 : sc_lk tb_No_isChildOf 33 = some (.iconst 0, 1, .inr (.inr 0), false) := rfl
theorem lk_No_isChildOf_34 : sc_lk tb_No_isChildOf 34 = some (.ireturn, 1, .inr (.inr 0), false) := rfl
def tb_No_mostParents : sc_T := [(0, .aload_n 0, 1, .inl (0, 0), false), (1, .getfield 18, 3, .inl (2, 0), false), (4, .iconst 1, 1, .inr (.inr 0), false), (5, .if_icmp .ne 7, 3, .inl (12, 0), false), (8, .iconst 2, 1, .inr (.inr 0), false), (9, .goto 4, 3, .inl (13, 0), false), (12, .iconst 3, 1, .inr (.inr 0), false), (13, .ireturn, 1, .inr (.inr 0), false)]
theorem tk_No_mostParents : sc_ok mq_No_mostParents tb_No_mostParents = true := by decide +kernel
theorem lk_No_mostParents_0 : sc_lk tb_No_mostParents 0 = some (.aload_n 0, 1, .inl (0, 0), false) := rfl
theorem lk_No_mostParents_1 : sc_lk tb_No_mostParents 1 = some (.getfield 18, 3, .inl (2, 0), false) := rfl
theorem lk_No_mostParents_4 : sc_lk tb_No_mostParents 4 = some (.iconst 1, 1, .inr (.inr 0), false) := rfl
theorem lk_No_mostParents_5 : sc_lk tb_No_mostParents 5 = some (.if_icmp .ne 7, 3, .inl (12, 0), false) := rfl
theorem lk_No_mostParents_8 : sc_lk tb_No_mostParents 8 = some (.iconst 2, 1, .inr (.inr 0), false) := rfl
theorem lk_No_mostParents_9 : sc_lk tb_No_mostParents 9 = some (.goto 4, 3, .inl (13, 0), false) := rfl
theorem lk_No_mostParents_12 : sc_lk tb_No_mostParents 12 = some (.iconst 3, 1, .inr (.inr 0), false) := rfl
theorem lk_No_mostParents_13 : sc_lk tb_No_mostParents 13 = some (.ireturn, 1, .inr (.inr 0), false) := rfl
def tb_No_addParent : sc_T := [(0, .aload_n 0, 1, .inl (0, 0), false), (1, .getfield 43, 3, .inl (2, 5), false), (4, .iconst 3, 1, .inr (.inr 0), false), (5, .if_icmp .lt 4, 3, .inl (9, 0), false), (8, .return_, 1, .inr (.inr 0), false), (9, .aload_n 0, 1, .inl (0, 0), false), (10, .getfield 9, 3, .inl (2, 7), false), (13, .aload_n 0, 1, .inl (0, 0), false), (14, .getfield 43, 3, .inl (2, 5), false), (17, .iload_n 1, 1, .inl (1, 0), false), (18, .iastore, 1, .inr (.inr 0), false), (19, .aload_n 0, 1, .inl (0, 0), false), (20, .dup, 1, .inr (.inr 0), false), (21, .getfield 43, 3, .inl (2, 5), false), (24, .iconst 1, 1, .inr (.inr 0), false), (25, .iadd, 1, .inr (.inr 0), false), (26, .putfield 43, 3, .inl (2, 5), false), (29, .aload_n 0, 1, .inl (0, 0), false), (30, .dup, 1, .inr (.inr 0), false), (31, .getfield 31, 3, .inl (2, 6), false), (34, .iload_n 2, 1, .inl (2, 0), false), (35, .imul, 1, .inr (.inr 0), false), (36, .putfield 31, 3, .inl (2, 6), false), (39, .aload_n 0, 1, .inl (0, 0), false), (40, .invokevirtual 34, 3, .inr (.inl (2, 0, mq_No_clearTable)), false), (43, .return_, 1, .inr (.inr 0), false)]
theorem tk_No_addParent : sc_ok mq_No_addParent tb_No_addParent = true := by decide +kernel
theorem lk_No_addParent_0 : sc_lk tb_No_addParent 0 = some (.aload_n 0, 1, .inl (0, 0), false) := rfl
theorem lk_No_addParent_1 : sc_lk tb_No_addParent 1 = some (.getfield 43, 3, .inl (2, 5), false) := rfl
theorem lk_No_addParent_4 : sc_lk tb_No_addParent 4 = some (.iconst 3, 1, .inr (.inr 0), false) := rfl
theorem lk_No_addParent_5 : sc_lk tb_No_addParent 5 = some (.if_icmp .lt 4, 3, .inl (9, 0), false) := rfl
theorem lk_No_addParent_8 : sc_lk tb_No_addParent 8 = some (.return_, 1, .inr (.inr 0), false) := rfl
theorem lk_No_addParent_9 : sc_lk tb_No_addParent 9 = some (.aload_n 0, 1, .inl (0, 0), false) := rfl
theorem lk_No_addParent_10 : sc_lk tb_No_addParent 10 = some (.getfield 9, 3, .inl (2, 7), false) := rfl
theorem lk_No_addParent_13 : sc_lk tb_No_addParent 13 = some (.aload_n 0, 1, .inl (0, 0), false) := rfl
theorem lk_No_addParent_14 : sc_lk tb_No_addParent 14 = some (.getfield 43, 3, .inl (2, 5), false) := rfl
theorem lk_No_addParent_17 : sc_lk tb_No_addParent 17 = some (.iload_n 1, 1, .inl (1, 0), false) := rfl
theorem lk_No_addParent_18 : sc_lk tb_No_addParent 18 = some (.iastore, 1, .inr (.inr 0), false) := rfl
theorem lk_No_addParent_19 : sc_lk tb_No_addParent 19 = some (.aload_n 0, 1, .inl (0, 0), false) := rfl
theorem lk_No_addParent_20 : sc_lk tb_No_addParent 20 = some (.dup, 1, .inr (.inr 0), false) := rfl
theorem lk_No_addParent_21 : sc_lk tb_No_addParent 21 = some (.getfield 43, 3, .inl (2, 5), false) := rfl
theorem lk_No_addParent_24 : sc_lk tb_No_addParent 24 = some (.iconst 1, 1, .inr (.inr 0), false) := rfl
theorem lk_No_addParent_25 : sc_lk tb_No_addParent 25 = some (.iadd, 1, .inr (.inr 0), false) := rfl
theorem lk_No_addParent_26 : sc_lk tb_No_addParent 26 = some (.putfield 43, 3, .inl (2, 5), false) := rfl
theorem lk_No_addParent_29 : sc_lk tb_No_addParent 29 = some (.aload_n 0, 1, .inl (0, 0), false) := rfl
theorem lk_No_addParent_30 : sc_lk tb_No_addParent 30 = some (.dup, 1, .inr (.inr 0), false) := rfl
theorem lk_No_addParent_31 : sc_lk tb_No_addParent 31 = some (.getfield 31, 3, .inl (2, 6), false) := rfl
theorem lk_No_addParent_34 : sc_lk tb_No_addParent 34 = some (.iload_n 2, 1, .inl (2, 0), false) := rfl
theorem lk_No_addParent_35 : sc_lk tb_No_addParent 35 = some (.imul, 1, .inr (.inr 0), false) := rfl
theorem lk_No_addParent_36 : sc_lk tb_No_addParent 36 = some (.putfield 31, 3, .inl (2, 6), false) := rfl
theorem lk_No_addParent_39 : sc_lk tb_No_addParent 39 = some (.aload_n 0, 1, .inl (0, 0), false) := rfl
theorem lk_No_addParent_40 : sc_lk tb_No_addParent 40 = some (.invokevirtual 34, 3, .inr (.inl (2, 0, mq_No_clearTable)), false) := rfl
theorem lk_No_addParent_43 : sc_lk tb_No_addParent 43 = some (.return_, 1, .inr (.inr 0), false) := rfl
def tb_No_sees : sc_T := [(0, .aload_n 0, 1, .inl (0, 0), false), (1, .getfield 50, 3, .inl (2, 4), false), (4, .iload_n 1, 1, .inl (1, 0), false), (5, .ishr, 1, .inr (.inr 0), false), (6, .iconst 1, 1, .inr (.inr 0), false), (7, .iand, 1, .inr (.inr 0), false), (8, .ifCond .eq 7, 3, .inl (15, 0), false), (11, .iconst 1, 1, .inr (.inr 0), false), (12, .goto 4, 3, .inl (16, 0), false), (15, .iconst 0, 1, .inr (.inr 0), false), (16, .ireturn, 1, .inr (.inr 0), false)]
theorem tk_No_sees : sc_ok mq_No_sees tb_No_sees = true := by decide +kernel
theorem lk_No_sees_0 : sc_lk tb_No_sees 0 = some (.aload_n 0, 1, .inl (0, 0), false) := rfl
theorem lk_No_sees_1 : sc_lk tb_No_sees 1 = some (.getfield 50, 3, .inl (2, 4), false) := rfl
theorem lk_No_sees_4 : sc_lk tb_No_sees 4 = some (.iload_n 1, 1, .inl (1, 0), false) := rfl
theorem lk_No_sees_5 : sc_lk tb_No_sees 5 = some (.ishr, 1, .inr (.inr 0), false) := rfl
theorem lk_No_sees_6 : sc_lk tb_No_sees 6 = some (.iconst 1, 1, .inr (.inr 0), false) := rfl
theorem lk_No_sees_7 : sc_lk tb_No_sees 7 = some (.iand, 1, .inr (.inr 0), false) := rfl
theorem lk_No_sees_8 : sc_lk tb_No_sees 8 = some (.ifCond .eq 7, 3, .inl (15, 0), false) := rfl
theorem lk_No_sees_11 : sc_lk tb_No_sees 11 = some (.iconst 1, 1, .inr (.inr 0), false) := rfl
theorem lk_No_sees_12 : sc_lk tb_No_sees 12 = some (.goto 4, 3, .inl (16, 0), false) := rfl
theorem lk_No_sees_15 : sc_lk tb_No_sees 15 = some (.iconst 0, 1, .inr (.inr 0), false) := rfl
theorem lk_No_sees_16 : sc_lk tb_No_sees 16 = some (.ireturn, 1, .inr (.inr 0), false) := rfl
def tb_No_mayLeave : sc_T := [(0, .aload_n 0, 1, .inl (0, 0), false), (1, .getfield 18, 3, .inl (2, 0), false), (4, .iconst 1, 1, .inr (.inr 0), false), (5, .if_icmp .ne 15, 3, .inl (20, 0), false), (8, .aload_n 0, 1, .inl (0, 0), false), (9, .getfield 22, 3, .inl (2, 1), false), (12, .iconst 3, 1, .inr (.inr 0), false), (13, .if_icmp .eq 7, 3, .inl (20, 0), false), (16, .iload_n 1, 1, .inl (1, 0), false), (17, .ifCond .ne 7, 3, .inl (24, 0), false), (20, .iconst 1, 1, .inr (.inr 0), false), (21, .goto 4, 3, .inl (25, 0), false), (24, .iconst 0, 1, .inr (.inr 0), false), (25, .ireturn, 1, .inr (.inr 0), false)]
theorem tk_No_mayLeave : sc_ok mq_No_mayLeave tb_No_mayLeave = true := by decide +kernel
theorem lk_No_mayLeave_0 : sc_lk tb_No_mayLeave 0 = some (.aload_n 0, 1, .inl (0, 0), false) := rfl
theorem lk_No_mayLeave_1 : sc_lk tb_No_mayLeave 1 = some (.getfield 18, 3, .inl (2, 0), false) := rfl
theorem lk_No_mayLeave_4 : sc_lk tb_No_mayLeave 4 = some (.iconst 1, 1, .inr (.inr 0), false) := rfl
theorem lk_No_mayLeave_5 : sc_lk tb_No_mayLeave 5 = some (.if_icmp .ne 15, 3, .inl (20, 0), false) := rfl
theorem lk_No_mayLeave_8 : sc_lk tb_No_mayLeave 8 = some (.aload_n 0, 1, .inl (0, 0), false) := rfl
theorem lk_No_mayLeave_9 : sc_lk tb_No_mayLeave 9 = some (.getfield 22, 3, .inl (2, 1), false) := rfl
theorem lk_No_mayLeave_12 : sc_lk tb_No_mayLeave 12 = some (.iconst 3, 1, .inr (.inr 0), false) := rfl
theorem lk_No_mayLeave_13 : sc_lk tb_No_mayLeave 13 = some (.if_icmp .eq 7, 3, .inl (20, 0), false) := rfl
theorem lk_No_mayLeave_16 : sc_lk tb_No_mayLeave 16 = some (.iload_n 1, 1, .inl (1, 0), false) := rfl
theorem lk_No_mayLeave_17 : sc_lk tb_No_mayLeave 17 = some (.ifCond .ne 7, 3, .inl (24, 0), false) := rfl
theorem lk_No_mayLeave_20 : sc_lk tb_No_mayLeave 20 = some (.iconst 1, 1, .inr (.inr 0), false) := rfl
theorem lk_No_mayLeave_21 : sc_lk tb_No_mayLeave 21 = some (.goto 4, 3, .inl (25, 0), false) := rfl
theorem lk_No_mayLeave_24 : sc_lk tb_No_mayLeave 24 = some (.iconst 0, 1, .inr (.inr 0), false) := rfl
theorem lk_No_mayLeave_25 : sc_lk tb_No_mayLeave 25 = some (.ireturn, 1, .inr (.inr 0), false) := rfl
def tb_No_hasPlace : sc_T := [(0, .iload_n 1, 1, .inl (1, 0), false), (1, .ifCond .lt 15, 3, .inl (16, 0), false), (4, .iload_n 1, 1, .inl (1, 0), false), (5, .aload_n 0, 1, .inl (0, 0), false), (6, .getfield 31, 3, .inl (2, 6), false), (9, .if_icmp .ge 7, 3, .inl (16, 0), false), (12, .iconst 1, 1, .inr (.inr 0), false), (13, .goto 4, 3, .inl (17, 0), false), (16, .iconst 0, 1, .inr (.inr 0), false), (17, .ireturn, 1, .inr (.inr 0), false)]
theorem tk_No_hasPlace : sc_ok mq_No_hasPlace tb_No_hasPlace = true := by decide +kernel
theorem lk_No_hasPlace_0 : sc_lk tb_No_hasPlace 0 = some (.iload_n 1, 1, .inl (1, 0), false) := rfl
theorem lk_No_hasPlace_1 : sc_lk tb_No_hasPlace 1 = some (.ifCond .lt 15, 3, .inl (16, 0), false) := rfl
theorem lk_No_hasPlace_4 : sc_lk tb_No_hasPlace 4 = some (.iload_n 1, 1, .inl (1, 0), false) := rfl
theorem lk_No_hasPlace_5 : sc_lk tb_No_hasPlace 5 = some (.aload_n 0, 1, .inl (0, 0), false) := rfl
theorem lk_No_hasPlace_6 : sc_lk tb_No_hasPlace 6 = some (.getfield 31, 3, .inl (2, 6), false) := rfl
theorem lk_No_hasPlace_9 : sc_lk tb_No_hasPlace 9 = some (.if_icmp .ge 7, 3, .inl (16, 0), false) := rfl
theorem lk_No_hasPlace_12 : sc_lk tb_No_hasPlace 12 = some (.iconst 1, 1, .inr (.inr 0), false) := rfl
theorem lk_No_hasPlace_13 : sc_lk tb_No_hasPlace 13 = some (.goto 4, 3, .inl (17, 0), false) := rfl
theorem lk_No_hasPlace_16 : sc_lk tb_No_hasPlace 16 = some (.iconst 0, 1, .inr (.inr 0), false) := rfl
theorem lk_No_hasPlace_17 : sc_lk tb_No_hasPlace 17 = some (.ireturn, 1, .inr (.inr 0), false) := rfl
def tb_No_put : sc_T := [(0, .iload_n 1, 1, .inl (1, 0), false), (1, .ifCond .lt 16, 3, .inl (17, 0), false), (4, .iload_n 1, 1, .inl (1, 0), false), (5, .bipush 27, 2, .inr (.inr 0), false), (7, .if_icmp .ge 10, 3, .inl (17, 0), false), (10, .aload_n 0, 1, .inl (0, 0), false), (11, .getfield 15, 3, .inl (2, 8), false), (14, .iload_n 1, 1, .inl (1, 0), false), (15, .iload_n 2, 1, .inl (2, 0), false), (16, .iastore, 1, .inr (.inr 0), false), (17, .return_, 1, .inr (.inr 0), false)]
theorem tk_No_put : sc_ok mq_No_put tb_No_put = true := by decide +kernel
theorem lk_No_put_0 : sc_lk tb_No_put 0 = some (.iload_n 1, 1, .inl (1, 0), false) := rfl
theorem lk_No_put_1 : sc_lk tb_No_put 1 = some (.ifCond .lt 16, 3, .inl (17, 0), false) := rfl
theorem lk_No_put_4 : sc_lk tb_No_put 4 = some (.iload_n 1, 1, .inl (1, 0), false) := rfl
theorem lk_No_put_5 : sc_lk tb_No_put 5 = some (.bipush 27, 2, .inr (.inr 0), false) := rfl
theorem lk_No_put_7 : sc_lk tb_No_put 7 = some (.if_icmp .ge 10, 3, .inl (17, 0), false) := rfl
theorem lk_No_put_10 : sc_lk tb_No_put 10 = some (.aload_n 0, 1, .inl (0, 0), false) := rfl
theorem lk_No_put_11 : sc_lk tb_No_put 11 = some (.getfield 15, 3, .inl (2, 8), false) := rfl
theorem lk_No_put_14 : sc_lk tb_No_put 14 = some (.iload_n 1, 1, .inl (1, 0), false) := rfl
theorem lk_No_put_15 : sc_lk tb_No_put 15 = some (.iload_n 2, 1, .inl (2, 0), false) := rfl
theorem lk_No_put_16 : sc_lk tb_No_put 16 = some (.iastore, 1, .inr (.inr 0), false) := rfl
theorem lk_No_put_17 : sc_lk tb_No_put 17 = some (.return_, 1, .inr (.inr 0), false) := rfl
def tb_No_hasState : sc_T := [(0, .iload_n 1, 1, .inl (1, 0), false), (1, .ifCond .lt 15, 3, .inl (16, 0), false), (4, .iload_n 1, 1, .inl (1, 0), false), (5, .aload_n 0, 1, .inl (0, 0), false), (6, .getfield 22, 3, .inl (2, 1), false), (9, .if_icmp .ge 7, 3, .inl (16, 0), false), (12, .iconst 1, 1, .inr (.inr 0), false), (13, .goto 4, 3, .inl (17, 0), false), (16, .iconst 0, 1, .inr (.inr 0), false), (17, .ireturn, 1, .inr (.inr 0), false)]
theorem tk_No_hasState : sc_ok mq_No_hasState tb_No_hasState = true := by decide +kernel
theorem lk_No_hasState_0 : sc_lk tb_No_hasState 0 = some (.iload_n 1, 1, .inl (1, 0), false) := rfl
theorem lk_No_hasState_1 : sc_lk tb_No_hasState 1 = some (.ifCond .lt 15, 3, .inl (16, 0), false) := rfl
theorem lk_No_hasState_4 : sc_lk tb_No_hasState 4 = some (.iload_n 1, 1, .inl (1, 0), false) := rfl
theorem lk_No_hasState_5 : sc_lk tb_No_hasState 5 = some (.aload_n 0, 1, .inl (0, 0), false) := rfl
theorem lk_No_hasState_6 : sc_lk tb_No_hasState 6 = some (.getfield 22, 3, .inl (2, 1), false) := rfl
theorem lk_No_hasState_9 : sc_lk tb_No_hasState 9 = some (.if_icmp .ge 7, 3, .inl (16, 0), false) := rfl
theorem lk_No_hasState_12 : sc_lk tb_No_hasState 12 = some (.iconst 1, 1, .inr (.inr 0), false) := rfl
theorem lk_No_hasState_13 : sc_lk tb_No_hasState 13 = some (.goto 4, 3, .inl (17, 0), false) := rfl
theorem lk_No_hasState_16 : sc_lk tb_No_hasState 16 = some (.iconst 0, 1, .inr (.inr 0), false) := rfl
theorem lk_No_hasState_17 : sc_lk tb_No_hasState 17 = some (.ireturn, 1, .inr (.inr 0), false) := rfl
def tb_No_get : sc_T := [(0, .iload_n 1, 1, .inl (1, 0), false), (1, .ifCond .lt 18, 3, .inl (19, 0), false), (4, .iload_n 1, 1, .inl (1, 0), false), (5, .bipush 27, 2, .inr (.inr 0), false), (7, .if_icmp .ge 12, 3, .inl (19, 0), false), (10, .aload_n 0, 1, .inl (0, 0), false), (11, .getfield 15, 3, .inl (2, 8), false), (14, .iload_n 1, 1, .inl (1, 0), false), (15, .iaload, 1, .inr (.inr 0), false), (16, .goto 4, 3, .inl (20, 0), false), (19, .iconst 0, 1, .inr (.inr 0), false), (20, .ireturn, 1, .inr (.inr 0), false)]
theorem tk_No_get : sc_ok mq_No_get tb_No_get = true := by decide +kernel
theorem lk_No_get_0 : sc_lk tb_No_get 0 = some (.iload_n 1, 1, .inl (1, 0), false) := rfl
theorem lk_No_get_1 : sc_lk tb_No_get 1 = some (.ifCond .lt 18, 3, .inl (19, 0), false) := rfl
theorem lk_No_get_4 : sc_lk tb_No_get 4 = some (.iload_n 1, 1, .inl (1, 0), false) := rfl
theorem lk_No_get_5 : sc_lk tb_No_get 5 = some (.bipush 27, 2, .inr (.inr 0), false) := rfl
theorem lk_No_get_7 : sc_lk tb_No_get 7 = some (.if_icmp .ge 12, 3, .inl (19, 0), false) := rfl
theorem lk_No_get_10 : sc_lk tb_No_get 10 = some (.aload_n 0, 1, .inl (0, 0), false) := rfl
theorem lk_No_get_11 : sc_lk tb_No_get 11 = some (.getfield 15, 3, .inl (2, 8), false) := rfl
theorem lk_No_get_14 : sc_lk tb_No_get 14 = some (.iload_n 1, 1, .inl (1, 0), false) := rfl
theorem lk_No_get_15 : sc_lk tb_No_get 15 = some (.iaload, 1, .inr (.inr 0), false) := rfl
theorem lk_No_get_16 : sc_lk tb_No_get 16 = some (.goto 4, 3, .inl (20, 0), false) := rfl
theorem lk_No_get_19 : sc_lk tb_No_get 19 = some (.iconst 0, 1, .inr (.inr 0), false) := rfl
theorem lk_No_get_20 : sc_lk tb_No_get 20 = some (.ireturn, 1, .inr (.inr 0), false) := rfl
def tb_No_tell : sc_T := [(0, .iload_n 1, 1, .inl (1, 0), false), (1, .tableswitch 65 0 3 #[31, 47, 52, 57], 31, .inr (.inr 0), false), (32, .aload_n 0, 1, .inl (0, 0), false), (33, .invokevirtual 46, 3, .inr (.inl (2, 0, mq_No_isFirm)), false), (36, .ifCond .eq 7, 3, .inl (43, 0), false), (39, .iconst 3, 1, .inr (.inr 0), false), (40, .goto 7, 3, .inl (47, 0), false), (43, .aload_n 0, 1, .inl (0, 0), false), (44, .getfield 18, 3, .inl (2, 0), false), (47, .ireturn, 1, .inr (.inr 0), false), (48, .aload_n 0, 1, .inl (0, 0), false), (49, .getfield 22, 3, .inl (2, 1), false), (52, .ireturn, 1, .inr (.inr 0), false), (53, .aload_n 0, 1, .inl (0, 0), false), (54, .getfield 43, 3, .inl (2, 5), false), (57, .ireturn, 1, .inr (.inr 0), false), (58, .aload_n 0, 1, .inl (0, 0), false), (59, .getfield 50, 3, .inl (2, 4), false), (62, .invokestatic 53, 3, .inr (.inl (100, 1, mq_In_bitCount)), false), (65, .ireturn, 1, .inr (.inr 0), false), (66, .aload_n 0, 1, .inl (0, 0), false), (67, .getfield 31, 3, .inl (2, 6), false), (70, .ireturn, 1, .inr (.inr 0), false)]
theorem tk_No_tell : sc_ok mq_No_tell tb_No_tell = true := by decide +kernel
theorem lk_No_tell_0 : sc_lk tb_No_tell 0 = some (.iload_n 1, 1, .inl (1, 0), false) := rfl
theorem lk_No_tell_1 : sc_lk tb_No_tell 1 = some (.tableswitch 65 0 3 #[31, 47, 52, 57], 31, .inr (.inr 0), false) := rfl
theorem lk_No_tell_32 : sc_lk tb_No_tell 32 = some (.aload_n 0, 1, .inl (0, 0), false) := rfl
theorem lk_No_tell_33 : sc_lk tb_No_tell 33 = some (.invokevirtual 46, 3, .inr (.inl (2, 0, mq_No_isFirm)), false) := rfl
theorem lk_No_tell_36 : sc_lk tb_No_tell 36 = some (.ifCond .eq 7, 3, .inl (43, 0), false) := rfl
theorem lk_No_tell_39 : sc_lk tb_No_tell 39 = some (.iconst 3, 1, .inr (.inr 0), false) := rfl
theorem lk_No_tell_40 : sc_lk tb_No_tell 40 = some (.goto 7, 3, .inl (47, 0), false) := rfl
theorem lk_No_tell_43 : sc_lk tb_No_tell 43 = some (.aload_n 0, 1, .inl (0, 0), false) := rfl
theorem lk_No_tell_44 : sc_lk tb_No_tell 44 = some (.getfield 18, 3, .inl (2, 0), false) := rfl
theorem lk_No_tell_47 : sc_lk tb_No_tell 47 = some (.ireturn, 1, .inr (.inr 0), false) := rfl
theorem lk_No_tell_48 : sc_lk tb_No_tell 48 = some (.aload_n 0, 1, .inl (0, 0), false) := rfl
theorem lk_No_tell_49 : sc_lk tb_No_tell 49 = some (.getfield 22, 3, .inl (2, 1), false) := rfl
theorem lk_No_tell_52 : sc_lk tb_No_tell 52 = some (.ireturn, 1, .inr (.inr 0), false) := rfl
theorem lk_No_tell_53 : sc_lk tb_No_tell 53 = some (.aload_n 0, 1, .inl (0, 0), false) := rfl
theorem lk_No_tell_54 : sc_lk tb_No_tell 54 = some (.getfield 43, 3, .inl (2, 5), false) := rfl
theorem lk_No_tell_57 : sc_lk tb_No_tell 57 = some (.ireturn, 1, .inr (.inr 0), false) := rfl
theorem lk_No_tell_58 : sc_lk tb_No_tell 58 = some (.aload_n 0, 1, .inl (0, 0), false) := rfl
theorem lk_No_tell_59 : sc_lk tb_No_tell 59 = some (.getfield 50, 3, .inl (2, 4), false) := rfl
theorem lk_No_tell_62 : sc_lk tb_No_tell 62 = some (.invokestatic 53, 3, .inr (.inl (100, 1, mq_In_bitCount)), false) := rfl
theorem lk_No_tell_65 : sc_lk tb_No_tell 65 = some (.ireturn, 1, .inr (.inr 0), false) := rfl
theorem lk_No_tell_66 : sc_lk tb_No_tell 66 = some (.aload_n 0, 1, .inl (0, 0), false) := rfl
theorem lk_No_tell_67 : sc_lk tb_No_tell 67 = some (.getfield 31, 3, .inl (2, 6), false) := rfl
theorem lk_No_tell_70 : sc_lk tb_No_tell 70 = some (.ireturn, 1, .inr (.inr 0), false) := rfl
def tb_No_isFirm : sc_T := [(0, .aload_n 0, 1, .inl (0, 0), false), (1, .getfield 18, 3, .inl (2, 0), false), (4, .iconst 2, 1, .inr (.inr 0), false), (5, .if_icmp .ne 16, 3, .inl (21, 0), false), (8, .aload_n 0, 1, .inl (0, 0), false), (9, .getfield 28, 3, .inl (2, 3), false), (12, .bipush (-9), 2, .inr (.inr 0), false), (14, .if_icmp .eq 7, 3, .inl (21, 0), false), (17, .iconst 1, 1, .inr (.inr 0), false), (18, .goto 4, 3, .inl (22, 0), false), (21, .iconst 0, 1, .inr (.inr 0), false), (22, .ireturn, 1, .inr (.inr 0), false)]
theorem tk_No_isFirm : sc_ok mq_No_isFirm tb_No_isFirm = true := by decide +kernel
theorem lk_No_isFirm_0 : sc_lk tb_No_isFirm 0 = some (.aload_n 0, 1, .inl (0, 0), false) := rfl
theorem lk_No_isFirm_1 : sc_lk tb_No_isFirm 1 = some (.getfield 18, 3, .inl (2, 0), false) := rfl
theorem lk_No_isFirm_4 : sc_lk tb_No_isFirm 4 = some (.iconst 2, 1, .inr (.inr 0), false) := rfl
theorem lk_No_isFirm_5 : sc_lk tb_No_isFirm 5 = some (.if_icmp .ne 16, 3, .inl (21, 0), false) := rfl
theorem lk_No_isFirm_8 : sc_lk tb_No_isFirm 8 = some (.aload_n 0, 1, .inl (0, 0), false) := rfl
theorem lk_No_isFirm_9 : sc_lk tb_No_isFirm 9 = some (.getfield 28, 3, .inl (2, 3), false) := rfl
theorem lk_No_isFirm_12 : sc_lk tb_No_isFirm 12 = some (.bipush (-9), 2, .inr (.inr 0), false) := rfl
theorem lk_No_isFirm_14 : sc_lk tb_No_isFirm 14 = some (.if_icmp .eq 7, 3, .inl (21, 0), false) := rfl
theorem lk_No_isFirm_17 : sc_lk tb_No_isFirm 17 = some (.iconst 1, 1, .inr (.inr 0), false) := rfl
theorem lk_No_isFirm_18 : sc_lk tb_No_isFirm 18 = some (.goto 4, 3, .inl (22, 0), false) := rfl
theorem lk_No_isFirm_21 : sc_lk tb_No_isFirm 21 = some (.iconst 0, 1, .inr (.inr 0), false) := rfl
theorem lk_No_isFirm_22 : sc_lk tb_No_isFirm 22 = some (.ireturn, 1, .inr (.inr 0), false) := rfl
def tb_No_is : sc_T := [(0, .iload_n 1, 1, .inl (1, 0), false), (1, .iconst 3, 1, .inr (.inr 0), false), (2, .if_icmp .ne 10, 3, .inl (12, 0), false), (5, .aload_n 0, 1, .inl (0, 0), false), (6, .invokevirtual 46, 3, .inr (.inl (2, 0, mq_No_isFirm)), false), (9, .goto 16, 3, .inl (25, 0), false), (12, .aload_n 0, 1, .inl (0, 0), false), (13, .getfield 18, 3, .inl (2, 0), false), (16, .iload_n 1, 1, .inl (1, 0), false), (17, .if_icmp .ne 7, 3, .inl (24, 0), false), (20, .iconst 1, 1, .inr (.inr 0), false), (21, .goto 4, 3, .inl (25, 0), false), (24, .iconst 0, 1, .inr (.inr 0), false), (25, .ireturn, 1, .inr (.inr 0), false)]
theorem tk_No_is : sc_ok mq_No_is tb_No_is = true := by decide +kernel
theorem lk_No_is_0 : sc_lk tb_No_is 0 = some (.iload_n 1, 1, .inl (1, 0), false) := rfl
theorem lk_No_is_1 : sc_lk tb_No_is 1 = some (.iconst 3, 1, .inr (.inr 0), false) := rfl
theorem lk_No_is_2 : sc_lk tb_No_is 2 = some (.if_icmp .ne 10, 3, .inl (12, 0), false) := rfl
theorem lk_No_is_5 : sc_lk tb_No_is 5 = some (.aload_n 0, 1, .inl (0, 0), false) := rfl
theorem lk_No_is_6 : sc_lk tb_No_is 6 = some (.invokevirtual 46, 3, .inr (.inl (2, 0, mq_No_isFirm)), false) := rfl
theorem lk_No_is_9 : sc_lk tb_No_is 9 = some (.goto 16, 3, .inl (25, 0), false) := rfl
theorem lk_No_is_12 : sc_lk tb_No_is 12 = some (.aload_n 0, 1, .inl (0, 0), false) := rfl
theorem lk_No_is_13 : sc_lk tb_No_is 13 = some (.getfield 18, 3, .inl (2, 0), false) := rfl
theorem lk_No_is_16 : sc_lk tb_No_is 16 = some (.iload_n 1, 1, .inl (1, 0), false) := rfl
theorem lk_No_is_17 : sc_lk tb_No_is 17 = some (.if_icmp .ne 7, 3, .inl (24, 0), false) := rfl
theorem lk_No_is_20 : sc_lk tb_No_is 20 = some (.iconst 1, 1, .inr (.inr 0), false) := rfl
theorem lk_No_is_21 : sc_lk tb_No_is 21 = some (.goto 4, 3, .inl (25, 0), false) := rfl
theorem lk_No_is_24 : sc_lk tb_No_is 24 = some (.iconst 0, 1, .inr (.inr 0), false) := rfl
theorem lk_No_is_25 : sc_lk tb_No_is 25 = some (.ireturn, 1, .inr (.inr 0), false) := rfl
def tb_No_stateIn : sc_T := [(0, .aload_n 0, 1, .inl (0, 0), false), (1, .getfield 25, 3, .inl (2, 2), false), (4, .ifCond .le 24, 3, .inl (28, 0), false), (7, .aload_n 0, 1, .inl (0, 0), false), (8, .getfield 22, 3, .inl (2, 1), false), (11, .ifCond .le 17, 3, .inl (28, 0), false), (14, .iload_n 1, 1, .inl (1, 0), false), (15, .aload_n 0, 1, .inl (0, 0), false), (16, .getfield 25, 3, .inl (2, 2), false), (19, .idiv, 1, .inr (.inr 0), false), (20, .aload_n 0, 1, .inl (0, 0), false), (21, .getfield 22, 3, .inl (2, 1), false), (24, .irem, 1, .inr (.inr 0), false), (25, .goto 4, 3, .inl (29, 0), false), (28, .iconst 0, 1, .inr (.inr 0), false), (29, .ireturn, 1, .inr (.inr 0), false)]
theorem tk_No_stateIn : sc_ok mq_No_stateIn tb_No_stateIn = true := by decide +kernel
theorem lk_No_stateIn_0 : sc_lk tb_No_stateIn 0 = some (.aload_n 0, 1, .inl (0, 0), false) := rfl
theorem lk_No_stateIn_1 : sc_lk tb_No_stateIn 1 = some (.getfield 25, 3, .inl (2, 2), false) := rfl
theorem lk_No_stateIn_4 : sc_lk tb_No_stateIn 4 = some (.ifCond .le 24, 3, .inl (28, 0), false) := rfl
theorem lk_No_stateIn_7 : sc_lk tb_No_stateIn 7 = some (.aload_n 0, 1, .inl (0, 0), false) := rfl
theorem lk_No_stateIn_8 : sc_lk tb_No_stateIn 8 = some (.getfield 22, 3, .inl (2, 1), false) := rfl
theorem lk_No_stateIn_11 : sc_lk tb_No_stateIn 11 = some (.ifCond .le 17, 3, .inl (28, 0), false) := rfl
theorem lk_No_stateIn_14 : sc_lk tb_No_stateIn 14 = some (.iload_n 1, 1, .inl (1, 0), false) := rfl
theorem lk_No_stateIn_15 : sc_lk tb_No_stateIn 15 = some (.aload_n 0, 1, .inl (0, 0), false) := rfl
theorem lk_No_stateIn_16 : sc_lk tb_No_stateIn 16 = some (.getfield 25, 3, .inl (2, 2), false) := rfl
theorem lk_No_stateIn_19 : sc_lk tb_No_stateIn 19 = some (.idiv, 1, .inr (.inr 0), false) := rfl
theorem lk_No_stateIn_20 : sc_lk tb_No_stateIn 20 = some (.aload_n 0, 1, .inl (0, 0), false) := rfl
theorem lk_No_stateIn_21 : sc_lk tb_No_stateIn 21 = some (.getfield 22, 3, .inl (2, 1), false) := rfl
theorem lk_No_stateIn_24 : sc_lk tb_No_stateIn 24 = some (.irem, 1, .inr (.inr 0), false) := rfl
theorem lk_No_stateIn_25 : sc_lk tb_No_stateIn 25 = some (.goto 4, 3, .inl (29, 0), false) := rfl
theorem lk_No_stateIn_28 : sc_lk tb_No_stateIn 28 = some (.iconst 0, 1, .inr (.inr 0), false) := rfl
theorem lk_No_stateIn_29 : sc_lk tb_No_stateIn 29 = some (.ireturn, 1, .inr (.inr 0), false) := rfl
def tb_No_isFree : sc_T := [(0, .aload_n 0, 1, .inl (0, 0), false), (1, .getfield 18, 3, .inl (2, 0), false), (4, .iconst 2, 1, .inr (.inr 0), false), (5, .if_icmp .ne 16, 3, .inl (21, 0), false), (8, .aload_n 0, 1, .inl (0, 0), false), (9, .getfield 28, 3, .inl (2, 3), false), (12, .bipush (-9), 2, .inr (.inr 0), false), (14, .if_icmp .ne 7, 3, .inl (21, 0), false), (17, .iconst 1, 1, .inr (.inr 0), false), (18, .goto 4, 3, .inl (22, 0), false), (21, .iconst 0, 1, .inr (.inr 0), false), (22, .ireturn, 1, .inr (.inr 0), false)]
theorem tk_No_isFree : sc_ok mq_No_isFree tb_No_isFree = true := by decide +kernel
theorem lk_No_isFree_0 : sc_lk tb_No_isFree 0 = some (.aload_n 0, 1, .inl (0, 0), false) := rfl
theorem lk_No_isFree_1 : sc_lk tb_No_isFree 1 = some (.getfield 18, 3, .inl (2, 0), false) := rfl
theorem lk_No_isFree_4 : sc_lk tb_No_isFree 4 = some (.iconst 2, 1, .inr (.inr 0), false) := rfl
theorem lk_No_isFree_5 : sc_lk tb_No_isFree 5 = some (.if_icmp .ne 16, 3, .inl (21, 0), false) := rfl
theorem lk_No_isFree_8 : sc_lk tb_No_isFree 8 = some (.aload_n 0, 1, .inl (0, 0), false) := rfl
theorem lk_No_isFree_9 : sc_lk tb_No_isFree 9 = some (.getfield 28, 3, .inl (2, 3), false) := rfl
theorem lk_No_isFree_12 : sc_lk tb_No_isFree 12 = some (.bipush (-9), 2, .inr (.inr 0), false) := rfl
theorem lk_No_isFree_14 : sc_lk tb_No_isFree 14 = some (.if_icmp .ne 7, 3, .inl (21, 0), false) := rfl
theorem lk_No_isFree_17 : sc_lk tb_No_isFree 17 = some (.iconst 1, 1, .inr (.inr 0), false) := rfl
theorem lk_No_isFree_18 : sc_lk tb_No_isFree 18 = some (.goto 4, 3, .inl (22, 0), false) := rfl
theorem lk_No_isFree_21 : sc_lk tb_No_isFree 21 = some (.iconst 0, 1, .inr (.inr 0), false) := rfl
theorem lk_No_isFree_22 : sc_lk tb_No_isFree 22 = some (.ireturn, 1, .inr (.inr 0), false) := rfl
def tb_No_digestOn : sc_T := [(0, .lload_n 1, 1, .inl (1, 0), false), (1, .lstore_n 3, 1, .inl (3, 0), false), (2, .iconst 0, 1, .inr (.inr 0), false), (3, .istore 5, 2, .inl (5, 0), false), (5, .iload 5, 2, .inl (5, 0), true), (7, .iconst 4, 1, .inr (.inr 0), false), (8, .if_icmp .gt 23, 3, .inl (31, 0), false), (11, .ldc2_w 59, 3, .inr (.inr (31)), false), (14, .lload_n 3, 1, .inl (3, 0), false), (15, .lmul, 1, .inr (.inr 0), false), (16, .aload_n 0, 1, .inl (0, 0), false), (17, .iload 5, 2, .inl (5, 0), false), (19, .invokevirtual 61, 3, .inr (.inl (2, 1, mq_No_tell)), false), (22, .i2l, 1, .inr (.inr 0), false), (23, .ladd, 1, .inr (.inr 0), false), (24, .lstore_n 3, 1, .inl (3, 0), false), (25, .iinc 5 1, 3, .inl (5, 0), false), (28, .goto (-23), 3, .inl (5, 0), false), (31, .iconst 0, 1, .inr (.inr 0), false), (32, .istore 5, 2, .inl (5, 0), false), (34, .iload 5, 2, .inl (5, 0), true), (36, .aload_n 0, 1, .inl (0, 0), false), (37, .getfield 43, 3, .inl (2, 5), false), (40, .if_icmp .ge 30, 3, .inl (70, 0), false), (43, .iload 5, 2, .inl (5, 0), false), (45, .iconst 3, 1, .inr (.inr 0), false), (46, .if_icmp .ge 24, 3, .inl (70, 0), false), (49, .ldc2_w 59, 3, .inr (.inr (31)), false), (52, .lload_n 3, 1, .inl (3, 0), false), (53, .lmul, 1, .inr (.inr 0), false), (54, .aload_n 0, 1, .inl (0, 0), false), (55, .getfield 9, 3, .inl (2, 7), false), (58, .iload 5, 2, .inl (5, 0), false), (60, .iaload, 1, .inr (.inr 0), false), (61, .i2l, 1, .inr (.inr 0), false), (62, .ladd, 1, .inr (.inr 0), false), (63, .lstore_n 3, 1, .inl (3, 0), false), (64, .iinc 5 1, 3, .inl (5, 0), false), (67, .goto (-33), 3, .inl (34, 0), false), (70, .ldc2_w 59, 3, .inr (.inr (31)), false), (73, .lload_n 3, 1, .inl (3, 0), false), (74, .lmul, 1, .inr (.inr 0), false), (75, .aload_n 0, 1, .inl (0, 0), false), (76, .getfield 50, 3, .inl (2, 4), false), (79, .i2l, 1, .inr (.inr 0), false), (80, .ladd, 1, .inr (.inr 0), false), (81, .lstore_n 3, 1, .inl (3, 0), false), (82, .aload_n 0, 1, .inl (0, 0), false), (83, .getfield 18, 3, .inl (2, 0), false), (86, .iconst 1, 1, .inr (.inr 0), false), (87, .if_icmp .ne 15, 3, .inl (102, 0), false), (90, .aload_n 0, 1, .inl (0, 0), false), (91, .getfield 31, 3, .inl (2, 6), false), (94, .aload_n 0, 1, .inl (0, 0), false), (95, .getfield 22, 3, .inl (2, 1), false), (98, .imul, 1, .inr (.inr 0), false), (99, .goto 7, 3, .inl (106, 0), false), (102, .aload_n 0, 1, .inl (0, 0), false), (103, .getfield 31, 3, .inl (2, 6), false), (106, .istore 5, 2, .inl (5, 0), false), (108, .iconst 0, 1, .inr (.inr 0), false), (109, .istore 6, 2, .inl (6, 0), false), (111, .iload 6, 2, .inl (6, 0), true), (113, .iload 5, 2, .inl (5, 0), false), (115, .if_icmp .ge 23, 3, .inl (138, 0), false), (118, .ldc2_w 59, 3, .inr (.inr (31)), false), (121, .lload_n 3, 1, .inl (3, 0), false), (122, .lmul, 1, .inr (.inr 0), false), (123, .aload_n 0, 1, .inl (0, 0), false), (124, .iload 6, 2, .inl (6, 0), false), (126, .invokevirtual 64, 3, .inr (.inl (2, 1, mq_No_get)), false), (129, .i2l, 1, .inr (.inr 0), false), (130, .ladd, 1, .inr (.inr 0), false), (131, .lstore_n 3, 1, .inl (3, 0), false), (132, .iinc 6 1, 3, .inl (6, 0), false), (135, .goto (-24), 3, .inl (111, 0), false), (138, .aload_n 0, 1, .inl (0, 0), false), (139, .invokevirtual 46, 3, .inr (.inl (2, 0, mq_No_isFirm)), false), (142, .ifCond .eq 17, 3, .inl (159, 0), false), (145, .ldc2_w 59, 3, .inr (.inr (31)), false), (148, .lload_n 3, 1, .inl (3, 0), false), (149, .lmul, 1, .inr (.inr 0), false), (150, .aload_n 0, 1, .inl (0, 0), false), (151, .getfield 28, 3, .inl (2, 3), false), (154, .i2l, 1, .inr (.inr 0), false), (155, .ladd, 1, .inr (.inr 0), false), (156, .goto 4, 3, .inl (160, 0), false), (159, .lload_n 3, 1, .inl (3, 0), false), (160, .lreturn, 1, .inr (.inr 0), false)]
theorem tk_No_digestOn : sc_ok mq_No_digestOn tb_No_digestOn = true := by decide +kernel
theorem lk_No_digestOn_0 : sc_lk tb_No_digestOn 0 = some (.lload_n 1, 1, .inl (1, 0), false) := rfl
theorem lk_No_digestOn_1 : sc_lk tb_No_digestOn 1 = some (.lstore_n 3, 1, .inl (3, 0), false) := rfl
theorem lk_No_digestOn_2 : sc_lk tb_No_digestOn 2 = some (.iconst 0, 1, .inr (.inr 0), false) := rfl
theorem lk_No_digestOn_3 : sc_lk tb_No_digestOn 3 = some (.istore 5, 2, .inl (5, 0), false) := rfl
theorem lk_No_digestOn_5 : sc_lk tb_No_digestOn 5 = some (.iload 5, 2, .inl (5, 0), true) := rfl
theorem lk_No_digestOn_7 : sc_lk tb_No_digestOn 7 = some (.iconst 4, 1, .inr (.inr 0), false) := rfl
theorem lk_No_digestOn_8 : sc_lk tb_No_digestOn 8 = some (.if_icmp .gt 23, 3, .inl (31, 0), false) := rfl
theorem lk_No_digestOn_11 : sc_lk tb_No_digestOn 11 = some (.ldc2_w 59, 3, .inr (.inr (31)), false) := rfl
theorem lk_No_digestOn_14 : sc_lk tb_No_digestOn 14 = some (.lload_n 3, 1, .inl (3, 0), false) := rfl
theorem lk_No_digestOn_15 : sc_lk tb_No_digestOn 15 = some (.lmul, 1, .inr (.inr 0), false) := rfl
theorem lk_No_digestOn_16 : sc_lk tb_No_digestOn 16 = some (.aload_n 0, 1, .inl (0, 0), false) := rfl
theorem lk_No_digestOn_17 : sc_lk tb_No_digestOn 17 = some (.iload 5, 2, .inl (5, 0), false) := rfl
theorem lk_No_digestOn_19 : sc_lk tb_No_digestOn 19 = some (.invokevirtual 61, 3, .inr (.inl (2, 1, mq_No_tell)), false) := rfl
theorem lk_No_digestOn_22 : sc_lk tb_No_digestOn 22 = some (.i2l, 1, .inr (.inr 0), false) := rfl
theorem lk_No_digestOn_23 : sc_lk tb_No_digestOn 23 = some (.ladd, 1, .inr (.inr 0), false) := rfl
theorem lk_No_digestOn_24 : sc_lk tb_No_digestOn 24 = some (.lstore_n 3, 1, .inl (3, 0), false) := rfl
theorem lk_No_digestOn_25 : sc_lk tb_No_digestOn 25 = some (.iinc 5 1, 3, .inl (5, 0), false) := rfl
theorem lk_No_digestOn_28 : sc_lk tb_No_digestOn 28 = some (.goto (-23), 3, .inl (5, 0), false) := rfl
theorem lk_No_digestOn_31 : sc_lk tb_No_digestOn 31 = some (.iconst 0, 1, .inr (.inr 0), false) := rfl
theorem lk_No_digestOn_32 : sc_lk tb_No_digestOn 32 = some (.istore 5, 2, .inl (5, 0), false) := rfl
theorem lk_No_digestOn_34 : sc_lk tb_No_digestOn 34 = some (.iload 5, 2, .inl (5, 0), true) := rfl
theorem lk_No_digestOn_36 : sc_lk tb_No_digestOn 36 = some (.aload_n 0, 1, .inl (0, 0), false) := rfl
theorem lk_No_digestOn_37 : sc_lk tb_No_digestOn 37 = some (.getfield 43, 3, .inl (2, 5), false) := rfl
theorem lk_No_digestOn_40 : sc_lk tb_No_digestOn 40 = some (.if_icmp .ge 30, 3, .inl (70, 0), false) := rfl
theorem lk_No_digestOn_43 : sc_lk tb_No_digestOn 43 = some (.iload 5, 2, .inl (5, 0), false) := rfl
theorem lk_No_digestOn_45 : sc_lk tb_No_digestOn 45 = some (.iconst 3, 1, .inr (.inr 0), false) := rfl
theorem lk_No_digestOn_46 : sc_lk tb_No_digestOn 46 = some (.if_icmp .ge 24, 3, .inl (70, 0), false) := rfl
theorem lk_No_digestOn_49 : sc_lk tb_No_digestOn 49 = some (.ldc2_w 59, 3, .inr (.inr (31)), false) := rfl
theorem lk_No_digestOn_52 : sc_lk tb_No_digestOn 52 = some (.lload_n 3, 1, .inl (3, 0), false) := rfl
theorem lk_No_digestOn_53 : sc_lk tb_No_digestOn 53 = some (.lmul, 1, .inr (.inr 0), false) := rfl
theorem lk_No_digestOn_54 : sc_lk tb_No_digestOn 54 = some (.aload_n 0, 1, .inl (0, 0), false) := rfl
theorem lk_No_digestOn_55 : sc_lk tb_No_digestOn 55 = some (.getfield 9, 3, .inl (2, 7), false) := rfl
theorem lk_No_digestOn_58 : sc_lk tb_No_digestOn 58 = some (.iload 5, 2, .inl (5, 0), false) := rfl
theorem lk_No_digestOn_60 : sc_lk tb_No_digestOn 60 = some (.iaload, 1, .inr (.inr 0), false) := rfl
theorem lk_No_digestOn_61 : sc_lk tb_No_digestOn 61 = some (.i2l, 1, .inr (.inr 0), false) := rfl
theorem lk_No_digestOn_62 : sc_lk tb_No_digestOn 62 = some (.ladd, 1, .inr (.inr 0), false) := rfl
theorem lk_No_digestOn_63 : sc_lk tb_No_digestOn 63 = some (.lstore_n 3, 1, .inl (3, 0), false) := rfl
theorem lk_No_digestOn_64 : sc_lk tb_No_digestOn 64 = some (.iinc 5 1, 3, .inl (5, 0), false) := rfl
theorem lk_No_digestOn_67 : sc_lk tb_No_digestOn 67 = some (.goto (-33), 3, .inl (34, 0), false) := rfl
theorem lk_No_digestOn_70 : sc_lk tb_No_digestOn 70 = some (.ldc2_w 59, 3, .inr (.inr (31)), false) := rfl
theorem lk_No_digestOn_73 : sc_lk tb_No_digestOn 73 = some (.lload_n 3, 1, .inl (3, 0), false) := rfl
theorem lk_No_digestOn_74 : sc_lk tb_No_digestOn 74 = some (.lmul, 1, .inr (.inr 0), false) := rfl
theorem lk_No_digestOn_75 : sc_lk tb_No_digestOn 75 = some (.aload_n 0, 1, .inl (0, 0), false) := rfl
theorem lk_No_digestOn_76 : sc_lk tb_No_digestOn 76 = some (.getfield 50, 3, .inl (2, 4), false) := rfl
theorem lk_No_digestOn_79 : sc_lk tb_No_digestOn 79 = some (.i2l, 1, .inr (.inr 0), false) := rfl
theorem lk_No_digestOn_80 : sc_lk tb_No_digestOn 80 = some (.ladd, 1, .inr (.inr 0), false) := rfl
theorem lk_No_digestOn_81 : sc_lk tb_No_digestOn 81 = some (.lstore_n 3, 1, .inl (3, 0), false) := rfl
theorem lk_No_digestOn_82 : sc_lk tb_No_digestOn 82 = some (.aload_n 0, 1, .inl (0, 0), false) := rfl
theorem lk_No_digestOn_83 : sc_lk tb_No_digestOn 83 = some (.getfield 18, 3, .inl (2, 0), false) := rfl
theorem lk_No_digestOn_86 : sc_lk tb_No_digestOn 86 = some (.iconst 1, 1, .inr (.inr 0), false) := rfl
theorem lk_No_digestOn_87 : sc_lk tb_No_digestOn 87 = some (.if_icmp .ne 15, 3, .inl (102, 0), false) := rfl
theorem lk_No_digestOn_90 : sc_lk tb_No_digestOn 90 = some (.aload_n 0, 1, .inl (0, 0), false) := rfl
theorem lk_No_digestOn_91 : sc_lk tb_No_digestOn 91 = some (.getfield 31, 3, .inl (2, 6), false) := rfl
theorem lk_No_digestOn_94 : sc_lk tb_No_digestOn 94 = some (.aload_n 0, 1, .inl (0, 0), false) := rfl
theorem lk_No_digestOn_95 : sc_lk tb_No_digestOn 95 = some (.getfield 22, 3, .inl (2, 1), false) := rfl
theorem lk_No_digestOn_98 : sc_lk tb_No_digestOn 98 = some (.imul, 1, .inr (.inr 0), false) := rfl
theorem lk_No_digestOn_99 : sc_lk tb_No_digestOn 99 = some (.goto 7, 3, .inl (106, 0), false) := rfl
theorem lk_No_digestOn_102 : sc_lk tb_No_digestOn 102 = some (.aload_n 0, 1, .inl (0, 0), false) := rfl
theorem lk_No_digestOn_103 : sc_lk tb_No_digestOn 103 = some (.getfield 31, 3, .inl (2, 6), false) := rfl
theorem lk_No_digestOn_106 : sc_lk tb_No_digestOn 106 = some (.istore 5, 2, .inl (5, 0), false) := rfl
theorem lk_No_digestOn_108 : sc_lk tb_No_digestOn 108 = some (.iconst 0, 1, .inr (.inr 0), false) := rfl
theorem lk_No_digestOn_109 : sc_lk tb_No_digestOn 109 = some (.istore 6, 2, .inl (6, 0), false) := rfl
theorem lk_No_digestOn_111 : sc_lk tb_No_digestOn 111 = some (.iload 6, 2, .inl (6, 0), true) := rfl
theorem lk_No_digestOn_113 : sc_lk tb_No_digestOn 113 = some (.iload 5, 2, .inl (5, 0), false) := rfl
theorem lk_No_digestOn_115 : sc_lk tb_No_digestOn 115 = some (.if_icmp .ge 23, 3, .inl (138, 0), false) := rfl
theorem lk_No_digestOn_118 : sc_lk tb_No_digestOn 118 = some (.ldc2_w 59, 3, .inr (.inr (31)), false) := rfl
theorem lk_No_digestOn_121 : sc_lk tb_No_digestOn 121 = some (.lload_n 3, 1, .inl (3, 0), false) := rfl
theorem lk_No_digestOn_122 : sc_lk tb_No_digestOn 122 = some (.lmul, 1, .inr (.inr 0), false) := rfl
theorem lk_No_digestOn_123 : sc_lk tb_No_digestOn 123 = some (.aload_n 0, 1, .inl (0, 0), false) := rfl
theorem lk_No_digestOn_124 : sc_lk tb_No_digestOn 124 = some (.iload 6, 2, .inl (6, 0), false) := rfl
theorem lk_No_digestOn_126 : sc_lk tb_No_digestOn 126 = some (.invokevirtual 64, 3, .inr (.inl (2, 1, mq_No_get)), false) := rfl
theorem lk_No_digestOn_129 : sc_lk tb_No_digestOn 129 = some (.i2l, 1, .inr (.inr 0), false) := rfl
theorem lk_No_digestOn_130 : sc_lk tb_No_digestOn 130 = some (.ladd, 1, .inr (.inr 0), false) := rfl
theorem lk_No_digestOn_131 : sc_lk tb_No_digestOn 131 = some (.lstore_n 3, 1, .inl (3, 0), false) := rfl
theorem lk_No_digestOn_132 : sc_lk tb_No_digestOn 132 = some (.iinc 6 1, 3, .inl (6, 0), false) := rfl
theorem lk_No_digestOn_135 : sc_lk tb_No_digestOn 135 = some (.goto (-24), 3, .inl (111, 0), false) := rfl
theorem lk_No_digestOn_138 : sc_lk tb_No_digestOn 138 = some (.aload_n 0, 1, .inl (0, 0), false) := rfl
theorem lk_No_digestOn_139 : sc_lk tb_No_digestOn 139 = some (.invokevirtual 46, 3, .inr (.inl (2, 0, mq_No_isFirm)), false) := rfl
theorem lk_No_digestOn_142 : sc_lk tb_No_digestOn 142 = some (.ifCond .eq 17, 3, .inl (159, 0), false) := rfl
theorem lk_No_digestOn_145 : sc_lk tb_No_digestOn 145 = some (.ldc2_w 59, 3, .inr (.inr (31)), false) := rfl
theorem lk_No_digestOn_148 : sc_lk tb_No_digestOn 148 = some (.lload_n 3, 1, .inl (3, 0), false) := rfl
theorem lk_No_digestOn_149 : sc_lk tb_No_digestOn 149 = some (.lmul, 1, .inr (.inr 0), false) := rfl
theorem lk_No_digestOn_150 : sc_lk tb_No_digestOn 150 = some (.aload_n 0, 1, .inl (0, 0), false) := rfl
theorem lk_No_digestOn_151 : sc_lk tb_No_digestOn 151 = some (.getfield 28, 3, .inl (2, 3), false) := rfl
theorem lk_No_digestOn_154 : sc_lk tb_No_digestOn 154 = some (.i2l, 1, .inr (.inr 0), false) := rfl
theorem lk_No_digestOn_155 : sc_lk tb_No_digestOn 155 = some (.ladd, 1, .inr (.inr 0), false) := rfl
theorem lk_No_digestOn_156 : sc_lk tb_No_digestOn 156 = some (.goto 4, 3, .inl (160, 0), false) := rfl
theorem lk_No_digestOn_159 : sc_lk tb_No_digestOn 159 = some (.lload_n 3, 1, .inl (3, 0), false) := rfl
theorem lk_No_digestOn_160 : sc_lk tb_No_digestOn 160 = some (.lreturn, 1, .inr (.inr 0), false) := rfl
def tb_Ch_add : sc_T := [(0, .aload_n 0, 1, .inl (0, 0), false), (1, .getfield 22, 3, .inl (0, 1), false), (4, .bipush 10, 2, .inr (.inr 0), false), (6, .if_icmp .lt 6, 3, .inl (12, 0), false), (9, .bipush (-2), 2, .inr (.inr 0), false), (11, .ireturn, 1, .inr (.inr 0), false), (12, .aload_n 0, 1, .inl (0, 0), false), (13, .getfield 11, 3, .inl (0, 0), false), (16, .aload_n 0, 1, .inl (0, 0), false), (17, .getfield 22, 3, .inl (0, 1), false), (20, .aaload, 1, .inr (.inr 0), false), (21, .iload_n 1, 1, .inl (1, 0), false), (22, .iload_n 2, 1, .inl (2, 0), false), (23, .aload_n 0, 1, .inl (0, 0), false), (24, .getfield 17, 3, .inl (0, 2), false), (27, .invokevirtual 25, 3, .inr (.inl (2, 3, mq_No_begin)), false), (30, .iload_n 2, 1, .inl (2, 0), false), (31, .ifCond .le 13, 3, .inl (44, 0), false), (34, .aload_n 0, 1, .inl (0, 0), false), (35, .dup, 1, .inr (.inr 0), false), (36, .getfield 17, 3, .inl (0, 2), false), (39, .iload_n 2, 1, .inl (2, 0), false), (40, .imul, 1, .inr (.inr 0), false), (41, .putfield 17, 3, .inl (0, 2), false), (44, .aload_n 0, 1, .inl (0, 0), false), (45, .dup, 1, .inr (.inr 0), false), (46, .getfield 22, 3, .inl (0, 1), false), (49, .iconst 1, 1, .inr (.inr 0), false), (50, .iadd, 1, .inr (.inr 0), false), (51, .putfield 22, 3, .inl (0, 1), false), (54, .aload_n 0, 1, .inl (0, 0), false), (55, .getfield 22, 3, .inl (0, 1), false), (58, .iconst 1, 1, .inr (.inr 0), false), (59, .isub, 1, .inr (.inr 0), false), (60, .ireturn, 1, .inr (.inr 0), false)]
theorem tk_Ch_add : sc_ok mq_Ch_add tb_Ch_add = true := by decide +kernel
theorem lk_Ch_add_0 : sc_lk tb_Ch_add 0 = some (.aload_n 0, 1, .inl (0, 0), false) := rfl
theorem lk_Ch_add_1 : sc_lk tb_Ch_add 1 = some (.getfield 22, 3, .inl (0, 1), false) := rfl
theorem lk_Ch_add_4 : sc_lk tb_Ch_add 4 = some (.bipush 10, 2, .inr (.inr 0), false) := rfl
theorem lk_Ch_add_6 : sc_lk tb_Ch_add 6 = some (.if_icmp .lt 6, 3, .inl (12, 0), false) := rfl
theorem lk_Ch_add_9 : sc_lk tb_Ch_add 9 = some (.bipush (-2), 2, .inr (.inr 0), false) := rfl
theorem lk_Ch_add_11 : sc_lk tb_Ch_add 11 = some (.ireturn, 1, .inr (.inr 0), false) := rfl
theorem lk_Ch_add_12 : sc_lk tb_Ch_add 12 = some (.aload_n 0, 1, .inl (0, 0), false) := rfl
theorem lk_Ch_add_13 : sc_lk tb_Ch_add 13 = some (.getfield 11, 3, .inl (0, 0), false) := rfl
theorem lk_Ch_add_16 : sc_lk tb_Ch_add 16 = some (.aload_n 0, 1, .inl (0, 0), false) := rfl
theorem lk_Ch_add_17 : sc_lk tb_Ch_add 17 = some (.getfield 22, 3, .inl (0, 1), false) := rfl
theorem lk_Ch_add_20 : sc_lk tb_Ch_add 20 = some (.aaload, 1, .inr (.inr 0), false) := rfl
theorem lk_Ch_add_21 : sc_lk tb_Ch_add 21 = some (.iload_n 1, 1, .inl (1, 0), false) := rfl
theorem lk_Ch_add_22 : sc_lk tb_Ch_add 22 = some (.iload_n 2, 1, .inl (2, 0), false) := rfl
theorem lk_Ch_add_23 : sc_lk tb_Ch_add 23 = some (.aload_n 0, 1, .inl (0, 0), false) := rfl
theorem lk_Ch_add_24 : sc_lk tb_Ch_add 24 = some (.getfield 17, 3, .inl (0, 2), false) := rfl
theorem lk_Ch_add_27 : sc_lk tb_Ch_add 27 = some (.invokevirtual 25, 3, .inr (.inl (2, 3, mq_No_begin)), false) := rfl
theorem lk_Ch_add_30 : sc_lk tb_Ch_add 30 = some (.iload_n 2, 1, .inl (2, 0), false) := rfl
theorem lk_Ch_add_31 : sc_lk tb_Ch_add 31 = some (.ifCond .le 13, 3, .inl (44, 0), false) := rfl
theorem lk_Ch_add_34 : sc_lk tb_Ch_add 34 = some (.aload_n 0, 1, .inl (0, 0), false) := rfl
theorem lk_Ch_add_35 : sc_lk tb_Ch_add 35 = some (.dup, 1, .inr (.inr 0), false) := rfl
theorem lk_Ch_add_36 : sc_lk tb_Ch_add 36 = some (.getfield 17, 3, .inl (0, 2), false) := rfl
theorem lk_Ch_add_39 : sc_lk tb_Ch_add 39 = some (.iload_n 2, 1, .inl (2, 0), false) := rfl
theorem lk_Ch_add_40 : sc_lk tb_Ch_add 40 = some (.imul, 1, .inr (.inr 0), false) := rfl
theorem lk_Ch_add_41 : sc_lk tb_Ch_add 41 = some (.putfield 17, 3, .inl (0, 2), false) := rfl
theorem lk_Ch_add_44 : sc_lk tb_Ch_add 44 = some (.aload_n 0, 1, .inl (0, 0), false) := rfl
theorem lk_Ch_add_45 : sc_lk tb_Ch_add 45 = some (.dup, 1, .inr (.inr 0), false) := rfl
theorem lk_Ch_add_46 : sc_lk tb_Ch_add 46 = some (.getfield 22, 3, .inl (0, 1), false) := rfl
theorem lk_Ch_add_49 : sc_lk tb_Ch_add 49 = some (.iconst 1, 1, .inr (.inr 0), false) := rfl
theorem lk_Ch_add_50 : sc_lk tb_Ch_add 50 = some (.iadd, 1, .inr (.inr 0), false) := rfl
theorem lk_Ch_add_51 : sc_lk tb_Ch_add 51 = some (.putfield 22, 3, .inl (0, 1), false) := rfl
theorem lk_Ch_add_54 : sc_lk tb_Ch_add 54 = some (.aload_n 0, 1, .inl (0, 0), false) := rfl
theorem lk_Ch_add_55 : sc_lk tb_Ch_add 55 = some (.getfield 22, 3, .inl (0, 1), false) := rfl
theorem lk_Ch_add_58 : sc_lk tb_Ch_add 58 = some (.iconst 1, 1, .inr (.inr 0), false) := rfl
theorem lk_Ch_add_59 : sc_lk tb_Ch_add 59 = some (.isub, 1, .inr (.inr 0), false) := rfl
theorem lk_Ch_add_60 : sc_lk tb_Ch_add 60 = some (.ireturn, 1, .inr (.inr 0), false) := rfl
def tb_Ch_has : sc_T := [(0, .iload_n 1, 1, .inl (1, 0), false), (1, .ifCond .lt 15, 3, .inl (16, 0), false), (4, .iload_n 1, 1, .inl (1, 0), false), (5, .aload_n 0, 1, .inl (0, 0), false), (6, .getfield 22, 3, .inl (0, 1), false), (9, .if_icmp .ge 7, 3, .inl (16, 0), false), (12, .iconst 1, 1, .inr (.inr 0), false), (13, .goto 4, 3, .inl (17, 0), false), (16, .iconst 0, 1, .inr (.inr 0), false), (17, .ireturn, 1, .inr (.inr 0), false)]
theorem tk_Ch_has : sc_ok mq_Ch_has tb_Ch_has = true := by decide +kernel
theorem lk_Ch_has_0 : sc_lk tb_Ch_has 0 = some (.iload_n 1, 1, .inl (1, 0), false) := rfl
theorem lk_Ch_has_1 : sc_lk tb_Ch_has 1 = some (.ifCond .lt 15, 3, .inl (16, 0), false) := rfl
theorem lk_Ch_has_4 : sc_lk tb_Ch_has 4 = some (.iload_n 1, 1, .inl (1, 0), false) := rfl
theorem lk_Ch_has_5 : sc_lk tb_Ch_has 5 = some (.aload_n 0, 1, .inl (0, 0), false) := rfl
theorem lk_Ch_has_6 : sc_lk tb_Ch_has 6 = some (.getfield 22, 3, .inl (0, 1), false) := rfl
theorem lk_Ch_has_9 : sc_lk tb_Ch_has 9 = some (.if_icmp .ge 7, 3, .inl (16, 0), false) := rfl
theorem lk_Ch_has_12 : sc_lk tb_Ch_has 12 = some (.iconst 1, 1, .inr (.inr 0), false) := rfl
theorem lk_Ch_has_13 : sc_lk tb_Ch_has 13 = some (.goto 4, 3, .inl (17, 0), false) := rfl
theorem lk_Ch_has_16 : sc_lk tb_Ch_has 16 = some (.iconst 0, 1, .inr (.inr 0), false) := rfl
theorem lk_Ch_has_17 : sc_lk tb_Ch_has 17 = some (.ireturn, 1, .inr (.inr 0), false) := rfl
def tb_Ch_countSeeing : sc_T := [(0, .iconst 0, 1, .inr (.inr 0), false), (1, .istore_n 2, 1, .inl (2, 0), false), (2, .iconst 0, 1, .inr (.inr 0), false), (3, .istore_n 3, 1, .inl (3, 0), false), (4, .iload_n 3, 1, .inl (3, 0), true), (5, .aload_n 0, 1, .inl (0, 0), false), (6, .getfield 22, 3, .inl (0, 1), false), (9, .if_icmp .ge 25, 3, .inl (34, 0), false), (12, .aload_n 0, 1, .inl (0, 0), false), (13, .getfield 11, 3, .inl (0, 0), false), (16, .iload_n 3, 1, .inl (3, 0), false), (17, .aaload, 1, .inr (.inr 0), false), (18, .iload_n 1, 1, .inl (1, 0), false), (19, .invokevirtual 32, 3, .inr (.inl (2, 1, mq_No_sees)), false), (22, .ifCond .eq 6, 3, .inl (28, 0), false), (25, .iinc 2 1, 3, .inl (2, 0), false), (28, .iinc 3 1, 3, .inl (3, 0), false), (31, .goto (-27), 3, .inl (4, 0), false), (34, .iload_n 2, 1, .inl (2, 0), false), (35, .ireturn, 1, .inr (.inr 0), false)]
theorem tk_Ch_countSeeing : sc_ok mq_Ch_countSeeing tb_Ch_countSeeing = true := by decide +kernel
theorem lk_Ch_countSeeing_0 : sc_lk tb_Ch_countSeeing 0 = some (.iconst 0, 1, .inr (.inr 0), false) := rfl
theorem lk_Ch_countSeeing_1 : sc_lk tb_Ch_countSeeing 1 = some (.istore_n 2, 1, .inl (2, 0), false) := rfl
theorem lk_Ch_countSeeing_2 : sc_lk tb_Ch_countSeeing 2 = some (.iconst 0, 1, .inr (.inr 0), false) := rfl
theorem lk_Ch_countSeeing_3 : sc_lk tb_Ch_countSeeing 3 = some (.istore_n 3, 1, .inl (3, 0), false) := rfl
theorem lk_Ch_countSeeing_4 : sc_lk tb_Ch_countSeeing 4 = some (.iload_n 3, 1, .inl (3, 0), true) := rfl
theorem lk_Ch_countSeeing_5 : sc_lk tb_Ch_countSeeing 5 = some (.aload_n 0, 1, .inl (0, 0), false) := rfl
theorem lk_Ch_countSeeing_6 : sc_lk tb_Ch_countSeeing 6 = some (.getfield 22, 3, .inl (0, 1), false) := rfl
theorem lk_Ch_countSeeing_9 : sc_lk tb_Ch_countSeeing 9 = some (.if_icmp .ge 25, 3, .inl (34, 0), false) := rfl
theorem lk_Ch_countSeeing_12 : sc_lk tb_Ch_countSeeing 12 = some (.aload_n 0, 1, .inl (0, 0), false) := rfl
theorem lk_Ch_countSeeing_13 : sc_lk tb_Ch_countSeeing 13 = some (.getfield 11, 3, .inl (0, 0), false) := rfl
theorem lk_Ch_countSeeing_16 : sc_lk tb_Ch_countSeeing 16 = some (.iload_n 3, 1, .inl (3, 0), false) := rfl
theorem lk_Ch_countSeeing_17 : sc_lk tb_Ch_countSeeing 17 = some (.aaload, 1, .inr (.inr 0), false) := rfl
theorem lk_Ch_countSeeing_18 : sc_lk tb_Ch_countSeeing 18 = some (.iload_n 1, 1, .inl (1, 0), false) := rfl
theorem lk_Ch_countSeeing_19 : sc_lk tb_Ch_countSeeing 19 = some (.invokevirtual 32, 3, .inr (.inl (2, 1, mq_No_sees)), false) := rfl
theorem lk_Ch_countSeeing_22 : sc_lk tb_Ch_countSeeing 22 = some (.ifCond .eq 6, 3, .inl (28, 0), false) := rfl
theorem lk_Ch_countSeeing_25 : sc_lk tb_Ch_countSeeing 25 = some (.iinc 2 1, 3, .inl (2, 0), false) := rfl
theorem lk_Ch_countSeeing_28 : sc_lk tb_Ch_countSeeing 28 = some (.iinc 3 1, 3, .inl (3, 0), false) := rfl
theorem lk_Ch_countSeeing_31 : sc_lk tb_Ch_countSeeing 31 = some (.goto (-27), 3, .inl (4, 0), false) := rfl
theorem lk_Ch_countSeeing_34 : sc_lk tb_Ch_countSeeing 34 = some (.iload_n 2, 1, .inl (2, 0), false) := rfl
theorem lk_Ch_countSeeing_35 : sc_lk tb_Ch_countSeeing 35 = some (.ireturn, 1, .inr (.inr 0), false) := rfl
def tb_Ch_countChildren : sc_T := [(0, .iconst 0, 1, .inr (.inr 0), false), (1, .istore_n 2, 1, .inl (2, 0), false), (2, .iconst 0, 1, .inr (.inr 0), false), (3, .istore_n 3, 1, .inl (3, 0), false), (4, .iload_n 3, 1, .inl (3, 0), true), (5, .aload_n 0, 1, .inl (0, 0), false), (6, .getfield 22, 3, .inl (0, 1), false), (9, .if_icmp .ge 25, 3, .inl (34, 0), false), (12, .aload_n 0, 1, .inl (0, 0), false), (13, .getfield 11, 3, .inl (0, 0), false), (16, .iload_n 3, 1, .inl (3, 0), false), (17, .aaload, 1, .inr (.inr 0), false), (18, .iload_n 1, 1, .inl (1, 0), false), (19, .invokevirtual 36, 3, .inr (.inl (2, 1, mq_No_isChildOf)), false), (22, .ifCond .eq 6, 3, .inl (28, 0), false), (25, .iinc 2 1, 3, .inl (2, 0), false), (28, .iinc 3 1, 3, .inl (3, 0), false), (31, .goto (-27), 3, .inl (4, 0), false), (34, .iload_n 2, 1, .inl (2, 0), false), (35, .ireturn, 1, .inr (.inr 0), false)]
theorem tk_Ch_countChildren : sc_ok mq_Ch_countChildren tb_Ch_countChildren = true := by decide +kernel
theorem lk_Ch_countChildren_0 : sc_lk tb_Ch_countChildren 0 = some (.iconst 0, 1, .inr (.inr 0), false) := rfl
theorem lk_Ch_countChildren_1 : sc_lk tb_Ch_countChildren 1 = some (.istore_n 2, 1, .inl (2, 0), false) := rfl
theorem lk_Ch_countChildren_2 : sc_lk tb_Ch_countChildren 2 = some (.iconst 0, 1, .inr (.inr 0), false) := rfl
theorem lk_Ch_countChildren_3 : sc_lk tb_Ch_countChildren 3 = some (.istore_n 3, 1, .inl (3, 0), false) := rfl
theorem lk_Ch_countChildren_4 : sc_lk tb_Ch_countChildren 4 = some (.iload_n 3, 1, .inl (3, 0), true) := rfl
theorem lk_Ch_countChildren_5 : sc_lk tb_Ch_countChildren 5 = some (.aload_n 0, 1, .inl (0, 0), false) := rfl
theorem lk_Ch_countChildren_6 : sc_lk tb_Ch_countChildren 6 = some (.getfield 22, 3, .inl (0, 1), false) := rfl
theorem lk_Ch_countChildren_9 : sc_lk tb_Ch_countChildren 9 = some (.if_icmp .ge 25, 3, .inl (34, 0), false) := rfl
theorem lk_Ch_countChildren_12 : sc_lk tb_Ch_countChildren 12 = some (.aload_n 0, 1, .inl (0, 0), false) := rfl
theorem lk_Ch_countChildren_13 : sc_lk tb_Ch_countChildren 13 = some (.getfield 11, 3, .inl (0, 0), false) := rfl
theorem lk_Ch_countChildren_16 : sc_lk tb_Ch_countChildren 16 = some (.iload_n 3, 1, .inl (3, 0), false) := rfl
theorem lk_Ch_countChildren_17 : sc_lk tb_Ch_countChildren 17 = some (.aaload, 1, .inr (.inr 0), false) := rfl
theorem lk_Ch_countChildren_18 : sc_lk tb_Ch_countChildren 18 = some (.iload_n 1, 1, .inl (1, 0), false) := rfl
theorem lk_Ch_countChildren_19 : sc_lk tb_Ch_countChildren 19 = some (.invokevirtual 36, 3, .inr (.inl (2, 1, mq_No_isChildOf)), false) := rfl
theorem lk_Ch_countChildren_22 : sc_lk tb_Ch_countChildren 22 = some (.ifCond .eq 6, 3, .inl (28, 0), false) := rfl
theorem lk_Ch_countChildren_25 : sc_lk tb_Ch_countChildren 25 = some (.iinc 2 1, 3, .inl (2, 0), false) := rfl
theorem lk_Ch_countChildren_28 : sc_lk tb_Ch_countChildren 28 = some (.iinc 3 1, 3, .inl (3, 0), false) := rfl
theorem lk_Ch_countChildren_31 : sc_lk tb_Ch_countChildren 31 = some (.goto (-27), 3, .inl (4, 0), false) := rfl
theorem lk_Ch_countChildren_34 : sc_lk tb_Ch_countChildren 34 = some (.iload_n 2, 1, .inl (2, 0), false) := rfl
theorem lk_Ch_countChildren_35 : sc_lk tb_Ch_countChildren 35 = some (.ireturn, 1, .inr (.inr 0), false) := rfl
def tb_Ch_countKind : sc_T := [(0, .iconst 0, 1, .inr (.inr 0), false), (1, .istore_n 2, 1, .inl (2, 0), false), (2, .iconst 0, 1, .inr (.inr 0), false), (3, .istore_n 3, 1, .inl (3, 0), false), (4, .iload_n 3, 1, .inl (3, 0), true), (5, .aload_n 0, 1, .inl (0, 0), false), (6, .getfield 22, 3, .inl (0, 1), false), (9, .if_icmp .ge 25, 3, .inl (34, 0), false), (12, .aload_n 0, 1, .inl (0, 0), false), (13, .getfield 11, 3, .inl (0, 0), false), (16, .iload_n 3, 1, .inl (3, 0), false), (17, .aaload, 1, .inr (.inr 0), false), (18, .getfield 29, 3, .inl (2, 0), false), (21, .iload_n 1, 1, .inl (1, 0), false), (22, .if_icmp .ne 6, 3, .inl (28, 0), false), (25, .iinc 2 1, 3, .inl (2, 0), false), (28, .iinc 3 1, 3, .inl (3, 0), false), (31, .goto (-27), 3, .inl (4, 0), false), (34, .iload_n 2, 1, .inl (2, 0), false), (35, .ireturn, 1, .inr (.inr 0), false)]
theorem tk_Ch_countKind : sc_ok mq_Ch_countKind tb_Ch_countKind = true := by decide +kernel
theorem lk_Ch_countKind_0 : sc_lk tb_Ch_countKind 0 = some (.iconst 0, 1, .inr (.inr 0), false) := rfl
theorem lk_Ch_countKind_1 : sc_lk tb_Ch_countKind 1 = some (.istore_n 2, 1, .inl (2, 0), false) := rfl
theorem lk_Ch_countKind_2 : sc_lk tb_Ch_countKind 2 = some (.iconst 0, 1, .inr (.inr 0), false) := rfl
theorem lk_Ch_countKind_3 : sc_lk tb_Ch_countKind 3 = some (.istore_n 3, 1, .inl (3, 0), false) := rfl
theorem lk_Ch_countKind_4 : sc_lk tb_Ch_countKind 4 = some (.iload_n 3, 1, .inl (3, 0), true) := rfl
theorem lk_Ch_countKind_5 : sc_lk tb_Ch_countKind 5 = some (.aload_n 0, 1, .inl (0, 0), false) := rfl
theorem lk_Ch_countKind_6 : sc_lk tb_Ch_countKind 6 = some (.getfield 22, 3, .inl (0, 1), false) := rfl
theorem lk_Ch_countKind_9 : sc_lk tb_Ch_countKind 9 = some (.if_icmp .ge 25, 3, .inl (34, 0), false) := rfl
theorem lk_Ch_countKind_12 : sc_lk tb_Ch_countKind 12 = some (.aload_n 0, 1, .inl (0, 0), false) := rfl
theorem lk_Ch_countKind_13 : sc_lk tb_Ch_countKind 13 = some (.getfield 11, 3, .inl (0, 0), false) := rfl
theorem lk_Ch_countKind_16 : sc_lk tb_Ch_countKind 16 = some (.iload_n 3, 1, .inl (3, 0), false) := rfl
theorem lk_Ch_countKind_17 : sc_lk tb_Ch_countKind 17 = some (.aaload, 1, .inr (.inr 0), false) := rfl
theorem lk_Ch_countKind_18 : sc_lk tb_Ch_countKind 18 = some (.getfield 29, 3, .inl (2, 0), false) := rfl
theorem lk_Ch_countKind_21 : sc_lk tb_Ch_countKind 21 = some (.iload_n 1, 1, .inl (1, 0), false) := rfl
theorem lk_Ch_countKind_22 : sc_lk tb_Ch_countKind 22 = some (.if_icmp .ne 6, 3, .inl (28, 0), false) := rfl
theorem lk_Ch_countKind_25 : sc_lk tb_Ch_countKind 25 = some (.iinc 2 1, 3, .inl (2, 0), false) := rfl
theorem lk_Ch_countKind_28 : sc_lk tb_Ch_countKind 28 = some (.iinc 3 1, 3, .inl (3, 0), false) := rfl
theorem lk_Ch_countKind_31 : sc_lk tb_Ch_countKind 31 = some (.goto (-27), 3, .inl (4, 0), false) := rfl
theorem lk_Ch_countKind_34 : sc_lk tb_Ch_countKind 34 = some (.iload_n 2, 1, .inl (2, 0), false) := rfl
theorem lk_Ch_countKind_35 : sc_lk tb_Ch_countKind 35 = some (.ireturn, 1, .inr (.inr 0), false) := rfl
def tb_Ch_placeIn : sc_T := [(0, .iconst 0, 1, .inr (.inr 0), false), (1, .istore_n 3, 1, .inl (3, 0), false), (2, .iconst 1, 1, .inr (.inr 0), false), (3, .istore 4, 2, .inl (4, 0), false), (5, .iconst 0, 1, .inr (.inr 0), false), (6, .istore 5, 2, .inl (5, 0), false), (8, .iload 5, 2, .inl (5, 0), true), (10, .aload_n 1, 1, .inl (1, 0), false), (11, .getfield 45, 3, .inl (2, 5), false), (14, .if_icmp .ge 68, 3, .inl (82, 0), false), (17, .iload 5, 2, .inl (5, 0), false), (19, .iconst 3, 1, .inr (.inr 0), false), (20, .if_icmp .ge 62, 3, .inl (82, 0), false), (23, .aload_n 1, 1, .inl (1, 0), false), (24, .getfield 48, 3, .inl (2, 7), false), (27, .iload 5, 2, .inl (5, 0), false), (29, .iaload, 1, .inr (.inr 0), false), (30, .istore 6, 2, .inl (6, 0), false), (32, .aload_n 0, 1, .inl (0, 0), false), (33, .iload 6, 2, .inl (6, 0), false), (35, .invokevirtual 52, 3, .inr (.inl (0, 1, mq_Ch_has)), false), (38, .ifCond .ne 6, 3, .inl (44, 0), false), (41, .goto 35, 3, .inl (76, 0), false), (44, .iload_n 3, 1, .inl (3, 0), false), (45, .iload 4, 2, .inl (4, 0), false), (47, .aload_n 0, 1, .inl (0, 0), false), (48, .getfield 11, 3, .inl (0, 0), false), (51, .iload 6, 2, .inl (6, 0), false), (53, .aaload, 1, .inr (.inr 0), false), (54, .iload_n 2, 1, .inl (2, 0), false), (55, .invokevirtual 55, 3, .inr (.inl (2, 1, mq_No_stateIn)), false), (58, .imul, 1, .inr (.inr 0), false), (59, .iadd, 1, .inr (.inr 0), false), (60, .istore_n 3, 1, .inl (3, 0), false), (61, .iload 4, 2, .inl (4, 0), false), (63, .aload_n 0, 1, .inl (0, 0), false), (64, .getfield 11, 3, .inl (0, 0), false), (67, .iload 6, 2, .inl (6, 0), false), (69, .aaload, 1, .inr (.inr 0), false), (70, .getfield 59, 3, .inl (2, 1), false), (73, .imul, 1, .inr (.inr 0), false), (74, .istore 4, 2, .inl (4, 0), false), (76, .iinc 5 1, 3, .inl (5, 0), false), (79, .goto (-71), 3, .inl (8, 0), false), (82, .iload_n 3, 1, .inl (3, 0), false), (83, .ireturn, 1, .inr (.inr 0), false)]
theorem tk_Ch_placeIn : sc_ok mq_Ch_placeIn tb_Ch_placeIn = true := by decide +kernel
theorem lk_Ch_placeIn_0 : sc_lk tb_Ch_placeIn 0 = some (.iconst 0, 1, .inr (.inr 0), false) := rfl
theorem lk_Ch_placeIn_1 : sc_lk tb_Ch_placeIn 1 = some (.istore_n 3, 1, .inl (3, 0), false) := rfl
theorem lk_Ch_placeIn_2 : sc_lk tb_Ch_placeIn 2 = some (.iconst 1, 1, .inr (.inr 0), false) := rfl
theorem lk_Ch_placeIn_3 : sc_lk tb_Ch_placeIn 3 = some (.istore 4, 2, .inl (4, 0), false) := rfl
theorem lk_Ch_placeIn_5 : sc_lk tb_Ch_placeIn 5 = some (.iconst 0, 1, .inr (.inr 0), false) := rfl
theorem lk_Ch_placeIn_6 : sc_lk tb_Ch_placeIn 6 = some (.istore 5, 2, .inl (5, 0), false) := rfl
theorem lk_Ch_placeIn_8 : sc_lk tb_Ch_placeIn 8 = some (.iload 5, 2, .inl (5, 0), true) := rfl
theorem lk_Ch_placeIn_10 : sc_lk tb_Ch_placeIn 10 = some (.aload_n 1, 1, .inl (1, 0), false) := rfl
theorem lk_Ch_placeIn_11 : sc_lk tb_Ch_placeIn 11 = some (.getfield 45, 3, .inl (2, 5), false) := rfl
theorem lk_Ch_placeIn_14 : sc_lk tb_Ch_placeIn 14 = some (.if_icmp .ge 68, 3, .inl (82, 0), false) := rfl
theorem lk_Ch_placeIn_17 : sc_lk tb_Ch_placeIn 17 = some (.iload 5, 2, .inl (5, 0), false) := rfl
theorem lk_Ch_placeIn_19 : sc_lk tb_Ch_placeIn 19 = some (.iconst 3, 1, .inr (.inr 0), false) := rfl
theorem lk_Ch_placeIn_20 : sc_lk tb_Ch_placeIn 20 = some (.if_icmp .ge 62, 3, .inl (82, 0), false) := rfl
theorem lk_Ch_placeIn_23 : sc_lk tb_Ch_placeIn 23 = some (.aload_n 1, 1, .inl (1, 0), false) := rfl
theorem lk_Ch_placeIn_24 : sc_lk tb_Ch_placeIn 24 = some (.getfield 48, 3, .inl (2, 7), false) := rfl
theorem lk_Ch_placeIn_27 : sc_lk tb_Ch_placeIn 27 = some (.iload 5, 2, .inl (5, 0), false) := rfl
theorem lk_Ch_placeIn_29 : sc_lk tb_Ch_placeIn 29 = some (.iaload, 1, .inr (.inr 0), false) := rfl
theorem lk_Ch_placeIn_30 : sc_lk tb_Ch_placeIn 30 = some (.istore 6, 2, .inl (6, 0), false) := rfl
theorem lk_Ch_placeIn_32 : sc_lk tb_Ch_placeIn 32 = some (.aload_n 0, 1, .inl (0, 0), false) := rfl
theorem lk_Ch_placeIn_33 : sc_lk tb_Ch_placeIn 33 = some (.iload 6, 2, .inl (6, 0), false) := rfl
theorem lk_Ch_placeIn_35 : sc_lk tb_Ch_placeIn 35 = some (.invokevirtual 52, 3, .inr (.inl (0, 1, mq_Ch_has)), false) := rfl
theorem lk_Ch_placeIn_38 : sc_lk tb_Ch_placeIn 38 = some (.ifCond .ne 6, 3, .inl (44, 0), false) := rfl
theorem lk_Ch_placeIn_41 : sc_lk tb_Ch_placeIn 41 = some (.goto 35, 3, .inl (76, 0), false) := rfl
theorem lk_Ch_placeIn_44 : sc_lk tb_Ch_placeIn 44 = some (.iload_n 3, 1, .inl (3, 0), false) := rfl
theorem lk_Ch_placeIn_45 : sc_lk tb_Ch_placeIn 45 = some (.iload 4, 2, .inl (4, 0), false) := rfl
theorem lk_Ch_placeIn_47 : sc_lk tb_Ch_placeIn 47 = some (.aload_n 0, 1, .inl (0, 0), false) := rfl
theorem lk_Ch_placeIn_48 : sc_lk tb_Ch_placeIn 48 = some (.getfield 11, 3, .inl (0, 0), false) := rfl
theorem lk_Ch_placeIn_51 : sc_lk tb_Ch_placeIn 51 = some (.iload 6, 2, .inl (6, 0), false) := rfl
theorem lk_Ch_placeIn_53 : sc_lk tb_Ch_placeIn 53 = some (.aaload, 1, .inr (.inr 0), false) := rfl
theorem lk_Ch_placeIn_54 : sc_lk tb_Ch_placeIn 54 = some (.iload_n 2, 1, .inl (2, 0), false) := rfl
theorem lk_Ch_placeIn_55 : sc_lk tb_Ch_placeIn 55 = some (.invokevirtual 55, 3, .inr (.inl (2, 1, mq_No_stateIn)), false) := rfl
theorem lk_Ch_placeIn_58 : sc_lk tb_Ch_placeIn 58 = some (.imul, 1, .inr (.inr 0), false) := rfl
theorem lk_Ch_placeIn_59 : sc_lk tb_Ch_placeIn 59 = some (.iadd, 1, .inr (.inr 0), false) := rfl
theorem lk_Ch_placeIn_60 : sc_lk tb_Ch_placeIn 60 = some (.istore_n 3, 1, .inl (3, 0), false) := rfl
theorem lk_Ch_placeIn_61 : sc_lk tb_Ch_placeIn 61 = some (.iload 4, 2, .inl (4, 0), false) := rfl
theorem lk_Ch_placeIn_63 : sc_lk tb_Ch_placeIn 63 = some (.aload_n 0, 1, .inl (0, 0), false) := rfl
theorem lk_Ch_placeIn_64 : sc_lk tb_Ch_placeIn 64 = some (.getfield 11, 3, .inl (0, 0), false) := rfl
theorem lk_Ch_placeIn_67 : sc_lk tb_Ch_placeIn 67 = some (.iload 6, 2, .inl (6, 0), false) := rfl
theorem lk_Ch_placeIn_69 : sc_lk tb_Ch_placeIn 69 = some (.aaload, 1, .inr (.inr 0), false) := rfl
theorem lk_Ch_placeIn_70 : sc_lk tb_Ch_placeIn 70 = some (.getfield 59, 3, .inl (2, 1), false) := rfl
theorem lk_Ch_placeIn_73 : sc_lk tb_Ch_placeIn 73 = some (.imul, 1, .inr (.inr 0), false) := rfl
theorem lk_Ch_placeIn_74 : sc_lk tb_Ch_placeIn 74 = some (.istore 4, 2, .inl (4, 0), false) := rfl
theorem lk_Ch_placeIn_76 : sc_lk tb_Ch_placeIn 76 = some (.iinc 5 1, 3, .inl (5, 0), false) := rfl
theorem lk_Ch_placeIn_79 : sc_lk tb_Ch_placeIn 79 = some (.goto (-71), 3, .inl (8, 0), false) := rfl
theorem lk_Ch_placeIn_82 : sc_lk tb_Ch_placeIn 82 = some (.iload_n 3, 1, .inl (3, 0), false) := rfl
theorem lk_Ch_placeIn_83 : sc_lk tb_Ch_placeIn 83 = some (.ireturn, 1, .inr (.inr 0), false) := rfl
def tb_Ch_wholeWeight : sc_T := [(0, .lconst 1, 1, .inr (.inr 1), false), (1, .lstore_n 1, 1, .inl (1, 0), false), (2, .iconst 0, 1, .inr (.inr 0), false), (3, .istore_n 3, 1, .inl (3, 0), false), (4, .iload_n 3, 1, .inl (3, 0), true), (5, .aload_n 0, 1, .inl (0, 0), false), (6, .getfield 22, 3, .inl (0, 1), false), (9, .if_icmp .ge 28, 3, .inl (37, 0), false), (12, .aload_n 0, 1, .inl (0, 0), false), (13, .getfield 11, 3, .inl (0, 0), false), (16, .iload_n 3, 1, .inl (3, 0), false), (17, .aaload, 1, .inr (.inr 0), false), (18, .getfield 29, 3, .inl (2, 0), false), (21, .iconst 1, 1, .inr (.inr 0), false), (22, .if_icmp .ne 9, 3, .inl (31, 0), false), (25, .lload_n 1, 1, .inl (1, 0), false), (26, .ldc2_w 43, 3, .inr (.inr (12)), false), (29, .lmul, 1, .inr (.inr 0), false), (30, .lstore_n 1, 1, .inl (1, 0), false), (31, .iinc 3 1, 3, .inl (3, 0), false), (34, .goto (-30), 3, .inl (4, 0), false), (37, .lload_n 1, 1, .inl (1, 0), false), (38, .lreturn, 1, .inr (.inr 0), false)]
theorem tk_Ch_wholeWeight : sc_ok mq_Ch_wholeWeight tb_Ch_wholeWeight = true := by decide +kernel
theorem lk_Ch_wholeWeight_0 : sc_lk tb_Ch_wholeWeight 0 = some (.lconst 1, 1, .inr (.inr 1), false) := rfl
theorem lk_Ch_wholeWeight_1 : sc_lk tb_Ch_wholeWeight 1 = some (.lstore_n 1, 1, .inl (1, 0), false) := rfl
theorem lk_Ch_wholeWeight_2 : sc_lk tb_Ch_wholeWeight 2 = some (.iconst 0, 1, .inr (.inr 0), false) := rfl
theorem lk_Ch_wholeWeight_3 : sc_lk tb_Ch_wholeWeight 3 = some (.istore_n 3, 1, .inl (3, 0), false) := rfl
theorem lk_Ch_wholeWeight_4 : sc_lk tb_Ch_wholeWeight 4 = some (.iload_n 3, 1, .inl (3, 0), true) := rfl
theorem lk_Ch_wholeWeight_5 : sc_lk tb_Ch_wholeWeight 5 = some (.aload_n 0, 1, .inl (0, 0), false) := rfl
theorem lk_Ch_wholeWeight_6 : sc_lk tb_Ch_wholeWeight 6 = some (.getfield 22, 3, .inl (0, 1), false) := rfl
theorem lk_Ch_wholeWeight_9 : sc_lk tb_Ch_wholeWeight 9 = some (.if_icmp .ge 28, 3, .inl (37, 0), false) := rfl
theorem lk_Ch_wholeWeight_12 : sc_lk tb_Ch_wholeWeight 12 = some (.aload_n 0, 1, .inl (0, 0), false) := rfl
theorem lk_Ch_wholeWeight_13 : sc_lk tb_Ch_wholeWeight 13 = some (.getfield 11, 3, .inl (0, 0), false) := rfl
theorem lk_Ch_wholeWeight_16 : sc_lk tb_Ch_wholeWeight 16 = some (.iload_n 3, 1, .inl (3, 0), false) := rfl
theorem lk_Ch_wholeWeight_17 : sc_lk tb_Ch_wholeWeight 17 = some (.aaload, 1, .inr (.inr 0), false) := rfl
theorem lk_Ch_wholeWeight_18 : sc_lk tb_Ch_wholeWeight 18 = some (.getfield 29, 3, .inl (2, 0), false) := rfl
theorem lk_Ch_wholeWeight_21 : sc_lk tb_Ch_wholeWeight 21 = some (.iconst 1, 1, .inr (.inr 0), false) := rfl
theorem lk_Ch_wholeWeight_22 : sc_lk tb_Ch_wholeWeight 22 = some (.if_icmp .ne 9, 3, .inl (31, 0), false) := rfl
theorem lk_Ch_wholeWeight_25 : sc_lk tb_Ch_wholeWeight 25 = some (.lload_n 1, 1, .inl (1, 0), false) := rfl
theorem lk_Ch_wholeWeight_26 : sc_lk tb_Ch_wholeWeight 26 = some (.ldc2_w 43, 3, .inr (.inr (12)), false) := rfl
theorem lk_Ch_wholeWeight_29 : sc_lk tb_Ch_wholeWeight 29 = some (.lmul, 1, .inr (.inr 0), false) := rfl
theorem lk_Ch_wholeWeight_30 : sc_lk tb_Ch_wholeWeight 30 = some (.lstore_n 1, 1, .inl (1, 0), false) := rfl
theorem lk_Ch_wholeWeight_31 : sc_lk tb_Ch_wholeWeight 31 = some (.iinc 3 1, 3, .inl (3, 0), false) := rfl
theorem lk_Ch_wholeWeight_34 : sc_lk tb_Ch_wholeWeight 34 = some (.goto (-30), 3, .inl (4, 0), false) := rfl
theorem lk_Ch_wholeWeight_37 : sc_lk tb_Ch_wholeWeight 37 = some (.lload_n 1, 1, .inl (1, 0), false) := rfl
theorem lk_Ch_wholeWeight_38 : sc_lk tb_Ch_wholeWeight 38 = some (.lreturn, 1, .inr (.inr 0), false) := rfl
def tb_Ch_firstFree : sc_T := [(0, .iconst 0, 1, .inr (.inr 0), false), (1, .istore_n 1, 1, .inl (1, 0), false), (2, .iload_n 1, 1, .inl (1, 0), true), (3, .aload_n 0, 1, .inl (0, 0), false), (4, .getfield 22, 3, .inl (0, 1), false), (7, .if_icmp .ge 23, 3, .inl (30, 0), false), (10, .aload_n 0, 1, .inl (0, 0), false), (11, .getfield 11, 3, .inl (0, 0), false), (14, .iload_n 1, 1, .inl (1, 0), false), (15, .aaload, 1, .inr (.inr 0), false), (16, .invokevirtual 39, 3, .inr (.inl (2, 0, mq_No_isFree)), false), (19, .ifCond .eq 5, 3, .inl (24, 0), false), (22, .iload_n 1, 1, .inl (1, 0), false), (23, .ireturn, 1, .inr (.inr 0), false), (24, .iinc 1 1, 3, .inl (1, 0), false), (27, .goto (-25), 3, .inl (2, 0), false), (30, .bipush (-9), 2, .inr (.inr 0), false), (32, .ireturn, 1, .inr (.inr 0), false)]
theorem tk_Ch_firstFree : sc_ok mq_Ch_firstFree tb_Ch_firstFree = true := by decide +kernel
theorem lk_Ch_firstFree_0 : sc_lk tb_Ch_firstFree 0 = some (.iconst 0, 1, .inr (.inr 0), false) := rfl
theorem lk_Ch_firstFree_1 : sc_lk tb_Ch_firstFree 1 = some (.istore_n 1, 1, .inl (1, 0), false) := rfl
theorem lk_Ch_firstFree_2 : sc_lk tb_Ch_firstFree 2 = some (.iload_n 1, 1, .inl (1, 0), true) := rfl
theorem lk_Ch_firstFree_3 : sc_lk tb_Ch_firstFree 3 = some (.aload_n 0, 1, .inl (0, 0), false) := rfl
theorem lk_Ch_firstFree_4 : sc_lk tb_Ch_firstFree 4 = some (.getfield 22, 3, .inl (0, 1), false) := rfl
theorem lk_Ch_firstFree_7 : sc_lk tb_Ch_firstFree 7 = some (.if_icmp .ge 23, 3, .inl (30, 0), false) := rfl
theorem lk_Ch_firstFree_10 : sc_lk tb_Ch_firstFree 10 = some (.aload_n 0, 1, .inl (0, 0), false) := rfl
theorem lk_Ch_firstFree_11 : sc_lk tb_Ch_firstFree 11 = some (.getfield 11, 3, .inl (0, 0), false) := rfl
theorem lk_Ch_firstFree_14 : sc_lk tb_Ch_firstFree 14 = some (.iload_n 1, 1, .inl (1, 0), false) := rfl
theorem lk_Ch_firstFree_15 : sc_lk tb_Ch_firstFree 15 = some (.aaload, 1, .inr (.inr 0), false) := rfl
theorem lk_Ch_firstFree_16 : sc_lk tb_Ch_firstFree 16 = some (.invokevirtual 39, 3, .inr (.inl (2, 0, mq_No_isFree)), false) := rfl
theorem lk_Ch_firstFree_19 : sc_lk tb_Ch_firstFree 19 = some (.ifCond .eq 5, 3, .inl (24, 0), false) := rfl
theorem lk_Ch_firstFree_22 : sc_lk tb_Ch_firstFree 22 = some (.iload_n 1, 1, .inl (1, 0), false) := rfl
theorem lk_Ch_firstFree_23 : sc_lk tb_Ch_firstFree 23 = some (.ireturn, 1, .inr (.inr 0), false) := rfl
theorem lk_Ch_firstFree_24 : sc_lk tb_Ch_firstFree 24 = some (.iinc 1 1, 3, .inl (1, 0), false) := rfl
theorem lk_Ch_firstFree_27 : sc_lk tb_Ch_firstFree 27 = some (.goto (-25), 3, .inl (2, 0), false) := rfl
theorem lk_Ch_firstFree_30 : sc_lk tb_Ch_firstFree 30 = some (.bipush (-9), 2, .inr (.inr 0), false) := rfl
theorem lk_Ch_firstFree_32 : sc_lk tb_Ch_firstFree 32 = some (.ireturn, 1, .inr (.inr 0), false) := rfl
def tb_Fo_countPlans : sc_T := [(0, .aload_n 0, 1, .inl (0, 0), false), (1, .iconst 0, 1, .inr (.inr 0), false), (2, .putfield 18, 3, .inl (1, 2), false), (5, .aload_n 0, 1, .inl (0, 0), false), (6, .iconst 1, 1, .inr (.inr 0), false), (7, .putfield 22, 3, .inl (1, 3), false), (10, .iconst 0, 1, .inr (.inr 0), false), (11, .istore_n 2, 1, .inl (2, 0), false), (12, .iload_n 2, 1, .inl (2, 0), true), (13, .aload_n 1, 1, .inl (1, 0), false), (14, .getfield 25, 3, .inl (0, 1), false), (17, .if_icmp .ge 42, 3, .inl (59, 0), false), (20, .aload_n 0, 1, .inl (0, 0), false), (21, .getfield 22, 3, .inl (1, 3), false), (24, .sipush 512, 3, .inr (.inr 0), false), (27, .if_icmp .gt 32, 3, .inl (59, 0), false), (30, .aload_n 1, 1, .inl (1, 0), false), (31, .getfield 30, 3, .inl (0, 0), false), (34, .iload_n 2, 1, .inl (2, 0), false), (35, .aaload, 1, .inr (.inr 0), false), (36, .invokevirtual 34, 3, .inr (.inl (2, 0, mq_No_isFree)), false), (39, .ifCond .eq 14, 3, .inl (53, 0), false), (42, .aload_n 0, 1, .inl (0, 0), false), (43, .aload_n 1, 1, .inl (1, 0), false), (44, .aload_n 1, 1, .inl (1, 0), false), (45, .getfield 30, 3, .inl (0, 0), false), (48, .iload_n 2, 1, .inl (2, 0), false), (49, .aaload, 1, .inr (.inr 0), false), (50, .invokevirtual 40, 3, .inr (.inl (1, 2, mq_Fo_addSlots)), false), (53, .iinc 2 1, 3, .inl (2, 0), false), (56, .goto (-44), 3, .inl (12, 0), false), (59, .aload_n 0, 1, .inl (0, 0), false), (60, .getfield 22, 3, .inl (1, 3), false), (63, .ireturn, 1, .inr (.inr 0), false)]
theorem tk_Fo_countPlans : sc_ok mq_Fo_countPlans tb_Fo_countPlans = true := by decide +kernel
theorem lk_Fo_countPlans_0 : sc_lk tb_Fo_countPlans 0 = some (.aload_n 0, 1, .inl (0, 0), false) := rfl
theorem lk_Fo_countPlans_1 : sc_lk tb_Fo_countPlans 1 = some (.iconst 0, 1, .inr (.inr 0), false) := rfl
theorem lk_Fo_countPlans_2 : sc_lk tb_Fo_countPlans 2 = some (.putfield 18, 3, .inl (1, 2), false) := rfl
theorem lk_Fo_countPlans_5 : sc_lk tb_Fo_countPlans 5 = some (.aload_n 0, 1, .inl (0, 0), false) := rfl
theorem lk_Fo_countPlans_6 : sc_lk tb_Fo_countPlans 6 = some (.iconst 1, 1, .inr (.inr 0), false) := rfl
theorem lk_Fo_countPlans_7 : sc_lk tb_Fo_countPlans 7 = some (.putfield 22, 3, .inl (1, 3), false) := rfl
theorem lk_Fo_countPlans_10 : sc_lk tb_Fo_countPlans 10 = some (.iconst 0, 1, .inr (.inr 0), false) := rfl
theorem lk_Fo_countPlans_11 : sc_lk tb_Fo_countPlans 11 = some (.istore_n 2, 1, .inl (2, 0), false) := rfl
theorem lk_Fo_countPlans_12 : sc_lk tb_Fo_countPlans 12 = some (.iload_n 2, 1, .inl (2, 0), true) := rfl
theorem lk_Fo_countPlans_13 : sc_lk tb_Fo_countPlans 13 = some (.aload_n 1, 1, .inl (1, 0), false) := rfl
theorem lk_Fo_countPlans_14 : sc_lk tb_Fo_countPlans 14 = some (.getfield 25, 3, .inl (0, 1), false) := rfl
theorem lk_Fo_countPlans_17 : sc_lk tb_Fo_countPlans 17 = some (.if_icmp .ge 42, 3, .inl (59, 0), false) := rfl
theorem lk_Fo_countPlans_20 : sc_lk tb_Fo_countPlans 20 = some (.aload_n 0, 1, .inl (0, 0), false) := rfl
theorem lk_Fo_countPlans_21 : sc_lk tb_Fo_countPlans 21 = some (.getfield 22, 3, .inl (1, 3), false) := rfl
theorem lk_Fo_countPlans_24 : sc_lk tb_Fo_countPlans 24 = some (.sipush 512, 3, .inr (.inr 0), false) := rfl
theorem lk_Fo_countPlans_27 : sc_lk tb_Fo_countPlans 27 = some (.if_icmp .gt 32, 3, .inl (59, 0), false) := rfl
theorem lk_Fo_countPlans_30 : sc_lk tb_Fo_countPlans 30 = some (.aload_n 1, 1, .inl (1, 0), false) := rfl
theorem lk_Fo_countPlans_31 : sc_lk tb_Fo_countPlans 31 = some (.getfield 30, 3, .inl (0, 0), false) := rfl
theorem lk_Fo_countPlans_34 : sc_lk tb_Fo_countPlans 34 = some (.iload_n 2, 1, .inl (2, 0), false) := rfl
theorem lk_Fo_countPlans_35 : sc_lk tb_Fo_countPlans 35 = some (.aaload, 1, .inr (.inr 0), false) := rfl
theorem lk_Fo_countPlans_36 : sc_lk tb_Fo_countPlans 36 = some (.invokevirtual 34, 3, .inr (.inl (2, 0, mq_No_isFree)), false) := rfl
theorem lk_Fo_countPlans_39 : sc_lk tb_Fo_countPlans 39 = some (.ifCond .eq 14, 3, .inl (53, 0), false) := rfl
theorem lk_Fo_countPlans_42 : sc_lk tb_Fo_countPlans 42 = some (.aload_n 0, 1, .inl (0, 0), false) := rfl
theorem lk_Fo_countPlans_43 : sc_lk tb_Fo_countPlans 43 = some (.aload_n 1, 1, .inl (1, 0), false) := rfl
theorem lk_Fo_countPlans_44 : sc_lk tb_Fo_countPlans 44 = some (.aload_n 1, 1, .inl (1, 0), false) := rfl
theorem lk_Fo_countPlans_45 : sc_lk tb_Fo_countPlans 45 = some (.getfield 30, 3, .inl (0, 0), false) := rfl
theorem lk_Fo_countPlans_48 : sc_lk tb_Fo_countPlans 48 = some (.iload_n 2, 1, .inl (2, 0), false) := rfl
theorem lk_Fo_countPlans_49 : sc_lk tb_Fo_countPlans 49 = some (.aaload, 1, .inr (.inr 0), false) := rfl
theorem lk_Fo_countPlans_50 : sc_lk tb_Fo_countPlans 50 = some (.invokevirtual 40, 3, .inr (.inl (1, 2, mq_Fo_addSlots)), false) := rfl
theorem lk_Fo_countPlans_53 : sc_lk tb_Fo_countPlans 53 = some (.iinc 2 1, 3, .inl (2, 0), false) := rfl
theorem lk_Fo_countPlans_56 : sc_lk tb_Fo_countPlans 56 = some (.goto (-44), 3, .inl (12, 0), false) := rfl
theorem lk_Fo_countPlans_59 : sc_lk tb_Fo_countPlans 59 = some (.aload_n 0, 1, .inl (0, 0), false) := rfl
theorem lk_Fo_countPlans_60 : sc_lk tb_Fo_countPlans 60 = some (.getfield 22, 3, .inl (1, 3), false) := rfl
theorem lk_Fo_countPlans_63 : sc_lk tb_Fo_countPlans 63 = some (.ireturn, 1, .inr (.inr 0), false) := rfl
def tb_Fo_addSlots : sc_T := [(0, .aload_n 0, 1, .inl (0, 0), false), (1, .aload_n 1, 1, .inl (1, 0), false), (2, .aload_n 2, 1, .inl (2, 0), false), (3, .invokevirtual 44, 3, .inr (.inl (1, 2, mq_Fo_sightWays)), false), (6, .istore_n 3, 1, .inl (3, 0), false), (7, .iconst 0, 1, .inr (.inr 0), false), (8, .istore 4, 2, .inl (4, 0), false), (10, .iload 4, 2, .inl (4, 0), true), (12, .iload_n 3, 1, .inl (3, 0), false), (13, .if_icmp .ge 64, 3, .inl (77, 0), false), (16, .aload_n 0, 1, .inl (0, 0), false), (17, .getfield 22, 3, .inl (1, 3), false), (20, .sipush 512, 3, .inr (.inr 0), false), (23, .if_icmp .gt 54, 3, .inl (77, 0), false), (26, .aload_n 0, 1, .inl (0, 0), false), (27, .dup, 1, .inr (.inr 0), false), (28, .getfield 22, 3, .inl (1, 3), false), (31, .aload_n 2, 1, .inl (2, 0), false), (32, .getfield 48, 3, .inl (2, 1), false), (35, .imul, 1, .inr (.inr 0), false), (36, .putfield 22, 3, .inl (1, 3), false), (39, .aload_n 0, 1, .inl (0, 0), false), (40, .getfield 18, 3, .inl (1, 2), false), (43, .bipush 9, 2, .inr (.inr 0), false), (45, .if_icmp .ge 16, 3, .inl (61, 0), false), (48, .aload_n 0, 1, .inl (0, 0), false), (49, .getfield 9, 3, .inl (1, 0), false), (52, .aload_n 0, 1, .inl (0, 0), false), (53, .getfield 18, 3, .inl (1, 2), false), (56, .aload_n 2, 1, .inl (2, 0), false), (57, .getfield 48, 3, .inl (2, 1), false), (60, .iastore, 1, .inr (.inr 0), false), (61, .aload_n 0, 1, .inl (0, 0), false), (62, .dup, 1, .inr (.inr 0), false), (63, .getfield 18, 3, .inl (1, 2), false), (66, .iconst 1, 1, .inr (.inr 0), false), (67, .iadd, 1, .inr (.inr 0), false), (68, .putfield 18, 3, .inl (1, 2), false), (71, .iinc 4 1, 3, .inl (4, 0), false), (74, .goto (-64), 3, .inl (10, 0), false), (77, .return_, 1, .inr (.inr 0), false)]
theorem tk_Fo_addSlots : sc_ok mq_Fo_addSlots tb_Fo_addSlots = true := by decide +kernel
theorem lk_Fo_addSlots_0 : sc_lk tb_Fo_addSlots 0 = some (.aload_n 0, 1, .inl (0, 0), false) := rfl
theorem lk_Fo_addSlots_1 : sc_lk tb_Fo_addSlots 1 = some (.aload_n 1, 1, .inl (1, 0), false) := rfl
theorem lk_Fo_addSlots_2 : sc_lk tb_Fo_addSlots 2 = some (.aload_n 2, 1, .inl (2, 0), false) := rfl
theorem lk_Fo_addSlots_3 : sc_lk tb_Fo_addSlots 3 = some (.invokevirtual 44, 3, .inr (.inl (1, 2, mq_Fo_sightWays)), false) := rfl
theorem lk_Fo_addSlots_6 : sc_lk tb_Fo_addSlots 6 = some (.istore_n 3, 1, .inl (3, 0), false) := rfl
theorem lk_Fo_addSlots_7 : sc_lk tb_Fo_addSlots 7 = some (.iconst 0, 1, .inr (.inr 0), false) := rfl
theorem lk_Fo_addSlots_8 : sc_lk tb_Fo_addSlots 8 = some (.istore 4, 2, .inl (4, 0), false) := rfl
theorem lk_Fo_addSlots_10 : sc_lk tb_Fo_addSlots 10 = some (.iload 4, 2, .inl (4, 0), true) := rfl
theorem lk_Fo_addSlots_12 : sc_lk tb_Fo_addSlots 12 = some (.iload_n 3, 1, .inl (3, 0), false) := rfl
theorem lk_Fo_addSlots_13 : sc_lk tb_Fo_addSlots 13 = some (.if_icmp .ge 64, 3, .inl (77, 0), false) := rfl
theorem lk_Fo_addSlots_16 : sc_lk tb_Fo_addSlots 16 = some (.aload_n 0, 1, .inl (0, 0), false) := rfl
theorem lk_Fo_addSlots_17 : sc_lk tb_Fo_addSlots 17 = some (.getfield 22, 3, .inl (1, 3), false) := rfl
theorem lk_Fo_addSlots_20 : sc_lk tb_Fo_addSlots 20 = some (.sipush 512, 3, .inr (.inr 0), false) := rfl
theorem lk_Fo_addSlots_23 : sc_lk tb_Fo_addSlots 23 = some (.if_icmp .gt 54, 3, .inl (77, 0), false) := rfl
theorem lk_Fo_addSlots_26 : sc_lk tb_Fo_addSlots 26 = some (.aload_n 0, 1, .inl (0, 0), false) := rfl
theorem lk_Fo_addSlots_27 : sc_lk tb_Fo_addSlots 27 = some (.dup, 1, .inr (.inr 0), false) := rfl
theorem lk_Fo_addSlots_28 : sc_lk tb_Fo_addSlots 28 = some (.getfield 22, 3, .inl (1, 3), false) := rfl
theorem lk_Fo_addSlots_31 : sc_lk tb_Fo_addSlots 31 = some (.aload_n 2, 1, .inl (2, 0), false) := rfl
theorem lk_Fo_addSlots_32 : sc_lk tb_Fo_addSlots 32 = some (.getfield 48, 3, .inl (2, 1), false) := rfl
theorem lk_Fo_addSlots_35 : sc_lk tb_Fo_addSlots 35 = some (.imul, 1, .inr (.inr 0), false) := rfl
theorem lk_Fo_addSlots_36 : sc_lk tb_Fo_addSlots 36 = some (.putfield 22, 3, .inl (1, 3), false) := rfl
theorem lk_Fo_addSlots_39 : sc_lk tb_Fo_addSlots 39 = some (.aload_n 0, 1, .inl (0, 0), false) := rfl
theorem lk_Fo_addSlots_40 : sc_lk tb_Fo_addSlots 40 = some (.getfield 18, 3, .inl (1, 2), false) := rfl
theorem lk_Fo_addSlots_43 : sc_lk tb_Fo_addSlots 43 = some (.bipush 9, 2, .inr (.inr 0), false) := rfl
theorem lk_Fo_addSlots_45 : sc_lk tb_Fo_addSlots 45 = some (.if_icmp .ge 16, 3, .inl (61, 0), false) := rfl
theorem lk_Fo_addSlots_48 : sc_lk tb_Fo_addSlots 48 = some (.aload_n 0, 1, .inl (0, 0), false) := rfl
theorem lk_Fo_addSlots_49 : sc_lk tb_Fo_addSlots 49 = some (.getfield 9, 3, .inl (1, 0), false) := rfl
theorem lk_Fo_addSlots_52 : sc_lk tb_Fo_addSlots 52 = some (.aload_n 0, 1, .inl (0, 0), false) := rfl
theorem lk_Fo_addSlots_53 : sc_lk tb_Fo_addSlots 53 = some (.getfield 18, 3, .inl (1, 2), false) := rfl
theorem lk_Fo_addSlots_56 : sc_lk tb_Fo_addSlots 56 = some (.aload_n 2, 1, .inl (2, 0), false) := rfl
theorem lk_Fo_addSlots_57 : sc_lk tb_Fo_addSlots 57 = some (.getfield 48, 3, .inl (2, 1), false) := rfl
theorem lk_Fo_addSlots_60 : sc_lk tb_Fo_addSlots 60 = some (.iastore, 1, .inr (.inr 0), false) := rfl
theorem lk_Fo_addSlots_61 : sc_lk tb_Fo_addSlots 61 = some (.aload_n 0, 1, .inl (0, 0), false) := rfl
theorem lk_Fo_addSlots_62 : sc_lk tb_Fo_addSlots 62 = some (.dup, 1, .inr (.inr 0), false) := rfl
theorem lk_Fo_addSlots_63 : sc_lk tb_Fo_addSlots 63 = some (.getfield 18, 3, .inl (1, 2), false) := rfl
theorem lk_Fo_addSlots_66 : sc_lk tb_Fo_addSlots 66 = some (.iconst 1, 1, .inr (.inr 0), false) := rfl
theorem lk_Fo_addSlots_67 : sc_lk tb_Fo_addSlots 67 = some (.iadd, 1, .inr (.inr 0), false) := rfl
theorem lk_Fo_addSlots_68 : sc_lk tb_Fo_addSlots 68 = some (.putfield 18, 3, .inl (1, 2), false) := rfl
theorem lk_Fo_addSlots_71 : sc_lk tb_Fo_addSlots 71 = some (.iinc 4 1, 3, .inl (4, 0), false) := rfl
theorem lk_Fo_addSlots_74 : sc_lk tb_Fo_addSlots 74 = some (.goto (-64), 3, .inl (10, 0), false) := rfl
theorem lk_Fo_addSlots_77 : sc_lk tb_Fo_addSlots 77 = some (.return_, 1, .inr (.inr 0), false) := rfl
def tb_Fo_sightWays : sc_T := [(0, .iconst 1, 1, .inr (.inr 0), false), (1, .istore_n 3, 1, .inl (3, 0), false), (2, .iconst 0, 1, .inr (.inr 0), false), (3, .istore 4, 2, .inl (4, 0), false), (5, .iload 4, 2, .inl (4, 0), true), (7, .aload_n 1, 1, .inl (1, 0), false), (8, .getfield 25, 3, .inl (0, 1), false), (11, .if_icmp .ge 31, 3, .inl (42, 0), false), (14, .aload_n 2, 1, .inl (2, 0), false), (15, .iload 4, 2, .inl (4, 0), false), (17, .invokevirtual 51, 3, .inr (.inl (2, 1, mq_No_sees)), false), (20, .ifCond .eq 16, 3, .inl (36, 0), false), (23, .iload_n 3, 1, .inl (3, 0), false), (24, .aload_n 1, 1, .inl (1, 0), false), (25, .getfield 30, 3, .inl (0, 0), false), (28, .iload 4, 2, .inl (4, 0), false), (30, .aaload, 1, .inr (.inr 0), false), (31, .getfield 48, 3, .inl (2, 1), false), (34, .imul, 1, .inr (.inr 0), false), (35, .istore_n 3, 1, .inl (3, 0), false), (36, .iinc 4 1, 3, .inl (4, 0), false), (39, .goto (-34), 3, .inl (5, 0), false), (42, .iload_n 3, 1, .inl (3, 0), false), (43, .ireturn, 1, .inr (.inr 0), false)]
theorem tk_Fo_sightWays : sc_ok mq_Fo_sightWays tb_Fo_sightWays = true := by decide +kernel
theorem lk_Fo_sightWays_0 : sc_lk tb_Fo_sightWays 0 = some (.iconst 1, 1, .inr (.inr 0), false) := rfl
theorem lk_Fo_sightWays_1 : sc_lk tb_Fo_sightWays 1 = some (.istore_n 3, 1, .inl (3, 0), false) := rfl
theorem lk_Fo_sightWays_2 : sc_lk tb_Fo_sightWays 2 = some (.iconst 0, 1, .inr (.inr 0), false) := rfl
theorem lk_Fo_sightWays_3 : sc_lk tb_Fo_sightWays 3 = some (.istore 4, 2, .inl (4, 0), false) := rfl
theorem lk_Fo_sightWays_5 : sc_lk tb_Fo_sightWays 5 = some (.iload 4, 2, .inl (4, 0), true) := rfl
theorem lk_Fo_sightWays_7 : sc_lk tb_Fo_sightWays 7 = some (.aload_n 1, 1, .inl (1, 0), false) := rfl
theorem lk_Fo_sightWays_8 : sc_lk tb_Fo_sightWays 8 = some (.getfield 25, 3, .inl (0, 1), false) := rfl
theorem lk_Fo_sightWays_11 : sc_lk tb_Fo_sightWays 11 = some (.if_icmp .ge 31, 3, .inl (42, 0), false) := rfl
theorem lk_Fo_sightWays_14 : sc_lk tb_Fo_sightWays 14 = some (.aload_n 2, 1, .inl (2, 0), false) := rfl
theorem lk_Fo_sightWays_15 : sc_lk tb_Fo_sightWays 15 = some (.iload 4, 2, .inl (4, 0), false) := rfl
theorem lk_Fo_sightWays_17 : sc_lk tb_Fo_sightWays 17 = some (.invokevirtual 51, 3, .inr (.inl (2, 1, mq_No_sees)), false) := rfl
theorem lk_Fo_sightWays_20 : sc_lk tb_Fo_sightWays 20 = some (.ifCond .eq 16, 3, .inl (36, 0), false) := rfl
theorem lk_Fo_sightWays_23 : sc_lk tb_Fo_sightWays 23 = some (.iload_n 3, 1, .inl (3, 0), false) := rfl
theorem lk_Fo_sightWays_24 : sc_lk tb_Fo_sightWays 24 = some (.aload_n 1, 1, .inl (1, 0), false) := rfl
theorem lk_Fo_sightWays_25 : sc_lk tb_Fo_sightWays 25 = some (.getfield 30, 3, .inl (0, 0), false) := rfl
theorem lk_Fo_sightWays_28 : sc_lk tb_Fo_sightWays 28 = some (.iload 4, 2, .inl (4, 0), false) := rfl
theorem lk_Fo_sightWays_30 : sc_lk tb_Fo_sightWays 30 = some (.aaload, 1, .inr (.inr 0), false) := rfl
theorem lk_Fo_sightWays_31 : sc_lk tb_Fo_sightWays 31 = some (.getfield 48, 3, .inl (2, 1), false) := rfl
theorem lk_Fo_sightWays_34 : sc_lk tb_Fo_sightWays 34 = some (.imul, 1, .inr (.inr 0), false) := rfl
theorem lk_Fo_sightWays_35 : sc_lk tb_Fo_sightWays 35 = some (.istore_n 3, 1, .inl (3, 0), false) := rfl
theorem lk_Fo_sightWays_36 : sc_lk tb_Fo_sightWays 36 = some (.iinc 4 1, 3, .inl (4, 0), false) := rfl
theorem lk_Fo_sightWays_39 : sc_lk tb_Fo_sightWays 39 = some (.goto (-34), 3, .inl (5, 0), false) := rfl
theorem lk_Fo_sightWays_42 : sc_lk tb_Fo_sightWays 42 = some (.iload_n 3, 1, .inl (3, 0), false) := rfl
theorem lk_Fo_sightWays_43 : sc_lk tb_Fo_sightWays 43 = some (.ireturn, 1, .inr (.inr 0), false) := rfl
def tb_Fo_greatest : sc_T := [(0, .aload_n 1, 1, .inl (1, 0), false), (1, .invokevirtual 59, 3, .inr (.inl (3, 0, mq_Wo_takeChart)), false), (4, .aload_n 1, 1, .inl (1, 0), false), (5, .invokevirtual 64, 3, .inr (.inl (3, 0, mq_Wo_layOut)), false), (8, .aload_n 0, 1, .inl (0, 0), false), (9, .aload_n 1, 1, .inl (1, 0), false), (10, .invokevirtual 67, 3, .inr (.inl (1, 1, mq_Fo_layNeeds)), false), (13, .aload_n 0, 1, .inl (0, 0), false), (14, .aload_n 1, 1, .inl (1, 0), false), (15, .aload_n 0, 1, .inl (0, 0), false), (16, .iconst 0, 1, .inr (.inr 0), false), (17, .invokevirtual 71, 3, .inr (.inl (1, 1, mq_Fo_planBits)), false), (20, .invokevirtual 74, 3, .inr (.inl (1, 2, mq_Fo_meanOf)), false), (23, .lstore_n 2, 1, .inl (2, 0), false), (24, .iconst 1, 1, .inr (.inr 0), false), (25, .istore 4, 2, .inl (4, 0), false), (27, .iload 4, 2, .inl (4, 0), true), (29, .aload_n 0, 1, .inl (0, 0), false), (30, .getfield 22, 3, .inl (1, 3), false), (33, .if_icmp .ge 25, 3, .inl (58, 0), false), (36, .lload_n 2, 1, .inl (2, 0), false), (37, .aload_n 0, 1, .inl (0, 0), false), (38, .aload_n 1, 1, .inl (1, 0), false), (39, .aload_n 0, 1, .inl (0, 0), false), (40, .iload 4, 2, .inl (4, 0), false), (42, .invokevirtual 71, 3, .inr (.inl (1, 1, mq_Fo_planBits)), false), (45, .invokevirtual 74, 3, .inr (.inl (1, 2, mq_Fo_meanOf)), false), (48, .invokestatic 78, 3, .inr (.inl (100, 2, mq_Ma_maxJ)), false), (51, .lstore_n 2, 1, .inl (2, 0), false), (52, .iinc 4 1, 3, .inl (4, 0), false), (55, .goto (-28), 3, .inl (27, 0), false), (58, .lload_n 2, 1, .inl (2, 0), false), (59, .lreturn, 1, .inr (.inr 0), false)]
theorem tk_Fo_greatest : sc_ok mq_Fo_greatest tb_Fo_greatest = true := by decide +kernel
theorem lk_Fo_greatest_0 : sc_lk tb_Fo_greatest 0 = some (.aload_n 1, 1, .inl (1, 0), false) := rfl
theorem lk_Fo_greatest_1 : sc_lk tb_Fo_greatest 1 = some (.invokevirtual 59, 3, .inr (.inl (3, 0, mq_Wo_takeChart)), false) := rfl
theorem lk_Fo_greatest_4 : sc_lk tb_Fo_greatest 4 = some (.aload_n 1, 1, .inl (1, 0), false) := rfl
theorem lk_Fo_greatest_5 : sc_lk tb_Fo_greatest 5 = some (.invokevirtual 64, 3, .inr (.inl (3, 0, mq_Wo_layOut)), false) := rfl
theorem lk_Fo_greatest_8 : sc_lk tb_Fo_greatest 8 = some (.aload_n 0, 1, .inl (0, 0), false) := rfl
theorem lk_Fo_greatest_9 : sc_lk tb_Fo_greatest 9 = some (.aload_n 1, 1, .inl (1, 0), false) := rfl
theorem lk_Fo_greatest_10 : sc_lk tb_Fo_greatest 10 = some (.invokevirtual 67, 3, .inr (.inl (1, 1, mq_Fo_layNeeds)), false) := rfl
theorem lk_Fo_greatest_13 : sc_lk tb_Fo_greatest 13 = some (.aload_n 0, 1, .inl (0, 0), false) := rfl
theorem lk_Fo_greatest_14 : sc_lk tb_Fo_greatest 14 = some (.aload_n 1, 1, .inl (1, 0), false) := rfl
theorem lk_Fo_greatest_15 : sc_lk tb_Fo_greatest 15 = some (.aload_n 0, 1, .inl (0, 0), false) := rfl
theorem lk_Fo_greatest_16 : sc_lk tb_Fo_greatest 16 = some (.iconst 0, 1, .inr (.inr 0), false) := rfl
theorem lk_Fo_greatest_17 : sc_lk tb_Fo_greatest 17 = some (.invokevirtual 71, 3, .inr (.inl (1, 1, mq_Fo_planBits)), false) := rfl
theorem lk_Fo_greatest_20 : sc_lk tb_Fo_greatest 20 = some (.invokevirtual 74, 3, .inr (.inl (1, 2, mq_Fo_meanOf)), false) := rfl
theorem lk_Fo_greatest_23 : sc_lk tb_Fo_greatest 23 = some (.lstore_n 2, 1, .inl (2, 0), false) := rfl
theorem lk_Fo_greatest_24 : sc_lk tb_Fo_greatest 24 = some (.iconst 1, 1, .inr (.inr 0), false) := rfl
theorem lk_Fo_greatest_25 : sc_lk tb_Fo_greatest 25 = some (.istore 4, 2, .inl (4, 0), false) := rfl
theorem lk_Fo_greatest_27 : sc_lk tb_Fo_greatest 27 = some (.iload 4, 2, .inl (4, 0), true) := rfl
theorem lk_Fo_greatest_29 : sc_lk tb_Fo_greatest 29 = some (.aload_n 0, 1, .inl (0, 0), false) := rfl
theorem lk_Fo_greatest_30 : sc_lk tb_Fo_greatest 30 = some (.getfield 22, 3, .inl (1, 3), false) := rfl
theorem lk_Fo_greatest_33 : sc_lk tb_Fo_greatest 33 = some (.if_icmp .ge 25, 3, .inl (58, 0), false) := rfl
theorem lk_Fo_greatest_36 : sc_lk tb_Fo_greatest 36 = some (.lload_n 2, 1, .inl (2, 0), false) := rfl
theorem lk_Fo_greatest_37 : sc_lk tb_Fo_greatest 37 = some (.aload_n 0, 1, .inl (0, 0), false) := rfl
theorem lk_Fo_greatest_38 : sc_lk tb_Fo_greatest 38 = some (.aload_n 1, 1, .inl (1, 0), false) := rfl
theorem lk_Fo_greatest_39 : sc_lk tb_Fo_greatest 39 = some (.aload_n 0, 1, .inl (0, 0), false) := rfl
theorem lk_Fo_greatest_40 : sc_lk tb_Fo_greatest 40 = some (.iload 4, 2, .inl (4, 0), false) := rfl
theorem lk_Fo_greatest_42 : sc_lk tb_Fo_greatest 42 = some (.invokevirtual 71, 3, .inr (.inl (1, 1, mq_Fo_planBits)), false) := rfl
theorem lk_Fo_greatest_45 : sc_lk tb_Fo_greatest 45 = some (.invokevirtual 74, 3, .inr (.inl (1, 2, mq_Fo_meanOf)), false) := rfl
theorem lk_Fo_greatest_48 : sc_lk tb_Fo_greatest 48 = some (.invokestatic 78, 3, .inr (.inl (100, 2, mq_Ma_maxJ)), false) := rfl
theorem lk_Fo_greatest_51 : sc_lk tb_Fo_greatest 51 = some (.lstore_n 2, 1, .inl (2, 0), false) := rfl
theorem lk_Fo_greatest_52 : sc_lk tb_Fo_greatest 52 = some (.iinc 4 1, 3, .inl (4, 0), false) := rfl
theorem lk_Fo_greatest_55 : sc_lk tb_Fo_greatest 55 = some (.goto (-28), 3, .inl (27, 0), false) := rfl
theorem lk_Fo_greatest_58 : sc_lk tb_Fo_greatest 58 = some (.lload_n 2, 1, .inl (2, 0), false) := rfl
theorem lk_Fo_greatest_59 : sc_lk tb_Fo_greatest 59 = some (.lreturn, 1, .inr (.inr 0), false) := rfl
def tb_Fo_layNeeds : sc_T := [(0, .aload_n 1, 1, .inl (1, 0), false), (1, .getfield 84, 3, .inl (3, 0), false), (4, .astore_n 2, 1, .inl (2, 0), false), (5, .aload_n 0, 1, .inl (0, 0), false), (6, .getfield 15, 3, .inl (1, 1), false), (9, .iconst 0, 1, .inr (.inr 0), false), (10, .invokestatic 88, 3, .inr (.inl (100, 2, mq_Ar_fillI)), false), (13, .iconst 0, 1, .inr (.inr 0), false), (14, .istore_n 3, 1, .inl (3, 0), false), (15, .iconst 0, 1, .inr (.inr 0), false), (16, .istore 4, 2, .inl (4, 0), false), (18, .iload 4, 2, .inl (4, 0), true), (20, .aload_n 2, 1, .inl (2, 0), false), (21, .getfield 25, 3, .inl (0, 1), false), (24, .if_icmp .ge 88, 3, .inl (112, 0), false), (27, .aload_n 2, 1, .inl (2, 0), false), (28, .getfield 30, 3, .inl (0, 0), false), (31, .iload 4, 2, .inl (4, 0), false), (33, .aaload, 1, .inr (.inr 0), false), (34, .astore 5, 2, .inl (5, 0), false), (36, .aload 5, 2, .inl (5, 0), false), (38, .invokevirtual 34, 3, .inr (.inl (2, 0, mq_No_isFree)), false), (41, .ifCond .ne 6, 3, .inl (47, 0), false), (44, .goto 62, 3, .inl (106, 0), false), (47, .iconst 0, 1, .inr (.inr 0), false), (48, .istore 6, 2, .inl (6, 0), false), (50, .iload 6, 2, .inl (6, 0), true), (52, .aload_n 1, 1, .inl (1, 0), false), (53, .getfield 94, 3, .inl (3, 10), false), (56, .if_icmp .ge 40, 3, .inl (96, 0), false), (59, .aload_n 0, 1, .inl (0, 0), false), (60, .getfield 15, 3, .inl (1, 1), false), (63, .iload 6, 2, .inl (6, 0), false), (65, .dup2, 1, .inr (.inr 0), false), (66, .iaload, 1, .inr (.inr 0), false), (67, .iload_n 3, 1, .inl (3, 0), false), (68, .aload_n 0, 1, .inl (0, 0), false), (69, .aload_n 2, 1, .inl (2, 0), false), (70, .aload 5, 2, .inl (5, 0), false), (72, .iload 6, 2, .inl (6, 0), false), (74, .invokevirtual 97, 3, .inr (.inl (1, 3, mq_Fo_wayIn)), false), (77, .iadd, 1, .inr (.inr 0), false), (78, .aload 5, 2, .inl (5, 0), false), (80, .iload 6, 2, .inl (6, 0), false), (82, .invokevirtual 55, 3, .inr (.inl (2, 1, mq_No_stateIn)), false), (85, .invokestatic 101, 3, .inr (.inl (100, 2, mq_Fo_bit)), false), (88, .ior, 1, .inr (.inr 0), false), (89, .iastore, 1, .inr (.inr 0), false), (90, .iinc 6 1, 3, .inl (6, 0), false), (93, .goto (-43), 3, .inl (50, 0), false), (96, .iload_n 3, 1, .inl (3, 0), false), (97, .aload_n 0, 1, .inl (0, 0), false), (98, .aload_n 2, 1, .inl (2, 0), false), (99, .aload 5, 2, .inl (5, 0), false), (101, .invokevirtual 44, 3, .inr (.inl (1, 2, mq_Fo_sightWays)), false), (104, .iadd, 1, .inr (.inr 0), false), (105, .istore_n 3, 1, .inl (3, 0), false), (106, .iinc 4 1, 3, .inl (4, 0), false), (109, .goto (-91), 3, .inl (18, 0), false), (112, .return_, 1, .inr (.inr 0), false)]
theorem tk_Fo_layNeeds : sc_ok mq_Fo_layNeeds tb_Fo_layNeeds = true := by decide +kernel
theorem lk_Fo_layNeeds_0 : sc_lk tb_Fo_layNeeds 0 = some (.aload_n 1, 1, .inl (1, 0), false) := rfl
theorem lk_Fo_layNeeds_1 : sc_lk tb_Fo_layNeeds 1 = some (.getfield 84, 3, .inl (3, 0), false) := rfl
theorem lk_Fo_layNeeds_4 : sc_lk tb_Fo_layNeeds 4 = some (.astore_n 2, 1, .inl (2, 0), false) := rfl
theorem lk_Fo_layNeeds_5 : sc_lk tb_Fo_layNeeds 5 = some (.aload_n 0, 1, .inl (0, 0), false) := rfl
theorem lk_Fo_layNeeds_6 : sc_lk tb_Fo_layNeeds 6 = some (.getfield 15, 3, .inl (1, 1), false) := rfl
theorem lk_Fo_layNeeds_9 : sc_lk tb_Fo_layNeeds 9 = some (.iconst 0, 1, .inr (.inr 0), false) := rfl
theorem lk_Fo_layNeeds_10 : sc_lk tb_Fo_layNeeds 10 = some (.invokestatic 88, 3, .inr (.inl (100, 2, mq_Ar_fillI)), false) := rfl
theorem lk_Fo_layNeeds_13 : sc_lk tb_Fo_layNeeds 13 = some (.iconst 0, 1, .inr (.inr 0), false) := rfl
theorem lk_Fo_layNeeds_14 : sc_lk tb_Fo_layNeeds 14 = some (.istore_n 3, 1, .inl (3, 0), false) := rfl
theorem lk_Fo_layNeeds_15 : sc_lk tb_Fo_layNeeds 15 = some (.iconst 0, 1, .inr (.inr 0), false) := rfl
theorem lk_Fo_layNeeds_16 : sc_lk tb_Fo_layNeeds 16 = some (.istore 4, 2, .inl (4, 0), false) := rfl
theorem lk_Fo_layNeeds_18 : sc_lk tb_Fo_layNeeds 18 = some (.iload 4, 2, .inl (4, 0), true) := rfl
theorem lk_Fo_layNeeds_20 : sc_lk tb_Fo_layNeeds 20 = some (.aload_n 2, 1, .inl (2, 0), false) := rfl
theorem lk_Fo_layNeeds_21 : sc_lk tb_Fo_layNeeds 21 = some (.getfield 25, 3, .inl (0, 1), false) := rfl
theorem lk_Fo_layNeeds_24 : sc_lk tb_Fo_layNeeds 24 = some (.if_icmp .ge 88, 3, .inl (112, 0), false) := rfl
theorem lk_Fo_layNeeds_27 : sc_lk tb_Fo_layNeeds 27 = some (.aload_n 2, 1, .inl (2, 0), false) := rfl
theorem lk_Fo_layNeeds_28 : sc_lk tb_Fo_layNeeds 28 = some (.getfield 30, 3, .inl (0, 0), false) := rfl
theorem lk_Fo_layNeeds_31 : sc_lk tb_Fo_layNeeds 31 = some (.iload 4, 2, .inl (4, 0), false) := rfl
theorem lk_Fo_layNeeds_33 : sc_lk tb_Fo_layNeeds 33 = some (.aaload, 1, .inr (.inr 0), false) := rfl
theorem lk_Fo_layNeeds_34 : sc_lk tb_Fo_layNeeds 34 = some (.astore 5, 2, .inl (5, 0), false) := rfl
theorem lk_Fo_layNeeds_36 : sc_lk tb_Fo_layNeeds 36 = some (.aload 5, 2, .inl (5, 0), false) := rfl
theorem lk_Fo_layNeeds_38 : sc_lk tb_Fo_layNeeds 38 = some (.invokevirtual 34, 3, .inr (.inl (2, 0, mq_No_isFree)), false) := rfl
theorem lk_Fo_layNeeds_41 : sc_lk tb_Fo_layNeeds 41 = some (.ifCond .ne 6, 3, .inl (47, 0), false) := rfl
theorem lk_Fo_layNeeds_44 : sc_lk tb_Fo_layNeeds 44 = some (.goto 62, 3, .inl (106, 0), false) := rfl
theorem lk_Fo_layNeeds_47 : sc_lk tb_Fo_layNeeds 47 = some (.iconst 0, 1, .inr (.inr 0), false) := rfl
theorem lk_Fo_layNeeds_48 : sc_lk tb_Fo_layNeeds 48 = some (.istore 6, 2, .inl (6, 0), false) := rfl
theorem lk_Fo_layNeeds_50 : sc_lk tb_Fo_layNeeds 50 = some (.iload 6, 2, .inl (6, 0), true) := rfl
theorem lk_Fo_layNeeds_52 : sc_lk tb_Fo_layNeeds 52 = some (.aload_n 1, 1, .inl (1, 0), false) := rfl
theorem lk_Fo_layNeeds_53 : sc_lk tb_Fo_layNeeds 53 = some (.getfield 94, 3, .inl (3, 10), false) := rfl
theorem lk_Fo_layNeeds_56 : sc_lk tb_Fo_layNeeds 56 = some (.if_icmp .ge 40, 3, .inl (96, 0), false) := rfl
theorem lk_Fo_layNeeds_59 : sc_lk tb_Fo_layNeeds 59 = some (.aload_n 0, 1, .inl (0, 0), false) := rfl
theorem lk_Fo_layNeeds_60 : sc_lk tb_Fo_layNeeds 60 = some (.getfield 15, 3, .inl (1, 1), false) := rfl
theorem lk_Fo_layNeeds_63 : sc_lk tb_Fo_layNeeds 63 = some (.iload 6, 2, .inl (6, 0), false) := rfl
theorem lk_Fo_layNeeds_65 : sc_lk tb_Fo_layNeeds 65 = some (.dup2, 1, .inr (.inr 0), false) := rfl
theorem lk_Fo_layNeeds_66 : sc_lk tb_Fo_layNeeds 66 = some (.iaload, 1, .inr (.inr 0), false) := rfl
theorem lk_Fo_layNeeds_67 : sc_lk tb_Fo_layNeeds 67 = some (.iload_n 3, 1, .inl (3, 0), false) := rfl
theorem lk_Fo_layNeeds_68 : sc_lk tb_Fo_layNeeds 68 = some (.aload_n 0, 1, .inl (0, 0), false) := rfl
theorem lk_Fo_layNeeds_69 : sc_lk tb_Fo_layNeeds 69 = some (.aload_n 2, 1, .inl (2, 0), false) := rfl
theorem lk_Fo_layNeeds_70 : sc_lk tb_Fo_layNeeds 70 = some (.aload 5, 2, .inl (5, 0), false) := rfl
theorem lk_Fo_layNeeds_72 : sc_lk tb_Fo_layNeeds 72 = some (.iload 6, 2, .inl (6, 0), false) := rfl
theorem lk_Fo_layNeeds_74 : sc_lk tb_Fo_layNeeds 74 = some (.invokevirtual 97, 3, .inr (.inl (1, 3, mq_Fo_wayIn)), false) := rfl
theorem lk_Fo_layNeeds_77 : sc_lk tb_Fo_layNeeds 77 = some (.iadd, 1, .inr (.inr 0), false) := rfl
theorem lk_Fo_layNeeds_78 : sc_lk tb_Fo_layNeeds 78 = some (.aload 5, 2, .inl (5, 0), false) := rfl
theorem lk_Fo_layNeeds_80 : sc_lk tb_Fo_layNeeds 80 = some (.iload 6, 2, .inl (6, 0), false) := rfl
theorem lk_Fo_layNeeds_82 : sc_lk tb_Fo_layNeeds 82 = some (.invokevirtual 55, 3, .inr (.inl (2, 1, mq_No_stateIn)), false) := rfl
theorem lk_Fo_layNeeds_85 : sc_lk tb_Fo_layNeeds 85 = some (.invokestatic 101, 3, .inr (.inl (100, 2, mq_Fo_bit)), false) := rfl
theorem lk_Fo_layNeeds_88 : sc_lk tb_Fo_layNeeds 88 = some (.ior, 1, .inr (.inr 0), false) := rfl
theorem lk_Fo_layNeeds_89 : sc_lk tb_Fo_layNeeds 89 = some (.iastore, 1, .inr (.inr 0), false) := rfl
theorem lk_Fo_layNeeds_90 : sc_lk tb_Fo_layNeeds 90 = some (.iinc 6 1, 3, .inl (6, 0), false) := rfl
theorem lk_Fo_layNeeds_93 : sc_lk tb_Fo_layNeeds 93 = some (.goto (-43), 3, .inl (50, 0), false) := rfl
theorem lk_Fo_layNeeds_96 : sc_lk tb_Fo_layNeeds 96 = some (.iload_n 3, 1, .inl (3, 0), false) := rfl
theorem lk_Fo_layNeeds_97 : sc_lk tb_Fo_layNeeds 97 = some (.aload_n 0, 1, .inl (0, 0), false) := rfl
theorem lk_Fo_layNeeds_98 : sc_lk tb_Fo_layNeeds 98 = some (.aload_n 2, 1, .inl (2, 0), false) := rfl
theorem lk_Fo_layNeeds_99 : sc_lk tb_Fo_layNeeds 99 = some (.aload 5, 2, .inl (5, 0), false) := rfl
theorem lk_Fo_layNeeds_101 : sc_lk tb_Fo_layNeeds 101 = some (.invokevirtual 44, 3, .inr (.inl (1, 2, mq_Fo_sightWays)), false) := rfl
theorem lk_Fo_layNeeds_104 : sc_lk tb_Fo_layNeeds 104 = some (.iadd, 1, .inr (.inr 0), false) := rfl
theorem lk_Fo_layNeeds_105 : sc_lk tb_Fo_layNeeds 105 = some (.istore_n 3, 1, .inl (3, 0), false) := rfl
theorem lk_Fo_layNeeds_106 : sc_lk tb_Fo_layNeeds 106 = some (.iinc 4 1, 3, .inl (4, 0), false) := rfl
theorem lk_Fo_layNeeds_109 : sc_lk tb_Fo_layNeeds 109 = some (.goto (-91), 3, .inl (18, 0), false) := rfl
theorem lk_Fo_layNeeds_112 : sc_lk tb_Fo_layNeeds 112 = some (.return_, 1, .inr (.inr 0), false) := rfl
def tb_Fo_wayIn : sc_T := [(0, .iconst 0, 1, .inr (.inr 0), false), (1, .istore 4, 2, .inl (4, 0), false), (3, .iconst 1, 1, .inr (.inr 0), false), (4, .istore 5, 2, .inl (5, 0), false), (6, .iconst 0, 1, .inr (.inr 0), false), (7, .istore 6, 2, .inl (6, 0), false), (9, .iload 6, 2, .inl (6, 0), true), (11, .aload_n 1, 1, .inl (1, 0), false), (12, .getfield 25, 3, .inl (0, 1), false), (15, .if_icmp .ge 55, 3, .inl (70, 0), false), (18, .aload_n 2, 1, .inl (2, 0), false), (19, .iload 6, 2, .inl (6, 0), false), (21, .invokevirtual 51, 3, .inr (.inl (2, 1, mq_No_sees)), false), (24, .ifCond .ne 6, 3, .inl (30, 0), false), (27, .goto 37, 3, .inl (64, 0), false), (30, .iload 4, 2, .inl (4, 0), false), (32, .iload 5, 2, .inl (5, 0), false), (34, .aload_n 1, 1, .inl (1, 0), false), (35, .getfield 30, 3, .inl (0, 0), false), (38, .iload 6, 2, .inl (6, 0), false), (40, .aaload, 1, .inr (.inr 0), false), (41, .iload_n 3, 1, .inl (3, 0), false), (42, .invokevirtual 55, 3, .inr (.inl (2, 1, mq_No_stateIn)), false), (45, .imul, 1, .inr (.inr 0), false), (46, .iadd, 1, .inr (.inr 0), false), (47, .istore 4, 2, .inl (4, 0), false), (49, .iload 5, 2, .inl (5, 0), false), (51, .aload_n 1, 1, .inl (1, 0), false), (52, .getfield 30, 3, .inl (0, 0), false), (55, .iload 6, 2, .inl (6, 0), false), (57, .aaload, 1, .inr (.inr 0), false), (58, .getfield 48, 3, .inl (2, 1), false), (61, .imul, 1, .inr (.inr 0), false), (62, .istore 5, 2, .inl (5, 0), false), (64, .iinc 6 1, 3, .inl (6, 0), false), (67, .goto (-58), 3, .inl (9, 0), false), (70, .iload 4, 2, .inl (4, 0), false), (72, .ireturn, 1, .inr (.inr 0), false)]
theorem tk_Fo_wayIn : sc_ok mq_Fo_wayIn tb_Fo_wayIn = true := by decide +kernel
theorem lk_Fo_wayIn_0 : sc_lk tb_Fo_wayIn 0 = some (.iconst 0, 1, .inr (.inr 0), false) := rfl
theorem lk_Fo_wayIn_1 : sc_lk tb_Fo_wayIn 1 = some (.istore 4, 2, .inl (4, 0), false) := rfl
theorem lk_Fo_wayIn_3 : sc_lk tb_Fo_wayIn 3 = some (.iconst 1, 1, .inr (.inr 0), false) := rfl
theorem lk_Fo_wayIn_4 : sc_lk tb_Fo_wayIn 4 = some (.istore 5, 2, .inl (5, 0), false) := rfl
theorem lk_Fo_wayIn_6 : sc_lk tb_Fo_wayIn 6 = some (.iconst 0, 1, .inr (.inr 0), false) := rfl
theorem lk_Fo_wayIn_7 : sc_lk tb_Fo_wayIn 7 = some (.istore 6, 2, .inl (6, 0), false) := rfl
theorem lk_Fo_wayIn_9 : sc_lk tb_Fo_wayIn 9 = some (.iload 6, 2, .inl (6, 0), true) := rfl
theorem lk_Fo_wayIn_11 : sc_lk tb_Fo_wayIn 11 = some (.aload_n 1, 1, .inl (1, 0), false) := rfl
theorem lk_Fo_wayIn_12 : sc_lk tb_Fo_wayIn 12 = some (.getfield 25, 3, .inl (0, 1), false) := rfl
theorem lk_Fo_wayIn_15 : sc_lk tb_Fo_wayIn 15 = some (.if_icmp .ge 55, 3, .inl (70, 0), false) := rfl
theorem lk_Fo_wayIn_18 : sc_lk tb_Fo_wayIn 18 = some (.aload_n 2, 1, .inl (2, 0), false) := rfl
theorem lk_Fo_wayIn_19 : sc_lk tb_Fo_wayIn 19 = some (.iload 6, 2, .inl (6, 0), false) := rfl
theorem lk_Fo_wayIn_21 : sc_lk tb_Fo_wayIn 21 = some (.invokevirtual 51, 3, .inr (.inl (2, 1, mq_No_sees)), false) := rfl
theorem lk_Fo_wayIn_24 : sc_lk tb_Fo_wayIn 24 = some (.ifCond .ne 6, 3, .inl (30, 0), false) := rfl
theorem lk_Fo_wayIn_27 : sc_lk tb_Fo_wayIn 27 = some (.goto 37, 3, .inl (64, 0), false) := rfl
theorem lk_Fo_wayIn_30 : sc_lk tb_Fo_wayIn 30 = some (.iload 4, 2, .inl (4, 0), false) := rfl
theorem lk_Fo_wayIn_32 : sc_lk tb_Fo_wayIn 32 = some (.iload 5, 2, .inl (5, 0), false) := rfl
theorem lk_Fo_wayIn_34 : sc_lk tb_Fo_wayIn 34 = some (.aload_n 1, 1, .inl (1, 0), false) := rfl
theorem lk_Fo_wayIn_35 : sc_lk tb_Fo_wayIn 35 = some (.getfield 30, 3, .inl (0, 0), false) := rfl
theorem lk_Fo_wayIn_38 : sc_lk tb_Fo_wayIn 38 = some (.iload 6, 2, .inl (6, 0), false) := rfl
theorem lk_Fo_wayIn_40 : sc_lk tb_Fo_wayIn 40 = some (.aaload, 1, .inr (.inr 0), false) := rfl
theorem lk_Fo_wayIn_41 : sc_lk tb_Fo_wayIn 41 = some (.iload_n 3, 1, .inl (3, 0), false) := rfl
theorem lk_Fo_wayIn_42 : sc_lk tb_Fo_wayIn 42 = some (.invokevirtual 55, 3, .inr (.inl (2, 1, mq_No_stateIn)), false) := rfl
theorem lk_Fo_wayIn_45 : sc_lk tb_Fo_wayIn 45 = some (.imul, 1, .inr (.inr 0), false) := rfl
theorem lk_Fo_wayIn_46 : sc_lk tb_Fo_wayIn 46 = some (.iadd, 1, .inr (.inr 0), false) := rfl
theorem lk_Fo_wayIn_47 : sc_lk tb_Fo_wayIn 47 = some (.istore 4, 2, .inl (4, 0), false) := rfl
theorem lk_Fo_wayIn_49 : sc_lk tb_Fo_wayIn 49 = some (.iload 5, 2, .inl (5, 0), false) := rfl
theorem lk_Fo_wayIn_51 : sc_lk tb_Fo_wayIn 51 = some (.aload_n 1, 1, .inl (1, 0), false) := rfl
theorem lk_Fo_wayIn_52 : sc_lk tb_Fo_wayIn 52 = some (.getfield 30, 3, .inl (0, 0), false) := rfl
theorem lk_Fo_wayIn_55 : sc_lk tb_Fo_wayIn 55 = some (.iload 6, 2, .inl (6, 0), false) := rfl
theorem lk_Fo_wayIn_57 : sc_lk tb_Fo_wayIn 57 = some (.aaload, 1, .inr (.inr 0), false) := rfl
theorem lk_Fo_wayIn_58 : sc_lk tb_Fo_wayIn 58 = some (.getfield 48, 3, .inl (2, 1), false) := rfl
theorem lk_Fo_wayIn_61 : sc_lk tb_Fo_wayIn 61 = some (.imul, 1, .inr (.inr 0), false) := rfl
theorem lk_Fo_wayIn_62 : sc_lk tb_Fo_wayIn 62 = some (.istore 5, 2, .inl (5, 0), false) := rfl
theorem lk_Fo_wayIn_64 : sc_lk tb_Fo_wayIn 64 = some (.iinc 6 1, 3, .inl (6, 0), false) := rfl
theorem lk_Fo_wayIn_67 : sc_lk tb_Fo_wayIn 67 = some (.goto (-58), 3, .inl (9, 0), false) := rfl
theorem lk_Fo_wayIn_70 : sc_lk tb_Fo_wayIn 70 = some (.iload 4, 2, .inl (4, 0), false) := rfl
theorem lk_Fo_wayIn_72 : sc_lk tb_Fo_wayIn 72 = some (.ireturn, 1, .inr (.inr 0), false) := rfl
def tb_Fo_bit : sc_T := [(0, .iconst 1, 1, .inr (.inr 0), false), (1, .iconst 3, 1, .inr (.inr 0), false), (2, .iload_n 0, 1, .inl (0, 0), false), (3, .imul, 1, .inr (.inr 0), false), (4, .iload_n 1, 1, .inl (1, 0), false), (5, .iadd, 1, .inr (.inr 0), false), (6, .ishl, 1, .inr (.inr 0), false), (7, .ireturn, 1, .inr (.inr 0), false)]
theorem tk_Fo_bit : sc_ok mq_Fo_bit tb_Fo_bit = true := by decide +kernel
theorem lk_Fo_bit_0 : sc_lk tb_Fo_bit 0 = some (.iconst 1, 1, .inr (.inr 0), false) := rfl
theorem lk_Fo_bit_1 : sc_lk tb_Fo_bit 1 = some (.iconst 3, 1, .inr (.inr 0), false) := rfl
theorem lk_Fo_bit_2 : sc_lk tb_Fo_bit 2 = some (.iload_n 0, 1, .inl (0, 0), false) := rfl
theorem lk_Fo_bit_3 : sc_lk tb_Fo_bit 3 = some (.imul, 1, .inr (.inr 0), false) := rfl
theorem lk_Fo_bit_4 : sc_lk tb_Fo_bit 4 = some (.iload_n 1, 1, .inl (1, 0), false) := rfl
theorem lk_Fo_bit_5 : sc_lk tb_Fo_bit 5 = some (.iadd, 1, .inr (.inr 0), false) := rfl
theorem lk_Fo_bit_6 : sc_lk tb_Fo_bit 6 = some (.ishl, 1, .inr (.inr 0), false) := rfl
theorem lk_Fo_bit_7 : sc_lk tb_Fo_bit 7 = some (.ireturn, 1, .inr (.inr 0), false) := rfl
def tb_Fo_planBits : sc_T := [(0, .iconst 0, 1, .inr (.inr 0), false), (1, .istore_n 2, 1, .inl (2, 0), false), (2, .iload_n 1, 1, .inl (1, 0), false), (3, .istore_n 3, 1, .inl (3, 0), false), (4, .iconst 0, 1, .inr (.inr 0), false), (5, .istore 4, 2, .inl (4, 0), false), (7, .iload 4, 2, .inl (4, 0), true), (9, .aload_n 0, 1, .inl (0, 0), false), (10, .getfield 18, 3, .inl (1, 2), false), (13, .if_icmp .ge 51, 3, .inl (64, 0), false), (16, .iload 4, 2, .inl (4, 0), false), (18, .bipush 9, 2, .inr (.inr 0), false), (20, .if_icmp .ge 44, 3, .inl (64, 0), false), (23, .aload_n 0, 1, .inl (0, 0), false), (24, .getfield 9, 3, .inl (1, 0), false), (27, .iload 4, 2, .inl (4, 0), false), (29, .iaload, 1, .inr (.inr 0), false), (30, .istore 5, 2, .inl (5, 0), false), (32, .iload 5, 2, .inl (5, 0), false), (34, .iconst 1, 1, .inr (.inr 0), false), (35, .if_icmp .ge 6, 3, .inl (41, 0), false), (38, .goto 20, 3, .inl (58, 0), false), (41, .iload_n 2, 1, .inl (2, 0), false), (42, .iload 4, 2, .inl (4, 0), false), (44, .iload_n 3, 1, .inl (3, 0), false), (45, .iload 5, 2, .inl (5, 0), false), (47, .irem, 1, .inr (.inr 0), false), (48, .invokestatic 101, 3, .inr (.inl (100, 2, mq_Fo_bit)), false), (51, .ior, 1, .inr (.inr 0), false), (52, .istore_n 2, 1, .inl (2, 0), false), (53, .iload_n 3, 1, .inl (3, 0), false), (54, .iload 5, 2, .inl (5, 0), false), (56, .idiv, 1, .inr (.inr 0), false), (57, .istore_n 3, 1, .inl (3, 0), false), (58, .iinc 4 1, 3, .inl (4, 0), false), (61, .goto (-54), 3, .inl (7, 0), false), (64, .iload_n 2, 1, .inl (2, 0), false), (65, .ireturn, 1, .inr (.inr 0), false)]
theorem tk_Fo_planBits : sc_ok mq_Fo_planBits tb_Fo_planBits = true := by decide +kernel
theorem lk_Fo_planBits_0 : sc_lk tb_Fo_planBits 0 = some (.iconst 0, 1, .inr (.inr 0), false) := rfl
theorem lk_Fo_planBits_1 : sc_lk tb_Fo_planBits 1 = some (.istore_n 2, 1, .inl (2, 0), false) := rfl
theorem lk_Fo_planBits_2 : sc_lk tb_Fo_planBits 2 = some (.iload_n 1, 1, .inl (1, 0), false) := rfl
theorem lk_Fo_planBits_3 : sc_lk tb_Fo_planBits 3 = some (.istore_n 3, 1, .inl (3, 0), false) := rfl
theorem lk_Fo_planBits_4 : sc_lk tb_Fo_planBits 4 = some (.iconst 0, 1, .inr (.inr 0), false) := rfl
theorem lk_Fo_planBits_5 : sc_lk tb_Fo_planBits 5 = some (.istore 4, 2, .inl (4, 0), false) := rfl
theorem lk_Fo_planBits_7 : sc_lk tb_Fo_planBits 7 = some (.iload 4, 2, .inl (4, 0), true) := rfl
theorem lk_Fo_planBits_9 : sc_lk tb_Fo_planBits 9 = some (.aload_n 0, 1, .inl (0, 0), false) := rfl
theorem lk_Fo_planBits_10 : sc_lk tb_Fo_planBits 10 = some (.getfield 18, 3, .inl (1, 2), false) := rfl
theorem lk_Fo_planBits_13 : sc_lk tb_Fo_planBits 13 = some (.if_icmp .ge 51, 3, .inl (64, 0), false) := rfl
theorem lk_Fo_planBits_16 : sc_lk tb_Fo_planBits 16 = some (.iload 4, 2, .inl (4, 0), false) := rfl
theorem lk_Fo_planBits_18 : sc_lk tb_Fo_planBits 18 = some (.bipush 9, 2, .inr (.inr 0), false) := rfl
theorem lk_Fo_planBits_20 : sc_lk tb_Fo_planBits 20 = some (.if_icmp .ge 44, 3, .inl (64, 0), false) := rfl
theorem lk_Fo_planBits_23 : sc_lk tb_Fo_planBits 23 = some (.aload_n 0, 1, .inl (0, 0), false) := rfl
theorem lk_Fo_planBits_24 : sc_lk tb_Fo_planBits 24 = some (.getfield 9, 3, .inl (1, 0), false) := rfl
theorem lk_Fo_planBits_27 : sc_lk tb_Fo_planBits 27 = some (.iload 4, 2, .inl (4, 0), false) := rfl
theorem lk_Fo_planBits_29 : sc_lk tb_Fo_planBits 29 = some (.iaload, 1, .inr (.inr 0), false) := rfl
theorem lk_Fo_planBits_30 : sc_lk tb_Fo_planBits 30 = some (.istore 5, 2, .inl (5, 0), false) := rfl
theorem lk_Fo_planBits_32 : sc_lk tb_Fo_planBits 32 = some (.iload 5, 2, .inl (5, 0), false) := rfl
theorem lk_Fo_planBits_34 : sc_lk tb_Fo_planBits 34 = some (.iconst 1, 1, .inr (.inr 0), false) := rfl
theorem lk_Fo_planBits_35 : sc_lk tb_Fo_planBits 35 = some (.if_icmp .ge 6, 3, .inl (41, 0), false) := rfl
theorem lk_Fo_planBits_38 : sc_lk tb_Fo_planBits 38 = some (.goto 20, 3, .inl (58, 0), false) := rfl
theorem lk_Fo_planBits_41 : sc_lk tb_Fo_planBits 41 = some (.iload_n 2, 1, .inl (2, 0), false) := rfl
theorem lk_Fo_planBits_42 : sc_lk tb_Fo_planBits 42 = some (.iload 4, 2, .inl (4, 0), false) := rfl
theorem lk_Fo_planBits_44 : sc_lk tb_Fo_planBits 44 = some (.iload_n 3, 1, .inl (3, 0), false) := rfl
theorem lk_Fo_planBits_45 : sc_lk tb_Fo_planBits 45 = some (.iload 5, 2, .inl (5, 0), false) := rfl
theorem lk_Fo_planBits_47 : sc_lk tb_Fo_planBits 47 = some (.irem, 1, .inr (.inr 0), false) := rfl
theorem lk_Fo_planBits_48 : sc_lk tb_Fo_planBits 48 = some (.invokestatic 101, 3, .inr (.inl (100, 2, mq_Fo_bit)), false) := rfl
theorem lk_Fo_planBits_51 : sc_lk tb_Fo_planBits 51 = some (.ior, 1, .inr (.inr 0), false) := rfl
theorem lk_Fo_planBits_52 : sc_lk tb_Fo_planBits 52 = some (.istore_n 2, 1, .inl (2, 0), false) := rfl
theorem lk_Fo_planBits_53 : sc_lk tb_Fo_planBits 53 = some (.iload_n 3, 1, .inl (3, 0), false) := rfl
theorem lk_Fo_planBits_54 : sc_lk tb_Fo_planBits 54 = some (.iload 5, 2, .inl (5, 0), false) := rfl
theorem lk_Fo_planBits_56 : sc_lk tb_Fo_planBits 56 = some (.idiv, 1, .inr (.inr 0), false) := rfl
theorem lk_Fo_planBits_57 : sc_lk tb_Fo_planBits 57 = some (.istore_n 3, 1, .inl (3, 0), false) := rfl
theorem lk_Fo_planBits_58 : sc_lk tb_Fo_planBits 58 = some (.iinc 4 1, 3, .inl (4, 0), false) := rfl
theorem lk_Fo_planBits_61 : sc_lk tb_Fo_planBits 61 = some (.goto (-54), 3, .inl (7, 0), false) := rfl
theorem lk_Fo_planBits_64 : sc_lk tb_Fo_planBits 64 = some (.iload_n 2, 1, .inl (2, 0), false) := rfl
theorem lk_Fo_planBits_65 : sc_lk tb_Fo_planBits 65 = some (.ireturn, 1, .inr (.inr 0), false) := rfl
def tb_Fo_meanOf : sc_T := [(0, .lconst 0, 1, .inr (.inr 0), false), (1, .lstore_n 3, 1, .inl (3, 0), false), (2, .iconst 0, 1, .inr (.inr 0), false), (3, .istore 5, 2, .inl (5, 0), false), (5, .iload 5, 2, .inl (5, 0), true), (7, .aload_n 1, 1, .inl (1, 0), false), (8, .getfield 94, 3, .inl (3, 10), false), (11, .if_icmp .ge 43, 3, .inl (54, 0), false), (14, .aload_n 0, 1, .inl (0, 0), false), (15, .getfield 15, 3, .inl (1, 1), false), (18, .iload 5, 2, .inl (5, 0), false), (20, .iaload, 1, .inr (.inr 0), false), (21, .iload_n 2, 1, .inl (2, 0), false), (22, .iconst (-1), 1, .inr (.inr 0), false), (23, .ixor, 1, .inr (.inr 0), false), (24, .iand, 1, .inr (.inr 0), false), (25, .ifCond .ne 23, 3, .inl (48, 0), false), (28, .lload_n 3, 1, .inl (3, 0), false), (29, .aload_n 1, 1, .inl (1, 0), false), (30, .getfield 105, 3, .inl (3, 3), false), (33, .iload 5, 2, .inl (5, 0), false), (35, .iaload, 1, .inr (.inr 0), false), (36, .i2l, 1, .inr (.inr 0), false), (37, .aload_n 1, 1, .inl (1, 0), false), (38, .getfield 108, 3, .inl (3, 4), false), (41, .iload 5, 2, .inl (5, 0), false), (43, .iaload, 1, .inr (.inr 0), false), (44, .i2l, 1, .inr (.inr 0), false), (45, .lmul, 1, .inr (.inr 0), false), (46, .ladd, 1, .inr (.inr 0), false), (47, .lstore_n 3, 1, .inl (3, 0), false), (48, .iinc 5 1, 3, .inl (5, 0), false), (51, .goto (-46), 3, .inl (5, 0), false), (54, .lload_n 3, 1, .inl (3, 0), false), (55, .lreturn, 1, .inr (.inr 0), false)]
theorem tk_Fo_meanOf : sc_ok mq_Fo_meanOf tb_Fo_meanOf = true := by decide +kernel
theorem lk_Fo_meanOf_0 : sc_lk tb_Fo_meanOf 0 = some (.lconst 0, 1, .inr (.inr 0), false) := rfl
theorem lk_Fo_meanOf_1 : sc_lk tb_Fo_meanOf 1 = some (.lstore_n 3, 1, .inl (3, 0), false) := rfl
theorem lk_Fo_meanOf_2 : sc_lk tb_Fo_meanOf 2 = some (.iconst 0, 1, .inr (.inr 0), false) := rfl
theorem lk_Fo_meanOf_3 : sc_lk tb_Fo_meanOf 3 = some (.istore 5, 2, .inl (5, 0), false) := rfl
theorem lk_Fo_meanOf_5 : sc_lk tb_Fo_meanOf 5 = some (.iload 5, 2, .inl (5, 0), true) := rfl
theorem lk_Fo_meanOf_7 : sc_lk tb_Fo_meanOf 7 = some (.aload_n 1, 1, .inl (1, 0), false) := rfl
theorem lk_Fo_meanOf_8 : sc_lk tb_Fo_meanOf 8 = some (.getfield 94, 3, .inl (3, 10), false) := rfl
theorem lk_Fo_meanOf_11 : sc_lk tb_Fo_meanOf 11 = some (.if_icmp .ge 43, 3, .inl (54, 0), false) := rfl
theorem lk_Fo_meanOf_14 : sc_lk tb_Fo_meanOf 14 = some (.aload_n 0, 1, .inl (0, 0), false) := rfl
theorem lk_Fo_meanOf_15 : sc_lk tb_Fo_meanOf 15 = some (.getfield 15, 3, .inl (1, 1), false) := rfl
theorem lk_Fo_meanOf_18 : sc_lk tb_Fo_meanOf 18 = some (.iload 5, 2, .inl (5, 0), false) := rfl
theorem lk_Fo_meanOf_20 : sc_lk tb_Fo_meanOf 20 = some (.iaload, 1, .inr (.inr 0), false) := rfl
theorem lk_Fo_meanOf_21 : sc_lk tb_Fo_meanOf 21 = some (.iload_n 2, 1, .inl (2, 0), false) := rfl
theorem lk_Fo_meanOf_22 : sc_lk tb_Fo_meanOf 22 = some (.iconst (-1), 1, .inr (.inr 0), false) := rfl
theorem lk_Fo_meanOf_23 : sc_lk tb_Fo_meanOf 23 = some (.ixor, 1, .inr (.inr 0), false) := rfl
theorem lk_Fo_meanOf_24 : sc_lk tb_Fo_meanOf 24 = some (.iand, 1, .inr (.inr 0), false) := rfl
theorem lk_Fo_meanOf_25 : sc_lk tb_Fo_meanOf 25 = some (.ifCond .ne 23, 3, .inl (48, 0), false) := rfl
theorem lk_Fo_meanOf_28 : sc_lk tb_Fo_meanOf 28 = some (.lload_n 3, 1, .inl (3, 0), false) := rfl
theorem lk_Fo_meanOf_29 : sc_lk tb_Fo_meanOf 29 = some (.aload_n 1, 1, .inl (1, 0), false) := rfl
theorem lk_Fo_meanOf_30 : sc_lk tb_Fo_meanOf 30 = some (.getfield 105, 3, .inl (3, 3), false) := rfl
theorem lk_Fo_meanOf_33 : sc_lk tb_Fo_meanOf 33 = some (.iload 5, 2, .inl (5, 0), false) := rfl
theorem lk_Fo_meanOf_35 : sc_lk tb_Fo_meanOf 35 = some (.iaload, 1, .inr (.inr 0), false) := rfl
theorem lk_Fo_meanOf_36 : sc_lk tb_Fo_meanOf 36 = some (.i2l, 1, .inr (.inr 0), false) := rfl
theorem lk_Fo_meanOf_37 : sc_lk tb_Fo_meanOf 37 = some (.aload_n 1, 1, .inl (1, 0), false) := rfl
theorem lk_Fo_meanOf_38 : sc_lk tb_Fo_meanOf 38 = some (.getfield 108, 3, .inl (3, 4), false) := rfl
theorem lk_Fo_meanOf_41 : sc_lk tb_Fo_meanOf 41 = some (.iload 5, 2, .inl (5, 0), false) := rfl
theorem lk_Fo_meanOf_43 : sc_lk tb_Fo_meanOf 43 = some (.iaload, 1, .inr (.inr 0), false) := rfl
theorem lk_Fo_meanOf_44 : sc_lk tb_Fo_meanOf 44 = some (.i2l, 1, .inr (.inr 0), false) := rfl
theorem lk_Fo_meanOf_45 : sc_lk tb_Fo_meanOf 45 = some (.lmul, 1, .inr (.inr 0), false) := rfl
theorem lk_Fo_meanOf_46 : sc_lk tb_Fo_meanOf 46 = some (.ladd, 1, .inr (.inr 0), false) := rfl
theorem lk_Fo_meanOf_47 : sc_lk tb_Fo_meanOf 47 = some (.lstore_n 3, 1, .inl (3, 0), false) := rfl
theorem lk_Fo_meanOf_48 : sc_lk tb_Fo_meanOf 48 = some (.iinc 5 1, 3, .inl (5, 0), false) := rfl
theorem lk_Fo_meanOf_51 : sc_lk tb_Fo_meanOf 51 = some (.goto (-46), 3, .inl (5, 0), false) := rfl
theorem lk_Fo_meanOf_54 : sc_lk tb_Fo_meanOf 54 = some (.lload_n 3, 1, .inl (3, 0), false) := rfl
theorem lk_Fo_meanOf_55 : sc_lk tb_Fo_meanOf 55 = some (.lreturn, 1, .inr (.inr 0), false) := rfl
