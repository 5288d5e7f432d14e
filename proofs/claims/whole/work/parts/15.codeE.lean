def tb_Mo_numberOf : sc_T := [(0, .iconst 0, 1, .inr (.inr 0), false), (1, .istore_n 2, 1, .inl (2, 0), false), (2, .iconst 1, 1, .inr (.inr 0), false), (3, .istore_n 3, 1, .inl (3, 0), false), (4, .iconst 0, 1, .inr (.inr 0), false), (5, .istore 4, 2, .inl (4, 0), false), (7, .iload 4, 2, .inl (4, 0), true), (9, .aload_n 0, 1, .inl (0, 0), false), (10, .getfield 80, 3, .inl (5, 5), false), (13, .if_icmp .ge 55, 3, .inl (68, 0), false), (16, .aload_n 0, 1, .inl (0, 0), false), (17, .getfield 17, 3, .inl (5, 6), false), (20, .iload 4, 2, .inl (4, 0), false), (22, .iaload, 1, .inr (.inr 0), false), (23, .ifCond .eq 39, 3, .inl (62, 0), false), (26, .iload_n 2, 1, .inl (2, 0), false), (27, .iload_n 1, 1, .inl (1, 0), false), (28, .iload 4, 2, .inl (4, 0), false), (30, .ishr, 1, .inr (.inr 0), false), (31, .iconst 1, 1, .inr (.inr 0), false), (32, .iand, 1, .inr (.inr 0), false), (33, .iconst 1, 1, .inr (.inr 0), false), (34, .if_icmp .ne 15, 3, .inl (49, 0), false), (37, .iload_n 3, 1, .inl (3, 0), false), (38, .aload_n 0, 1, .inl (0, 0), false), (39, .getfield 42, 3, .inl (5, 14), false), (42, .iload 4, 2, .inl (4, 0), false), (44, .iaload, 1, .inr (.inr 0), false), (45, .imul, 1, .inr (.inr 0), false), (46, .goto 4, 3, .inl (50, 0), false), (49, .iconst 0, 1, .inr (.inr 0), false), (50, .iadd, 1, .inr (.inr 0), false), (51, .istore_n 2, 1, .inl (2, 0), false), (52, .iload_n 3, 1, .inl (3, 0), false), (53, .aload_n 0, 1, .inl (0, 0), false), (54, .getfield 20, 3, .inl (5, 7), false), (57, .iload 4, 2, .inl (4, 0), false), (59, .iaload, 1, .inr (.inr 0), false), (60, .imul, 1, .inr (.inr 0), false), (61, .istore_n 3, 1, .inl (3, 0), false), (62, .iinc 4 1, 3, .inl (4, 0), false), (65, .goto (-58), 3, .inl (7, 0), false), (68, .iload_n 2, 1, .inl (2, 0), false), (69, .ireturn, 1, .inr (.inr 0), false)]
theorem tk_Mo_numberOf : sc_ok mq_Mo_numberOf tb_Mo_numberOf = true := by decide +kernel
theorem lk_Mo_numberOf_0 : sc_lk tb_Mo_numberOf 0 = some (.iconst 0, 1, .inr (.inr 0), false) := rfl
theorem lk_Mo_numberOf_1 : sc_lk tb_Mo_numberOf 1 = some (.istore_n 2, 1, .inl (2, 0), false) := rfl
theorem lk_Mo_numberOf_2 : sc_lk tb_Mo_numberOf 2 = some (.iconst 1, 1, .inr (.inr 0), false) := rfl
theorem lk_Mo_numberOf_3 : sc_lk tb_Mo_numberOf 3 = some (.istore_n 3, 1, .inl (3, 0), false) := rfl
theorem lk_Mo_numberOf_4 : sc_lk tb_Mo_numberOf 4 = some (.iconst 0, 1, .inr (.inr 0), false) := rfl
theorem lk_Mo_numberOf_5 : sc_lk tb_Mo_numberOf 5 = some (.istore 4, 2, .inl (4, 0), false) := rfl
theorem lk_Mo_numberOf_7 : sc_lk tb_Mo_numberOf 7 = some (.iload 4, 2, .inl (4, 0), true) := rfl
theorem lk_Mo_numberOf_9 : sc_lk tb_Mo_numberOf 9 = some (.aload_n 0, 1, .inl (0, 0), false) := rfl
theorem lk_Mo_numberOf_10 : sc_lk tb_Mo_numberOf 10 = some (.getfield 80, 3, .inl (5, 5), false) := rfl
theorem lk_Mo_numberOf_13 : sc_lk tb_Mo_numberOf 13 = some (.if_icmp .ge 55, 3, .inl (68, 0), false) := rfl
theorem lk_Mo_numberOf_16 : sc_lk tb_Mo_numberOf 16 = some (.aload_n 0, 1, .inl (0, 0), false) := rfl
theorem lk_Mo_numberOf_17 : sc_lk tb_Mo_numberOf 17 = some (.getfield 17, 3, .inl (5, 6), false) := rfl
theorem lk_Mo_numberOf_20 : sc_lk tb_Mo_numberOf 20 = some (.iload 4, 2, .inl (4, 0), false) := rfl
theorem lk_Mo_numberOf_22 : sc_lk tb_Mo_numberOf 22 = some (.iaload, 1, .inr (.inr 0), false) := rfl
theorem lk_Mo_numberOf_23 : sc_lk tb_Mo_numberOf 23 = some (.ifCond .eq 39, 3, .inl (62, 0), false) := rfl
theorem lk_Mo_numberOf_26 : sc_lk tb_Mo_numberOf 26 = some (.iload_n 2, 1, .inl (2, 0), false) := rfl
theorem lk_Mo_numberOf_27 : sc_lk tb_Mo_numberOf 27 = some (.iload_n 1, 1, .inl (1, 0), false) := rfl
theorem lk_Mo_numberOf_28 : sc_lk tb_Mo_numberOf 28 = some (.iload 4, 2, .inl (4, 0), false) := rfl
theorem lk_Mo_numberOf_30 : sc_lk tb_Mo_numberOf 30 = some (.ishr, 1, .inr (.inr 0), false) := rfl
theorem lk_Mo_numberOf_31 : sc_lk tb_Mo_numberOf 31 = some (.iconst 1, 1, .inr (.inr 0), false) := rfl
theorem lk_Mo_numberOf_32 : sc_lk tb_Mo_numberOf 32 = some (.iand, 1, .inr (.inr 0), false) := rfl
theorem lk_Mo_numberOf_33 : sc_lk tb_Mo_numberOf 33 = some (.iconst 1, 1, .inr (.inr 0), false) := rfl
theorem lk_Mo_numberOf_34 : sc_lk tb_Mo_numberOf 34 = some (.if_icmp .ne 15, 3, .inl (49, 0), false) := rfl
theorem lk_Mo_numberOf_37 : sc_lk tb_Mo_numberOf 37 = some (.iload_n 3, 1, .inl (3, 0), false) := rfl
theorem lk_Mo_numberOf_38 : sc_lk tb_Mo_numberOf 38 = some (.aload_n 0, 1, .inl (0, 0), false) := rfl
theorem lk_Mo_numberOf_39 : sc_lk tb_Mo_numberOf 39 = some (.getfield 42, 3, .inl (5, 14), false) := rfl
theorem lk_Mo_numberOf_42 : sc_lk tb_Mo_numberOf 42 = some (.iload 4, 2, .inl (4, 0), false) := rfl
theorem lk_Mo_numberOf_44 : sc_lk tb_Mo_numberOf 44 = some (.iaload, 1, .inr (.inr 0), false) := rfl
theorem lk_Mo_numberOf_45 : sc_lk tb_Mo_numberOf 45 = some (.imul, 1, .inr (.inr 0), false) := rfl
theorem lk_Mo_numberOf_46 : sc_lk tb_Mo_numberOf 46 = some (.goto 4, 3, .inl (50, 0), false) := rfl
theorem lk_Mo_numberOf_49 : sc_lk tb_Mo_numberOf 49 = some (.iconst 0, 1, .inr (.inr 0), false) := rfl
theorem lk_Mo_numberOf_50 : sc_lk tb_Mo_numberOf 50 = some (.iadd, 1, .inr (.inr 0), false) := rfl
theorem lk_Mo_numberOf_51 : sc_lk tb_Mo_numberOf 51 = some (.istore_n 2, 1, .inl (2, 0), false) := rfl
theorem lk_Mo_numberOf_52 : sc_lk tb_Mo_numberOf 52 = some (.iload_n 3, 1, .inl (3, 0), false) := rfl
theorem lk_Mo_numberOf_53 : sc_lk tb_Mo_numberOf 53 = some (.aload_n 0, 1, .inl (0, 0), false) := rfl
theorem lk_Mo_numberOf_54 : sc_lk tb_Mo_numberOf 54 = some (.getfield 20, 3, .inl (5, 7), false) := rfl
theorem lk_Mo_numberOf_57 : sc_lk tb_Mo_numberOf 57 = some (.iload 4, 2, .inl (4, 0), false) := rfl
theorem lk_Mo_numberOf_59 : sc_lk tb_Mo_numberOf 59 = some (.iaload, 1, .inr (.inr 0), false) := rfl
theorem lk_Mo_numberOf_60 : sc_lk tb_Mo_numberOf 60 = some (.imul, 1, .inr (.inr 0), false) := rfl
theorem lk_Mo_numberOf_61 : sc_lk tb_Mo_numberOf 61 = some (.istore_n 3, 1, .inl (3, 0), false) := rfl
theorem lk_Mo_numberOf_62 : sc_lk tb_Mo_numberOf 62 = some (.iinc 4 1, 3, .inl (4, 0), false) := rfl
theorem lk_Mo_numberOf_65 : sc_lk tb_Mo_numberOf 65 = some (.goto (-58), 3, .inl (7, 0), false) := rfl
theorem lk_Mo_numberOf_68 : sc_lk tb_Mo_numberOf 68 = some (.iload_n 2, 1, .inl (2, 0), false) := rfl
theorem lk_Mo_numberOf_69 : sc_lk tb_Mo_numberOf 69 = some (.ireturn, 1, .inr (.inr 0), false) := rfl
def tb_Mo_goes : sc_T := [(0, .aload_n 0, 1, .inl (0, 0), false), (1, .getfield 42, 3, .inl (5, 14), false), (4, .iload_n 1, 1, .inl (1, 0), false), (5, .iaload, 1, .inr (.inr 0), false), (6, .aload_n 0, 1, .inl (0, 0), false), (7, .getfield 32, 3, .inl (5, 11), false), (10, .iload_n 1, 1, .inl (1, 0), false), (11, .iaload, 1, .inr (.inr 0), false), (12, .ifCond .lt 12, 3, .inl (24, 0), false), (15, .aload_n 0, 1, .inl (0, 0), false), (16, .getfield 32, 3, .inl (5, 11), false), (19, .iload_n 1, 1, .inl (1, 0), false), (20, .iaload, 1, .inr (.inr 0), false), (21, .goto 24, 3, .inl (45, 0), false), (24, .aload_n 0, 1, .inl (0, 0), false), (25, .getfield 45, 3, .inl (5, 15), false), (28, .sipush 243, 3, .inr (.inr 0), false), (31, .iload_n 1, 1, .inl (1, 0), false), (32, .imul, 1, .inr (.inr 0), false), (33, .aload_n 0, 1, .inl (0, 0), false), (34, .aload_n 0, 1, .inl (0, 0), false), (35, .getfield 56, 3, .inl (5, 18), false), (38, .iload_n 1, 1, .inl (1, 0), false), (39, .iaload, 1, .inr (.inr 0), false), (40, .invokevirtual 140, 3, .inr (.inl (5, 1, mq_Mo_numberOf)), false), (43, .iadd, 1, .inr (.inr 0), false), (44, .iaload, 1, .inr (.inr 0), false), (45, .if_icmp .ne 7, 3, .inl (52, 0), false), (48, .iconst 1, 1, .inr (.inr 0), false), (49, .goto 4, 3, .inl (53, 0), false), (52, .iconst 0, 1, .inr (.inr 0), false), (53, .ireturn, 1, .inr (.inr 0), false)]
theorem tk_Mo_goes : sc_ok mq_Mo_goes tb_Mo_goes = true := by decide +kernel
theorem lk_Mo_goes_0 : sc_lk tb_Mo_goes 0 = some (.aload_n 0, 1, .inl (0, 0), false) := rfl
theorem lk_Mo_goes_1 : sc_lk tb_Mo_goes 1 = some (.getfield 42, 3, .inl (5, 14), false) := rfl
theorem lk_Mo_goes_4 : sc_lk tb_Mo_goes 4 = some (.iload_n 1, 1, .inl (1, 0), false) := rfl
theorem lk_Mo_goes_5 : sc_lk tb_Mo_goes 5 = some (.iaload, 1, .inr (.inr 0), false) := rfl
theorem lk_Mo_goes_6 : sc_lk tb_Mo_goes 6 = some (.aload_n 0, 1, .inl (0, 0), false) := rfl
theorem lk_Mo_goes_7 : sc_lk tb_Mo_goes 7 = some (.getfield 32, 3, .inl (5, 11), false) := rfl
theorem lk_Mo_goes_10 : sc_lk tb_Mo_goes 10 = some (.iload_n 1, 1, .inl (1, 0), false) := rfl
theorem lk_Mo_goes_11 : sc_lk tb_Mo_goes 11 = some (.iaload, 1, .inr (.inr 0), false) := rfl
theorem lk_Mo_goes_12 : sc_lk tb_Mo_goes 12 = some (.ifCond .lt 12, 3, .inl (24, 0), false) := rfl
theorem lk_Mo_goes_15 : sc_lk tb_Mo_goes 15 = some (.aload_n 0, 1, .inl (0, 0), false) := rfl
theorem lk_Mo_goes_16 : sc_lk tb_Mo_goes 16 = some (.getfield 32, 3, .inl (5, 11), false) := rfl
theorem lk_Mo_goes_19 : sc_lk tb_Mo_goes 19 = some (.iload_n 1, 1, .inl (1, 0), false) := rfl
theorem lk_Mo_goes_20 : sc_lk tb_Mo_goes 20 = some (.iaload, 1, .inr (.inr 0), false) := rfl
theorem lk_Mo_goes_21 : sc_lk tb_Mo_goes 21 = some (.goto 24, 3, .inl (45, 0), false) := rfl
theorem lk_Mo_goes_24 : sc_lk tb_Mo_goes 24 = some (.aload_n 0, 1, .inl (0, 0), false) := rfl
theorem lk_Mo_goes_25 : sc_lk tb_Mo_goes 25 = some (.getfield 45, 3, .inl (5, 15), false) := rfl
theorem lk_Mo_goes_28 : sc_lk tb_Mo_goes 28 = some (.sipush 243, 3, .inr (.inr 0), false) := rfl
theorem lk_Mo_goes_31 : sc_lk tb_Mo_goes 31 = some (.iload_n 1, 1, .inl (1, 0), false) := rfl
theorem lk_Mo_goes_32 : sc_lk tb_Mo_goes 32 = some (.imul, 1, .inr (.inr 0), false) := rfl
theorem lk_Mo_goes_33 : sc_lk tb_Mo_goes 33 = some (.aload_n 0, 1, .inl (0, 0), false) := rfl
theorem lk_Mo_goes_34 : sc_lk tb_Mo_goes 34 = some (.aload_n 0, 1, .inl (0, 0), false) := rfl
theorem lk_Mo_goes_35 : sc_lk tb_Mo_goes 35 = some (.getfield 56, 3, .inl (5, 18), false) := rfl
theorem lk_Mo_goes_38 : sc_lk tb_Mo_goes 38 = some (.iload_n 1, 1, .inl (1, 0), false) := rfl
theorem lk_Mo_goes_39 : sc_lk tb_Mo_goes 39 = some (.iaload, 1, .inr (.inr 0), false) := rfl
theorem lk_Mo_goes_40 : sc_lk tb_Mo_goes 40 = some (.invokevirtual 140, 3, .inr (.inl (5, 1, mq_Mo_numberOf)), false) := rfl
theorem lk_Mo_goes_43 : sc_lk tb_Mo_goes 43 = some (.iadd, 1, .inr (.inr 0), false) := rfl
theorem lk_Mo_goes_44 : sc_lk tb_Mo_goes 44 = some (.iaload, 1, .inr (.inr 0), false) := rfl
theorem lk_Mo_goes_45 : sc_lk tb_Mo_goes 45 = some (.if_icmp .ne 7, 3, .inl (52, 0), false) := rfl
theorem lk_Mo_goes_48 : sc_lk tb_Mo_goes 48 = some (.iconst 1, 1, .inr (.inr 0), false) := rfl
theorem lk_Mo_goes_49 : sc_lk tb_Mo_goes 49 = some (.goto 4, 3, .inl (53, 0), false) := rfl
theorem lk_Mo_goes_52 : sc_lk tb_Mo_goes 52 = some (.iconst 0, 1, .inr (.inr 0), false) := rfl
theorem lk_Mo_goes_53 : sc_lk tb_Mo_goes 53 = some (.ireturn, 1, .inr (.inr 0), false) := rfl
def tb_Mo_worthNow : sc_T := [(0, .iconst 0, 1, .inr (.inr 0), false), (1, .istore_n 1, 1, .inl (1, 0), false), (2, .iconst 0, 1, .inr (.inr 0), false), (3, .istore_n 2, 1, .inl (2, 0), false), (4, .iload_n 2, 1, .inl (2, 0), true), (5, .aload_n 0, 1, .inl (0, 0), false), (6, .getfield 80, 3, .inl (5, 5), false), (9, .if_icmp .ge 40, 3, .inl (49, 0), false), (12, .iload_n 1, 1, .inl (1, 0), false), (13, .aload_n 0, 1, .inl (0, 0), false), (14, .getfield 17, 3, .inl (5, 6), false), (17, .iload_n 2, 1, .inl (2, 0), false), (18, .iaload, 1, .inr (.inr 0), false), (19, .ifCond .ne 21, 3, .inl (40, 0), false), (22, .aload_n 0, 1, .inl (0, 0), false), (23, .getfield 35, 3, .inl (5, 12), false), (26, .bipush 27, 2, .inr (.inr 0), false), (28, .iload_n 2, 1, .inl (2, 0), false), (29, .imul, 1, .inr (.inr 0), false), (30, .aload_n 0, 1, .inl (0, 0), false), (31, .iload_n 2, 1, .inl (2, 0), false), (32, .invokevirtual 129, 3, .inr (.inl (5, 1, mq_Mo_rowNow)), false), (35, .iadd, 1, .inr (.inr 0), false), (36, .iaload, 1, .inr (.inr 0), false), (37, .goto 4, 3, .inl (41, 0), false), (40, .iconst 0, 1, .inr (.inr 0), false), (41, .iadd, 1, .inr (.inr 0), false), (42, .istore_n 1, 1, .inl (1, 0), false), (43, .iinc 2 1, 3, .inl (2, 0), false), (46, .goto (-42), 3, .inl (4, 0), false), (49, .iload_n 1, 1, .inl (1, 0), false), (50, .ireturn, 1, .inr (.inr 0), false)]
theorem tk_Mo_worthNow : sc_ok mq_Mo_worthNow tb_Mo_worthNow = true := by decide +kernel
theorem lk_Mo_worthNow_0 : sc_lk tb_Mo_worthNow 0 = some (.iconst 0, 1, .inr (.inr 0), false) := rfl
theorem lk_Mo_worthNow_1 : sc_lk tb_Mo_worthNow 1 = some (.istore_n 1, 1, .inl (1, 0), false) := rfl
theorem lk_Mo_worthNow_2 : sc_lk tb_Mo_worthNow 2 = some (.iconst 0, 1, .inr (.inr 0), false) := rfl
theorem lk_Mo_worthNow_3 : sc_lk tb_Mo_worthNow 3 = some (.istore_n 2, 1, .inl (2, 0), false) := rfl
theorem lk_Mo_worthNow_4 : sc_lk tb_Mo_worthNow 4 = some (.iload_n 2, 1, .inl (2, 0), true) := rfl
theorem lk_Mo_worthNow_5 : sc_lk tb_Mo_worthNow 5 = some (.aload_n 0, 1, .inl (0, 0), false) := rfl
theorem lk_Mo_worthNow_6 : sc_lk tb_Mo_worthNow 6 = some (.getfield 80, 3, .inl (5, 5), false) := rfl
theorem lk_Mo_worthNow_9 : sc_lk tb_Mo_worthNow 9 = some (.if_icmp .ge 40, 3, .inl (49, 0), false) := rfl
theorem lk_Mo_worthNow_12 : sc_lk tb_Mo_worthNow 12 = some (.iload_n 1, 1, .inl (1, 0), false) := rfl
theorem lk_Mo_worthNow_13 : sc_lk tb_Mo_worthNow 13 = some (.aload_n 0, 1, .inl (0, 0), false) := rfl
theorem lk_Mo_worthNow_14 : sc_lk tb_Mo_worthNow 14 = some (.getfield 17, 3, .inl (5, 6), false) := rfl
theorem lk_Mo_worthNow_17 : sc_lk tb_Mo_worthNow 17 = some (.iload_n 2, 1, .inl (2, 0), false) := rfl
theorem lk_Mo_worthNow_18 : sc_lk tb_Mo_worthNow 18 = some (.iaload, 1, .inr (.inr 0), false) := rfl
theorem lk_Mo_worthNow_19 : sc_lk tb_Mo_worthNow 19 = some (.ifCond .ne 21, 3, .inl (40, 0), false) := rfl
theorem lk_Mo_worthNow_22 : sc_lk tb_Mo_worthNow 22 = some (.aload_n 0, 1, .inl (0, 0), false) := rfl
theorem lk_Mo_worthNow_23 : sc_lk tb_Mo_worthNow 23 = some (.getfield 35, 3, .inl (5, 12), false) := rfl
theorem lk_Mo_worthNow_26 : sc_lk tb_Mo_worthNow 26 = some (.bipush 27, 2, .inr (.inr 0), false) := rfl
theorem lk_Mo_worthNow_28 : sc_lk tb_Mo_worthNow 28 = some (.iload_n 2, 1, .inl (2, 0), false) := rfl
theorem lk_Mo_worthNow_29 : sc_lk tb_Mo_worthNow 29 = some (.imul, 1, .inr (.inr 0), false) := rfl
theorem lk_Mo_worthNow_30 : sc_lk tb_Mo_worthNow 30 = some (.aload_n 0, 1, .inl (0, 0), false) := rfl
theorem lk_Mo_worthNow_31 : sc_lk tb_Mo_worthNow 31 = some (.iload_n 2, 1, .inl (2, 0), false) := rfl
theorem lk_Mo_worthNow_32 : sc_lk tb_Mo_worthNow 32 = some (.invokevirtual 129, 3, .inr (.inl (5, 1, mq_Mo_rowNow)), false) := rfl
theorem lk_Mo_worthNow_35 : sc_lk tb_Mo_worthNow 35 = some (.iadd, 1, .inr (.inr 0), false) := rfl
theorem lk_Mo_worthNow_36 : sc_lk tb_Mo_worthNow 36 = some (.iaload, 1, .inr (.inr 0), false) := rfl
theorem lk_Mo_worthNow_37 : sc_lk tb_Mo_worthNow 37 = some (.goto 4, 3, .inl (41, 0), false) := rfl
theorem lk_Mo_worthNow_40 : sc_lk tb_Mo_worthNow 40 = some (.iconst 0, 1, .inr (.inr 0), false) := rfl
theorem lk_Mo_worthNow_41 : sc_lk tb_Mo_worthNow 41 = some (.iadd, 1, .inr (.inr 0), false) := rfl
theorem lk_Mo_worthNow_42 : sc_lk tb_Mo_worthNow 42 = some (.istore_n 1, 1, .inl (1, 0), false) := rfl
theorem lk_Mo_worthNow_43 : sc_lk tb_Mo_worthNow 43 = some (.iinc 2 1, 3, .inl (2, 0), false) := rfl
theorem lk_Mo_worthNow_46 : sc_lk tb_Mo_worthNow 46 = some (.goto (-42), 3, .inl (4, 0), false) := rfl
theorem lk_Mo_worthNow_49 : sc_lk tb_Mo_worthNow 49 = some (.iload_n 1, 1, .inl (1, 0), false) := rfl
theorem lk_Mo_worthNow_50 : sc_lk tb_Mo_worthNow 50 = some (.ireturn, 1, .inr (.inr 0), false) := rfl
def tb_Mo_sumOfPlan : sc_T := [(0, .lconst 0, 1, .inr (.inr 0), false), (1, .lstore_n 1, 1, .inl (1, 0), false), (2, .aload_n 0, 1, .inl (0, 0), false), (3, .invokevirtual 91, 3, .inr (.inl (5, 0, mq_Mo_worlds)), false), (6, .istore_n 3, 1, .inl (3, 0), false), (7, .iconst 0, 1, .inr (.inr 0), false), (8, .istore 4, 2, .inl (4, 0), false), (10, .iload 4, 2, .inl (4, 0), true), (12, .iload_n 3, 1, .inl (3, 0), false), (13, .if_icmp .ge 39, 3, .inl (52, 0), false), (16, .aload_n 0, 1, .inl (0, 0), false), (17, .iload 4, 2, .inl (4, 0), false), (19, .invokevirtual 143, 3, .inr (.inl (5, 1, mq_Mo_setWorld)), false), (22, .lload_n 1, 1, .inl (1, 0), false), (23, .aload_n 0, 1, .inl (0, 0), false), (24, .invokevirtual 162, 3, .inr (.inl (5, 0, mq_Mo_comes)), false), (27, .ifCond .eq 16, 3, .inl (43, 0), false), (30, .aload_n 0, 1, .inl (0, 0), false), (31, .invokevirtual 146, 3, .inr (.inl (5, 0, mq_Mo_weightNow)), false), (34, .aload_n 0, 1, .inl (0, 0), false), (35, .invokevirtual 153, 3, .inr (.inl (5, 0, mq_Mo_worthNow)), false), (38, .i2l, 1, .inr (.inr 0), false), (39, .lmul, 1, .inr (.inr 0), false), (40, .goto 4, 3, .inl (44, 0), false), (43, .lconst 0, 1, .inr (.inr 0), false), (44, .ladd, 1, .inr (.inr 0), false), (45, .lstore_n 1, 1, .inl (1, 0), false), (46, .iinc 4 1, 3, .inl (4, 0), false), (49, .goto (-39), 3, .inl (10, 0), false), (52, .lload_n 1, 1, .inl (1, 0), false), (53, .lreturn, 1, .inr (.inr 0), false)]
theorem tk_Mo_sumOfPlan : sc_ok mq_Mo_sumOfPlan tb_Mo_sumOfPlan = true := by decide +kernel
theorem lk_Mo_sumOfPlan_0 : sc_lk tb_Mo_sumOfPlan 0 = some (.lconst 0, 1, .inr (.inr 0), false) := rfl
theorem lk_Mo_sumOfPlan_1 : sc_lk tb_Mo_sumOfPlan 1 = some (.lstore_n 1, 1, .inl (1, 0), false) := rfl
theorem lk_Mo_sumOfPlan_2 : sc_lk tb_Mo_sumOfPlan 2 = some (.aload_n 0, 1, .inl (0, 0), false) := rfl
theorem lk_Mo_sumOfPlan_3 : sc_lk tb_Mo_sumOfPlan 3 = some (.invokevirtual 91, 3, .inr (.inl (5, 0, mq_Mo_worlds)), false) := rfl
theorem lk_Mo_sumOfPlan_6 : sc_lk tb_Mo_sumOfPlan 6 = some (.istore_n 3, 1, .inl (3, 0), false) := rfl
theorem lk_Mo_sumOfPlan_7 : sc_lk tb_Mo_sumOfPlan 7 = some (.iconst 0, 1, .inr (.inr 0), false) := rfl
theorem lk_Mo_sumOfPlan_8 : sc_lk tb_Mo_sumOfPlan 8 = some (.istore 4, 2, .inl (4, 0), false) := rfl
theorem lk_Mo_sumOfPlan_10 : sc_lk tb_Mo_sumOfPlan 10 = some (.iload 4, 2, .inl (4, 0), true) := rfl
theorem lk_Mo_sumOfPlan_12 : sc_lk tb_Mo_sumOfPlan 12 = some (.iload_n 3, 1, .inl (3, 0), false) := rfl
theorem lk_Mo_sumOfPlan_13 : sc_lk tb_Mo_sumOfPlan 13 = some (.if_icmp .ge 39, 3, .inl (52, 0), false) := rfl
theorem lk_Mo_sumOfPlan_16 : sc_lk tb_Mo_sumOfPlan 16 = some (.aload_n 0, 1, .inl (0, 0), false) := rfl
theorem lk_Mo_sumOfPlan_17 : sc_lk tb_Mo_sumOfPlan 17 = some (.iload 4, 2, .inl (4, 0), false) := rfl
theorem lk_Mo_sumOfPlan_19 : sc_lk tb_Mo_sumOfPlan 19 = some (.invokevirtual 143, 3, .inr (.inl (5, 1, mq_Mo_setWorld)), false) := rfl
theorem lk_Mo_sumOfPlan_22 : sc_lk tb_Mo_sumOfPlan 22 = some (.lload_n 1, 1, .inl (1, 0), false) := rfl
theorem lk_Mo_sumOfPlan_23 : sc_lk tb_Mo_sumOfPlan 23 = some (.aload_n 0, 1, .inl (0, 0), false) := rfl
theorem lk_Mo_sumOfPlan_24 : sc_lk tb_Mo_sumOfPlan 24 = some (.invokevirtual 162, 3, .inr (.inl (5, 0, mq_Mo_comes)), false) := rfl
theorem lk_Mo_sumOfPlan_27 : sc_lk tb_Mo_sumOfPlan 27 = some (.ifCond .eq 16, 3, .inl (43, 0), false) := rfl
theorem lk_Mo_sumOfPlan_30 : sc_lk tb_Mo_sumOfPlan 30 = some (.aload_n 0, 1, .inl (0, 0), false) := rfl
theorem lk_Mo_sumOfPlan_31 : sc_lk tb_Mo_sumOfPlan 31 = some (.invokevirtual 146, 3, .inr (.inl (5, 0, mq_Mo_weightNow)), false) := rfl
theorem lk_Mo_sumOfPlan_34 : sc_lk tb_Mo_sumOfPlan 34 = some (.aload_n 0, 1, .inl (0, 0), false) := rfl
theorem lk_Mo_sumOfPlan_35 : sc_lk tb_Mo_sumOfPlan 35 = some (.invokevirtual 153, 3, .inr (.inl (5, 0, mq_Mo_worthNow)), false) := rfl
theorem lk_Mo_sumOfPlan_38 : sc_lk tb_Mo_sumOfPlan 38 = some (.i2l, 1, .inr (.inr 0), false) := rfl
theorem lk_Mo_sumOfPlan_39 : sc_lk tb_Mo_sumOfPlan 39 = some (.lmul, 1, .inr (.inr 0), false) := rfl
theorem lk_Mo_sumOfPlan_40 : sc_lk tb_Mo_sumOfPlan 40 = some (.goto 4, 3, .inl (44, 0), false) := rfl
theorem lk_Mo_sumOfPlan_43 : sc_lk tb_Mo_sumOfPlan 43 = some (.lconst 0, 1, .inr (.inr 0), false) := rfl
theorem lk_Mo_sumOfPlan_44 : sc_lk tb_Mo_sumOfPlan 44 = some (.ladd, 1, .inr (.inr 0), false) := rfl
theorem lk_Mo_sumOfPlan_45 : sc_lk tb_Mo_sumOfPlan 45 = some (.lstore_n 1, 1, .inl (1, 0), false) := rfl
theorem lk_Mo_sumOfPlan_46 : sc_lk tb_Mo_sumOfPlan 46 = some (.iinc 4 1, 3, .inl (4, 0), false) := rfl
theorem lk_Mo_sumOfPlan_49 : sc_lk tb_Mo_sumOfPlan 49 = some (.goto (-39), 3, .inl (10, 0), false) := rfl
theorem lk_Mo_sumOfPlan_52 : sc_lk tb_Mo_sumOfPlan 52 = some (.lload_n 1, 1, .inl (1, 0), false) := rfl
theorem lk_Mo_sumOfPlan_53 : sc_lk tb_Mo_sumOfPlan 53 = some (.lreturn, 1, .inr (.inr 0), false) := rfl
def tb_Mo_comes : sc_T := [(0, .iconst 1, 1, .inr (.inr 0), false), (1, .istore_n 1, 1, .inl (1, 0), false), (2, .iconst 0, 1, .inr (.inr 0), false), (3, .istore_n 2, 1, .inl (2, 0), false), (4, .iload_n 2, 1, .inl (2, 0), true), (5, .aload_n 0, 1, .inl (0, 0), false), (6, .getfield 80, 3, .inl (5, 5), false), (9, .if_icmp .ge 35, 3, .inl (44, 0), false), (12, .iload_n 1, 1, .inl (1, 0), false), (13, .ifCond .eq 23, 3, .inl (36, 0), false), (16, .aload_n 0, 1, .inl (0, 0), false), (17, .iload_n 2, 1, .inl (2, 0), false), (18, .invokevirtual 137, 3, .inr (.inl (5, 1, mq_Mo_isChoice)), false), (21, .ifCond .eq 11, 3, .inl (32, 0), false), (24, .aload_n 0, 1, .inl (0, 0), false), (25, .iload_n 2, 1, .inl (2, 0), false), (26, .invokevirtual 150, 3, .inr (.inl (5, 1, mq_Mo_goes)), false), (29, .ifCond .eq 7, 3, .inl (36, 0), false), (32, .iconst 1, 1, .inr (.inr 0), false), (33, .goto 4, 3, .inl (37, 0), false), (36, .iconst 0, 1, .inr (.inr 0), false), (37, .istore_n 1, 1, .inl (1, 0), false), (38, .iinc 2 1, 3, .inl (2, 0), false), (41, .goto (-37), 3, .inl (4, 0), false), (44, .iload_n 1, 1, .inl (1, 0), false), (45, .ireturn, 1, .inr (.inr 0), false)]
theorem tk_Mo_comes : sc_ok mq_Mo_comes tb_Mo_comes = true := by decide +kernel
theorem lk_Mo_comes_0 : sc_lk tb_Mo_comes 0 = some (.iconst 1, 1, .inr (.inr 0), false) := rfl
theorem lk_Mo_comes_1 : sc_lk tb_Mo_comes 1 = some (.istore_n 1, 1, .inl (1, 0), false) := rfl
theorem lk_Mo_comes_2 : sc_lk tb_Mo_comes 2 = some (.iconst 0, 1, .inr (.inr 0), false) := rfl
theorem lk_Mo_comes_3 : sc_lk tb_Mo_comes 3 = some (.istore_n 2, 1, .inl (2, 0), false) := rfl
theorem lk_Mo_comes_4 : sc_lk tb_Mo_comes 4 = some (.iload_n 2, 1, .inl (2, 0), true) := rfl
theorem lk_Mo_comes_5 : sc_lk tb_Mo_comes 5 = some (.aload_n 0, 1, .inl (0, 0), false) := rfl
theorem lk_Mo_comes_6 : sc_lk tb_Mo_comes 6 = some (.getfield 80, 3, .inl (5, 5), false) := rfl
theorem lk_Mo_comes_9 : sc_lk tb_Mo_comes 9 = some (.if_icmp .ge 35, 3, .inl (44, 0), false) := rfl
theorem lk_Mo_comes_12 : sc_lk tb_Mo_comes 12 = some (.iload_n 1, 1, .inl (1, 0), false) := rfl
theorem lk_Mo_comes_13 : sc_lk tb_Mo_comes 13 = some (.ifCond .eq 23, 3, .inl (36, 0), false) := rfl
theorem lk_Mo_comes_16 : sc_lk tb_Mo_comes 16 = some (.aload_n 0, 1, .inl (0, 0), false) := rfl
theorem lk_Mo_comes_17 : sc_lk tb_Mo_comes 17 = some (.iload_n 2, 1, .inl (2, 0), false) := rfl
theorem lk_Mo_comes_18 : sc_lk tb_Mo_comes 18 = some (.invokevirtual 137, 3, .inr (.inl (5, 1, mq_Mo_isChoice)), false) := rfl
theorem lk_Mo_comes_21 : sc_lk tb_Mo_comes 21 = some (.ifCond .eq 11, 3, .inl (32, 0), false) := rfl
theorem lk_Mo_comes_24 : sc_lk tb_Mo_comes 24 = some (.aload_n 0, 1, .inl (0, 0), false) := rfl
theorem lk_Mo_comes_25 : sc_lk tb_Mo_comes 25 = some (.iload_n 2, 1, .inl (2, 0), false) := rfl
theorem lk_Mo_comes_26 : sc_lk tb_Mo_comes 26 = some (.invokevirtual 150, 3, .inr (.inl (5, 1, mq_Mo_goes)), false) := rfl
theorem lk_Mo_comes_29 : sc_lk tb_Mo_comes 29 = some (.ifCond .eq 7, 3, .inl (36, 0), false) := rfl
theorem lk_Mo_comes_32 : sc_lk tb_Mo_comes 32 = some (.iconst 1, 1, .inr (.inr 0), false) := rfl
theorem lk_Mo_comes_33 : sc_lk tb_Mo_comes 33 = some (.goto 4, 3, .inl (37, 0), false) := rfl
theorem lk_Mo_comes_36 : sc_lk tb_Mo_comes 36 = some (.iconst 0, 1, .inr (.inr 0), false) := rfl
theorem lk_Mo_comes_37 : sc_lk tb_Mo_comes 37 = some (.istore_n 1, 1, .inl (1, 0), false) := rfl
theorem lk_Mo_comes_38 : sc_lk tb_Mo_comes 38 = some (.iinc 2 1, 3, .inl (2, 0), false) := rfl
theorem lk_Mo_comes_41 : sc_lk tb_Mo_comes 41 = some (.goto (-37), 3, .inl (4, 0), false) := rfl
theorem lk_Mo_comes_44 : sc_lk tb_Mo_comes 44 = some (.iload_n 1, 1, .inl (1, 0), false) := rfl
theorem lk_Mo_comes_45 : sc_lk tb_Mo_comes 45 = some (.ireturn, 1, .inr (.inr 0), false) := rfl
def tb_Mo_allWeights : sc_T := [(0, .lconst 1, 1, .inr (.inr 1), false), (1, .lstore_n 1, 1, .inl (1, 0), false), (2, .iconst 0, 1, .inr (.inr 0), false), (3, .istore_n 3, 1, .inl (3, 0), false), (4, .iload_n 3, 1, .inl (3, 0), true), (5, .aload_n 0, 1, .inl (0, 0), false), (6, .getfield 80, 3, .inl (5, 5), false), (9, .if_icmp .ge 37, 3, .inl (46, 0), false), (12, .lload_n 1, 1, .inl (1, 0), false), (13, .aload_n 0, 1, .inl (0, 0), false), (14, .getfield 17, 3, .inl (5, 6), false), (17, .iload_n 3, 1, .inl (3, 0), false), (18, .iaload, 1, .inr (.inr 0), false), (19, .iconst 1, 1, .inr (.inr 0), false), (20, .if_icmp .ne 17, 3, .inl (37, 0), false), (23, .iload_n 3, 1, .inl (3, 0), false), (24, .aload_n 0, 1, .inl (0, 0), false), (25, .getfield 38, 3, .inl (5, 13), false), (28, .if_icmp .eq 9, 3, .inl (37, 0), false), (31, .ldc2_w 132, 3, .inr (.inr (12)), false), (34, .goto 4, 3, .inl (38, 0), false), (37, .lconst 1, 1, .inr (.inr 1), false), (38, .lmul, 1, .inr (.inr 0), false), (39, .lstore_n 1, 1, .inl (1, 0), false), (40, .iinc 3 1, 3, .inl (3, 0), false), (43, .goto (-39), 3, .inl (4, 0), false), (46, .lload_n 1, 1, .inl (1, 0), false), (47, .lreturn, 1, .inr (.inr 0), false)]
theorem tk_Mo_allWeights : sc_ok mq_Mo_allWeights tb_Mo_allWeights = true := by decide +kernel
theorem lk_Mo_allWeights_0 : sc_lk tb_Mo_allWeights 0 = some (.lconst 1, 1, .inr (.inr 1), false) := rfl
theorem lk_Mo_allWeights_1 : sc_lk tb_Mo_allWeights 1 = some (.lstore_n 1, 1, .inl (1, 0), false) := rfl
theorem lk_Mo_allWeights_2 : sc_lk tb_Mo_allWeights 2 = some (.iconst 0, 1, .inr (.inr 0), false) := rfl
theorem lk_Mo_allWeights_3 : sc_lk tb_Mo_allWeights 3 = some (.istore_n 3, 1, .inl (3, 0), false) := rfl
theorem lk_Mo_allWeights_4 : sc_lk tb_Mo_allWeights 4 = some (.iload_n 3, 1, .inl (3, 0), true) := rfl
theorem lk_Mo_allWeights_5 : sc_lk tb_Mo_allWeights 5 = some (.aload_n 0, 1, .inl (0, 0), false) := rfl
theorem lk_Mo_allWeights_6 : sc_lk tb_Mo_allWeights 6 = some (.getfield 80, 3, .inl (5, 5), false) := rfl
theorem lk_Mo_allWeights_9 : sc_lk tb_Mo_allWeights 9 = some (.if_icmp .ge 37, 3, .inl (46, 0), false) := rfl
theorem lk_Mo_allWeights_12 : sc_lk tb_Mo_allWeights 12 = some (.lload_n 1, 1, .inl (1, 0), false) := rfl
theorem lk_Mo_allWeights_13 : sc_lk tb_Mo_allWeights 13 = some (.aload_n 0, 1, .inl (0, 0), false) := rfl
theorem lk_Mo_allWeights_14 : sc_lk tb_Mo_allWeights 14 = some (.getfield 17, 3, .inl (5, 6), false) := rfl
theorem lk_Mo_allWeights_17 : sc_lk tb_Mo_allWeights 17 = some (.iload_n 3, 1, .inl (3, 0), false) := rfl
theorem lk_Mo_allWeights_18 : sc_lk tb_Mo_allWeights 18 = some (.iaload, 1, .inr (.inr 0), false) := rfl
theorem lk_Mo_allWeights_19 : sc_lk tb_Mo_allWeights 19 = some (.iconst 1, 1, .inr (.inr 0), false) := rfl
theorem lk_Mo_allWeights_20 : sc_lk tb_Mo_allWeights 20 = some (.if_icmp .ne 17, 3, .inl (37, 0), false) := rfl
theorem lk_Mo_allWeights_23 : sc_lk tb_Mo_allWeights 23 = some (.iload_n 3, 1, .inl (3, 0), false) := rfl
theorem lk_Mo_allWeights_24 : sc_lk tb_Mo_allWeights 24 = some (.aload_n 0, 1, .inl (0, 0), false) := rfl
theorem lk_Mo_allWeights_25 : sc_lk tb_Mo_allWeights 25 = some (.getfield 38, 3, .inl (5, 13), false) := rfl
theorem lk_Mo_allWeights_28 : sc_lk tb_Mo_allWeights 28 = some (.if_icmp .eq 9, 3, .inl (37, 0), false) := rfl
theorem lk_Mo_allWeights_31 : sc_lk tb_Mo_allWeights 31 = some (.ldc2_w 132, 3, .inr (.inr (12)), false) := rfl
theorem lk_Mo_allWeights_34 : sc_lk tb_Mo_allWeights 34 = some (.goto 4, 3, .inl (38, 0), false) := rfl
theorem lk_Mo_allWeights_37 : sc_lk tb_Mo_allWeights 37 = some (.lconst 1, 1, .inr (.inr 1), false) := rfl
theorem lk_Mo_allWeights_38 : sc_lk tb_Mo_allWeights 38 = some (.lmul, 1, .inr (.inr 0), false) := rfl
theorem lk_Mo_allWeights_39 : sc_lk tb_Mo_allWeights 39 = some (.lstore_n 1, 1, .inl (1, 0), false) := rfl
theorem lk_Mo_allWeights_40 : sc_lk tb_Mo_allWeights 40 = some (.iinc 3 1, 3, .inl (3, 0), false) := rfl
theorem lk_Mo_allWeights_43 : sc_lk tb_Mo_allWeights 43 = some (.goto (-39), 3, .inl (4, 0), false) := rfl
theorem lk_Mo_allWeights_46 : sc_lk tb_Mo_allWeights 46 = some (.lload_n 1, 1, .inl (1, 0), false) := rfl
theorem lk_Mo_allWeights_47 : sc_lk tb_Mo_allWeights 47 = some (.lreturn, 1, .inr (.inr 0), false) := rfl
def tb_Mo_tell : sc_T := [(0, .lload_n 1, 1, .inl (1, 0), false), (1, .lconst 0, 1, .inr (.inr 0), false), (2, .lcmp, 1, .inr (.inr 0), false), (3, .ifCond .ge 8, 3, .inl (11, 0), false), (6, .lload_n 1, 1, .inl (1, 0), false), (7, .lneg, 1, .inr (.inr 0), false), (8, .goto 4, 3, .inl (12, 0), false), (11, .lload_n 1, 1, .inl (1, 0), false), (12, .lstore 5, 2, .inl (5, 0), false), (14, .lload_n 3, 1, .inl (3, 0), false), (15, .lstore 7, 2, .inl (7, 0), false), (17, .lload 7, 2, .inl (7, 0), true), (19, .lconst 0, 1, .inr (.inr 0), false), (20, .lcmp, 1, .inr (.inr 0), false), (21, .ifCond .eq 21, 3, .inl (42, 0), false), (24, .lload 5, 2, .inl (5, 0), false), (26, .lload 7, 2, .inl (7, 0), false), (28, .lrem, 1, .inr (.inr 0), false), (29, .lstore 9, 2, .inl (9, 0), false), (31, .lload 7, 2, .inl (7, 0), false), (33, .lstore 5, 2, .inl (5, 0), false), (35, .lload 9, 2, .inl (9, 0), false), (37, .lstore 7, 2, .inl (7, 0), false), (39, .goto (-22), 3, .inl (17, 0), false), (42, .aload_n 0, 1, .inl (0, 0), false), (43, .lload_n 1, 1, .inl (1, 0), false), (44, .lload 5, 2, .inl (5, 0), false), (46, .ldiv, 1, .inr (.inr 0), false), (47, .putfield 77, 3, .inl (5, 3), false), (50, .aload_n 0, 1, .inl (0, 0), false), (51, .lload_n 3, 1, .inl (3, 0), false), (52, .lload 5, 2, .inl (5, 0), false), (54, .ldiv, 1, .inr (.inr 0), false), (55, .putfield 13, 3, .inl (5, 4), false), (58, .iconst 1, 1, .inr (.inr 0), false), (59, .ireturn, 1, .inr (.inr 0), false)]
theorem tk_Mo_tell : sc_ok mq_Mo_tell tb_Mo_tell = true := by decide +kernel
theorem lk_Mo_tell_0 : sc_lk tb_Mo_tell 0 = some (.lload_n 1, 1, .inl (1, 0), false) := rfl
theorem lk_Mo_tell_1 : sc_lk tb_Mo_tell 1 = some (.lconst 0, 1, .inr (.inr 0), false) := rfl
theorem lk_Mo_tell_2 : sc_lk tb_Mo_tell 2 = some (.lcmp, 1, .inr (.inr 0), false) := rfl
theorem lk_Mo_tell_3 : sc_lk tb_Mo_tell 3 = some (.ifCond .ge 8, 3, .inl (11, 0), false) := rfl
theorem lk_Mo_tell_6 : sc_lk tb_Mo_tell 6 = some (.lload_n 1, 1, .inl (1, 0), false) := rfl
theorem lk_Mo_tell_7 : sc_lk tb_Mo_tell 7 = some (.lneg, 1, .inr (.inr 0), false) := rfl
theorem lk_Mo_tell_8 : sc_lk tb_Mo_tell 8 = some (.goto 4, 3, .inl (12, 0), false) := rfl
theorem lk_Mo_tell_11 : sc_lk tb_Mo_tell 11 = some (.lload_n 1, 1, .inl (1, 0), false) := rfl
theorem lk_Mo_tell_12 : sc_lk tb_Mo_tell 12 = some (.lstore 5, 2, .inl (5, 0), false) := rfl
theorem lk_Mo_tell_14 : sc_lk tb_Mo_tell 14 = some (.lload_n 3, 1, .inl (3, 0), false) := rfl
theorem lk_Mo_tell_15 : sc_lk tb_Mo_tell 15 = some (.lstore 7, 2, .inl (7, 0), false) := rfl
theorem lk_Mo_tell_17 : sc_lk tb_Mo_tell 17 = some (.lload 7, 2, .inl (7, 0), true) := rfl
theorem lk_Mo_tell_19 : sc_lk tb_Mo_tell 19 = some (.lconst 0, 1, .inr (.inr 0), false) := rfl
theorem lk_Mo_tell_20 : sc_lk tb_Mo_tell 20 = some (.lcmp, 1, .inr (.inr 0), false) := rfl
theorem lk_Mo_tell_21 : sc_lk tb_Mo_tell 21 = some (.ifCond .eq 21, 3, .inl (42, 0), false) := rfl
theorem lk_Mo_tell_24 : sc_lk tb_Mo_tell 24 = some (.lload 5, 2, .inl (5, 0), false) := rfl
theorem lk_Mo_tell_26 : sc_lk tb_Mo_tell 26 = some (.lload 7, 2, .inl (7, 0), false) := rfl
theorem lk_Mo_tell_28 : sc_lk tb_Mo_tell 28 = some (.lrem, 1, .inr (.inr 0), false) := rfl
theorem lk_Mo_tell_29 : sc_lk tb_Mo_tell 29 = some (.lstore 9, 2, .inl (9, 0), false) := rfl
theorem lk_Mo_tell_31 : sc_lk tb_Mo_tell 31 = some (.lload 7, 2, .inl (7, 0), false) := rfl
theorem lk_Mo_tell_33 : sc_lk tb_Mo_tell 33 = some (.lstore 5, 2, .inl (5, 0), false) := rfl
theorem lk_Mo_tell_35 : sc_lk tb_Mo_tell 35 = some (.lload 9, 2, .inl (9, 0), false) := rfl
theorem lk_Mo_tell_37 : sc_lk tb_Mo_tell 37 = some (.lstore 7, 2, .inl (7, 0), false) := rfl
theorem lk_Mo_tell_39 : sc_lk tb_Mo_tell 39 = some (.goto (-22), 3, .inl (17, 0), false) := rfl
theorem lk_Mo_tell_42 : sc_lk tb_Mo_tell 42 = some (.aload_n 0, 1, .inl (0, 0), false) := rfl
theorem lk_Mo_tell_43 : sc_lk tb_Mo_tell 43 = some (.lload_n 1, 1, .inl (1, 0), false) := rfl
theorem lk_Mo_tell_44 : sc_lk tb_Mo_tell 44 = some (.lload 5, 2, .inl (5, 0), false) := rfl
theorem lk_Mo_tell_46 : sc_lk tb_Mo_tell 46 = some (.ldiv, 1, .inr (.inr 0), false) := rfl
theorem lk_Mo_tell_47 : sc_lk tb_Mo_tell 47 = some (.putfield 77, 3, .inl (5, 3), false) := rfl
theorem lk_Mo_tell_50 : sc_lk tb_Mo_tell 50 = some (.aload_n 0, 1, .inl (0, 0), false) := rfl
theorem lk_Mo_tell_51 : sc_lk tb_Mo_tell 51 = some (.lload_n 3, 1, .inl (3, 0), false) := rfl
theorem lk_Mo_tell_52 : sc_lk tb_Mo_tell 52 = some (.lload 5, 2, .inl (5, 0), false) := rfl
theorem lk_Mo_tell_54 : sc_lk tb_Mo_tell 54 = some (.ldiv, 1, .inr (.inr 0), false) := rfl
theorem lk_Mo_tell_55 : sc_lk tb_Mo_tell 55 = some (.putfield 13, 3, .inl (5, 4), false) := rfl
theorem lk_Mo_tell_58 : sc_lk tb_Mo_tell 58 = some (.iconst 1, 1, .inr (.inr 0), false) := rfl
theorem lk_Mo_tell_59 : sc_lk tb_Mo_tell 59 = some (.ireturn, 1, .inr (.inr 0), false) := rfl
def tb_Mo_does : sc_T := [(0, .aload_n 0, 1, .inl (0, 0), false), (1, .iload_n 1, 1, .inl (1, 0), false), (2, .invokevirtual 99, 3, .inr (.inl (5, 1, mq_Mo_isNode)), false), (5, .ifCond .eq 12, 3, .inl (17, 0), false), (8, .iload_n 2, 1, .inl (2, 0), false), (9, .iconst 0, 1, .inr (.inr 0), false), (10, .iconst 3, 1, .inr (.inr 0), false), (11, .invokestatic 83, 3, .inr (.inl (100, 3, mq_Mo_in)), false), (14, .ifCond .ne 5, 3, .inl (19, 0), false), (17, .iconst (-1), 1, .inr (.inr 0), false), (18, .ireturn, 1, .inr (.inr 0), false), (19, .aload_n 0, 1, .inl (0, 0), false), (20, .getfield 17, 3, .inl (5, 6), false), (23, .iload_n 1, 1, .inl (1, 0), false), (24, .iaload, 1, .inr (.inr 0), false), (25, .iconst 2, 1, .inr (.inr 0), false), (26, .if_icmp .eq 9, 3, .inl (35, 0), false), (29, .aload_n 0, 1, .inl (0, 0), false), (30, .iconst 3, 1, .inr (.inr 0), false), (31, .invokevirtual 103, 3, .inr (.inl (5, 1, mq_Mo_meets)), false), (34, .ireturn, 1, .inr (.inr 0), false), (35, .aload_n 0, 1, .inl (0, 0), false), (36, .getfield 62, 3, .inl (5, 20), false), (39, .iload_n 2, 1, .inl (2, 0), false), (40, .iaload, 1, .inr (.inr 0), false), (41, .ifCond .ge 9, 3, .inl (50, 0), false), (44, .aload_n 0, 1, .inl (0, 0), false), (45, .iconst 1, 1, .inr (.inr 0), false), (46, .invokevirtual 103, 3, .inr (.inl (5, 1, mq_Mo_meets)), false), (49, .ireturn, 1, .inr (.inr 0), false), (50, .aload_n 0, 1, .inl (0, 0), false), (51, .getfield 62, 3, .inl (5, 20), false), (54, .iload_n 2, 1, .inl (2, 0), false), (55, .iaload, 1, .inr (.inr 0), false), (56, .iload_n 1, 1, .inl (1, 0), false), (57, .if_icmp .ge 9, 3, .inl (66, 0), false), (60, .aload_n 0, 1, .inl (0, 0), false), (61, .iconst 5, 1, .inr (.inr 0), false), (62, .invokevirtual 103, 3, .inr (.inl (5, 1, mq_Mo_meets)), false), (65, .ireturn, 1, .inr (.inr 0), false), (66, .aload_n 0, 1, .inl (0, 0), false), (67, .iload_n 1, 1, .inl (1, 0), false), (68, .invokevirtual 156, 3, .inr (.inl (5, 1, mq_Mo_knownAt)), false), (71, .istore_n 3, 1, .inl (3, 0), false), (72, .iconst 1, 1, .inr (.inr 0), false), (73, .istore 4, 2, .inl (4, 0), false), (75, .iconst 0, 1, .inr (.inr 0), false), (76, .istore 5, 2, .inl (5, 0), false), (78, .iload 5, 2, .inl (5, 0), true), (80, .aload_n 0, 1, .inl (0, 0), false), (81, .getfield 80, 3, .inl (5, 5), false), (84, .if_icmp .ge 71, 3, .inl (155, 0), false), (87, .iload_n 3, 1, .inl (3, 0), false), (88, .iload 5, 2, .inl (5, 0), false), (90, .ishr, 1, .inr (.inr 0), false), (91, .iconst 1, 1, .inr (.inr 0), false), (92, .iand, 1, .inr (.inr 0), false), (93, .iconst 1, 1, .inr (.inr 0), false), (94, .if_icmp .ne 7, 3, .inl (101, 0), false), (97, .iconst 1, 1, .inr (.inr 0), false), (98, .goto 4, 3, .inl (102, 0), false), (101, .iconst 0, 1, .inr (.inr 0), false), (102, .istore 6, 2, .inl (6, 0), false), (104, .iload 4, 2, .inl (4, 0), false), (106, .ifCond .eq 40, 3, .inl (146, 0), false), (109, .iload 6, 2, .inl (6, 0), false), (111, .ifCond .eq 31, 3, .inl (142, 0), false), (114, .aload_n 0, 1, .inl (0, 0), false), (115, .getfield 65, 3, .inl (5, 21), false), (118, .bipush 27, 2, .inr (.inr 0), false), (120, .iload_n 2, 1, .inl (2, 0), false), (121, .imul, 1, .inr (.inr 0), false), (122, .iload 5, 2, .inl (5, 0), false), (124, .iadd, 1, .inr (.inr 0), false), (125, .iaload, 1, .inr (.inr 0), false), (126, .iconst 0, 1, .inr (.inr 0), false), (127, .aload_n 0, 1, .inl (0, 0), false), (128, .getfield 20, 3, .inl (5, 7), false), (131, .iload 5, 2, .inl (5, 0), false), (133, .iaload, 1, .inr (.inr 0), false), (134, .iconst 1, 1, .inr (.inr 0), false), (135, .isub, 1, .inr (.inr 0), false), (136, .invokestatic 83, 3, .inr (.inl (100, 3, mq_Mo_in)), false), (139, .ifCond .eq 7, 3, .inl (146, 0), false), (142, .iconst 1, 1, .inr (.inr 0), false), (143, .goto 4, 3, .inl (147, 0), false), (146, .iconst 0, 1, .inr (.inr 0), false), (147, .istore 4, 2, .inl (4, 0), false), (149, .iinc 5 1, 3, .inl (5, 0), false), (152, .goto (-74), 3, .inl (78, 0), false), (155, .iload 4, 2, .inl (4, 0), false), (157, .ifCond .ne 9, 3, .inl (166, 0), false), (160, .aload_n 0, 1, .inl (0, 0), false), (161, .iconst 2, 1, .inr (.inr 0), false), (162, .invokevirtual 103, 3, .inr (.inl (5, 1, mq_Mo_meets)), false), (165, .ireturn, 1, .inr (.inr 0), false), (166, .aload_n 0, 1, .inl (0, 0), false), (167, .invokevirtual 166, 3, .inr (.inl (5, 0, mq_Mo_setPlan)), false), (170, .iconst 0, 1, .inr (.inr 0), false), (171, .istore 5, 2, .inl (5, 0), false), (173, .iload 5, 2, .inl (5, 0), true), (175, .aload_n 0, 1, .inl (0, 0), false), (176, .getfield 80, 3, .inl (5, 5), false), (179, .if_icmp .ge 42, 3, .inl (221, 0), false), (182, .aload_n 0, 1, .inl (0, 0), false), (183, .getfield 42, 3, .inl (5, 14), false), (186, .iload 5, 2, .inl (5, 0), false), (188, .iload_n 3, 1, .inl (3, 0), false), (189, .iload 5, 2, .inl (5, 0), false), (191, .ishr, 1, .inr (.inr 0), false), (192, .iconst 1, 1, .inr (.inr 0), false), (193, .iand, 1, .inr (.inr 0), false), (194, .iconst 1, 1, .inr (.inr 0), false), (195, .if_icmp .ne 18, 3, .inl (213, 0), false), (198, .aload_n 0, 1, .inl (0, 0), false), (199, .getfield 65, 3, .inl (5, 21), false), (202, .bipush 27, 2, .inr (.inr 0), false), (204, .iload_n 2, 1, .inl (2, 0), false), (205, .imul, 1, .inr (.inr 0), false), (206, .iload 5, 2, .inl (5, 0), false), (208, .iadd, 1, .inr (.inr 0), false), (209, .iaload, 1, .inr (.inr 0), false), (210, .goto 4, 3, .inl (214, 0), false), (213, .iconst 0, 1, .inr (.inr 0), false), (214, .iastore, 1, .inr (.inr 0), false), (215, .iinc 5 1, 3, .inl (5, 0), false), (218, .goto (-45), 3, .inl (173, 0), false), (221, .aload_n 0, 1, .inl (0, 0), false), (222, .getfield 32, 3, .inl (5, 11), false), (225, .iload_n 1, 1, .inl (1, 0), false), (226, .iaload, 1, .inr (.inr 0), false), (227, .ifCond .lt 12, 3, .inl (239, 0), false), (230, .aload_n 0, 1, .inl (0, 0), false), (231, .getfield 32, 3, .inl (5, 11), false), (234, .iload_n 1, 1, .inl (1, 0), false), (235, .iaload, 1, .inr (.inr 0), false), (236, .goto 19, 3, .inl (255, 0), false), (239, .aload_n 0, 1, .inl (0, 0), false), (240, .getfield 45, 3, .inl (5, 15), false), (243, .sipush 243, 3, .inr (.inr 0), false), (246, .iload_n 1, 1, .inl (1, 0), false), (247, .imul, 1, .inr (.inr 0), false), (248, .aload_n 0, 1, .inl (0, 0), false), (249, .iload_n 3, 1, .inl (3, 0), false), (250, .invokevirtual 140, 3, .inr (.inl (5, 1, mq_Mo_numberOf)), false), (253, .iadd, 1, .inr (.inr 0), false), (254, .iaload, 1, .inr (.inr 0), false), (255, .ireturn, 1, .inr (.inr 0), false)]
theorem tk_Mo_does : sc_ok mq_Mo_does tb_Mo_does = true := by decide +kernel
set_option maxRecDepth 20000 in
theorem lk_Mo_does_0 : sc_lk tb_Mo_does 0 = some (.aload_n 0, 1, .inl (0, 0), false) := rfl
set_option maxRecDepth 20000 in
theorem lk_Mo_does_1 : sc_lk tb_Mo_does 1 = some (.iload_n 1, 1, .inl (1, 0), false) := rfl
set_option maxRecDepth 20000 in
theorem lk_Mo_does_2 : sc_lk tb_Mo_does 2 = some (.invokevirtual 99, 3, .inr (.inl (5, 1, mq_Mo_isNode)), false) := rfl
set_option maxRecDepth 20000 in
theorem lk_Mo_does_5 : sc_lk tb_Mo_does 5 = some (.ifCond .eq 12, 3, .inl (17, 0), false) := rfl
set_option maxRecDepth 20000 in
theorem lk_Mo_does_8 : sc_lk tb_Mo_does 8 = some (.iload_n 2, 1, .inl (2, 0), false) := rfl
set_option maxRecDepth 20000 in
theorem lk_Mo_does_9 : sc_lk tb_Mo_does 9 = some (.iconst 0, 1, .inr (.inr 0), false) := rfl
set_option maxRecDepth 20000 in
theorem lk_Mo_does_10 : sc_lk tb_Mo_does 10 = some (.iconst 3, 1, .inr (.inr 0), false) := rfl
set_option maxRecDepth 20000 in
theorem lk_Mo_does_11 : sc_lk tb_Mo_does 11 = some (.invokestatic 83, 3, .inr (.inl (100, 3, mq_Mo_in)), false) := rfl
set_option maxRecDepth 20000 in
theorem lk_Mo_does_14 : sc_lk tb_Mo_does 14 = some (.ifCond .ne 5, 3, .inl (19, 0), false) := rfl
set_option maxRecDepth 20000 in
theorem lk_Mo_does_17 : sc_lk tb_Mo_does 17 = some (.iconst (-1), 1, .inr (.inr 0), false) := rfl
set_option maxRecDepth 20000 in
theorem lk_Mo_does_18 : sc_lk tb_Mo_does 18 = some (.ireturn, 1, .inr (.inr 0), false) := rfl
set_option maxRecDepth 20000 in
theorem lk_Mo_does_19 : sc_lk tb_Mo_does 19 = some (.aload_n 0, 1, .inl (0, 0), false) := rfl
set_option maxRecDepth 20000 in
theorem lk_Mo_does_20 : sc_lk tb_Mo_does 20 = some (.getfield 17, 3, .inl (5, 6), false) := rfl
set_option maxRecDepth 20000 in
theorem lk_Mo_does_23 : sc_lk tb_Mo_does 23 = some (.iload_n 1, 1, .inl (1, 0), false) := rfl
set_option maxRecDepth 20000 in
theorem lk_Mo_does_24 : sc_lk tb_Mo_does 24 = some (.iaload, 1, .inr (.inr 0), false) := rfl
set_option maxRecDepth 20000 in
theorem lk_Mo_does_25 : sc_lk tb_Mo_does 25 = some (.iconst 2, 1, .inr (.inr 0), false) := rfl
set_option maxRecDepth 20000 in
theorem lk_Mo_does_26 : sc_lk tb_Mo_does 26 = some (.if_icmp .eq 9, 3, .inl (35, 0), false) := rfl
set_option maxRecDepth 20000 in
theorem lk_Mo_does_29 : sc_lk tb_Mo_does 29 = some (.aload_n 0, 1, .inl (0, 0), false) := rfl
set_option maxRecDepth 20000 in
theorem lk_Mo_does_30 : sc_lk tb_Mo_does 30 = some (.iconst 3, 1, .inr (.inr 0), false) := rfl
set_option maxRecDepth 20000 in
theorem lk_Mo_does_31 : sc_lk tb_Mo_does 31 = some (.invokevirtual 103, 3, .inr (.inl (5, 1, mq_Mo_meets)), false) := rfl
set_option maxRecDepth 20000 in
theorem lk_Mo_does_34 : sc_lk tb_Mo_does 34 = some (.ireturn, 1, .inr (.inr 0), false) := rfl
set_option maxRecDepth 20000 in
theorem lk_Mo_does_35 : sc_lk tb_Mo_does 35 = some (.aload_n 0, 1, .inl (0, 0), false) := rfl
set_option maxRecDepth 20000 in
theorem lk_Mo_does_36 : sc_lk tb_Mo_does 36 = some (.getfield 62, 3, .inl (5, 20), false) := rfl
set_option maxRecDepth 20000 in
theorem lk_Mo_does_39 : sc_lk tb_Mo_does 39 = some (.iload_n 2, 1, .inl (2, 0), false) := rfl
set_option maxRecDepth 20000 in
theorem lk_Mo_does_40 : sc_lk tb_Mo_does 40 = some (.iaload, 1, .inr (.inr 0), false) := rfl
set_option maxRecDepth 20000 in
theorem lk_Mo_does_41 : sc_lk tb_Mo_does 41 = some (.ifCond .ge 9, 3, .inl (50, 0), false) := rfl
set_option maxRecDepth 20000 in
theorem lk_Mo_does_44 : sc_lk tb_Mo_does 44 = some (.aload_n 0, 1, .inl (0, 0), false) := rfl
set_option maxRecDepth 20000 in
theorem lk_Mo_does_45 : sc_lk tb_Mo_does 45 = some (.iconst 1, 1, .inr (.inr 0), false) := rfl
set_option maxRecDepth 20000 in
theorem lk_Mo_does_46 : sc_lk tb_Mo_does 46 = some (.invokevirtual 103, 3, .inr (.inl (5, 1, mq_Mo_meets)), false) := rfl
set_option maxRecDepth 20000 in
theorem lk_Mo_does_49 : sc_lk tb_Mo_does 49 = some (.ireturn, 1, .inr (.inr 0), false) := rfl
set_option maxRecDepth 20000 in
theorem lk_Mo_does_50 : sc_lk tb_Mo_does 50 = some (.aload_n 0, 1, .inl (0, 0), false) := rfl
set_option maxRecDepth 20000 in
theorem lk_Mo_does_51 : sc_lk tb_Mo_does 51 = some (.getfield 62, 3, .inl (5, 20), false) := rfl
set_option maxRecDepth 20000 in
theorem lk_Mo_does_54 : sc_lk tb_Mo_does 54 = some (.iload_n 2, 1, .inl (2, 0), false) := rfl
set_option maxRecDepth 20000 in
theorem lk_Mo_does_55 : sc_lk tb_Mo_does 55 = some (.iaload, 1, .inr (.inr 0), false) := rfl
set_option maxRecDepth 20000 in
theorem lk_Mo_does_56 : sc_lk tb_Mo_does 56 = some (.iload_n 1, 1, .inl (1, 0), false) := rfl
set_option maxRecDepth 20000 in
theorem lk_Mo_does_57 : sc_lk tb_Mo_does 57 = some (.if_icmp .ge 9, 3, .inl (66, 0), false) := rfl
set_option maxRecDepth 20000 in
theorem lk_Mo_does_60 : sc_lk tb_Mo_does 60 = some (.aload_n 0, 1, .inl (0, 0), false) := rfl
set_option maxRecDepth 20000 in
theorem lk_Mo_does_61 : sc_lk tb_Mo_does 61 = some (.iconst 5, 1, .inr (.inr 0), false) := rfl
set_option maxRecDepth 20000 in
theorem lk_Mo_does_62 : sc_lk tb_Mo_does 62 = some (.invokevirtual 103, 3, .inr (.inl (5, 1, mq_Mo_meets)), false) := rfl
set_option maxRecDepth 20000 in
theorem lk_Mo_does_65 : sc_lk tb_Mo_does 65 = some (.ireturn, 1, .inr (.inr 0), false) := rfl
set_option maxRecDepth 20000 in
theorem lk_Mo_does_66 : sc_lk tb_Mo_does 66 = some (.aload_n 0, 1, .inl (0, 0), false) := rfl
set_option maxRecDepth 20000 in
theorem lk_Mo_does_67 : sc_lk tb_Mo_does 67 = some (.iload_n 1, 1, .inl (1, 0), false) := rfl
set_option maxRecDepth 20000 in
theorem lk_Mo_does_68 : sc_lk tb_Mo_does 68 = some (.invokevirtual 156, 3, .inr (.inl (5, 1, mq_Mo_knownAt)), false) := rfl
set_option maxRecDepth 20000 in
theorem lk_Mo_does_71 : sc_lk tb_Mo_does 71 = some (.istore_n 3, 1, .inl (3, 0), false) := rfl
set_option maxRecDepth 20000 in
theorem lk_Mo_does_72 : sc_lk tb_Mo_does 72 = some (.iconst 1, 1, .inr (.inr 0), false) := rfl
set_option maxRecDepth 20000 in
theorem lk_Mo_does_73 : sc_lk tb_Mo_does 73 = some (.istore 4, 2, .inl (4, 0), false) := rfl
set_option maxRecDepth 20000 in
theorem lk_Mo_does_75 : sc_lk tb_Mo_does 75 = some (.iconst 0, 1, .inr (.inr 0), false) := rfl
set_option maxRecDepth 20000 in
theorem lk_Mo_does_76 : sc_lk tb_Mo_does 76 = some (.istore 5, 2, .inl (5, 0), false) := rfl
set_option maxRecDepth 20000 in
theorem lk_Mo_does_78 : sc_lk tb_Mo_does 78 = some (.iload 5, 2, .inl (5, 0), true) := rfl
set_option maxRecDepth 20000 in
theorem lk_Mo_does_80 : sc_lk tb_Mo_does 80 = some (.aload_n 0, 1, .inl (0, 0), false) := rfl
set_option maxRecDepth 20000 in
theorem lk_Mo_does_81 : sc_lk tb_Mo_does 81 = some (.getfield 80, 3, .inl (5, 5), false) := rfl
set_option maxRecDepth 20000 in
theorem lk_Mo_does_84 : sc_lk tb_Mo_does 84 = some (.if_icmp .ge 71, 3, .inl (155, 0), false) := rfl
set_option maxRecDepth 20000 in
theorem lk_Mo_does_87 : sc_lk tb_Mo_does 87 = some (.iload_n 3, 1, .inl (3, 0), false) := rfl
set_option maxRecDepth 20000 in
theorem lk_Mo_does_88 : sc_lk tb_Mo_does 88 = some (.iload 5, 2, .inl (5, 0), false) := rfl
set_option maxRecDepth 20000 in
theorem lk_Mo_does_90 : sc_lk tb_Mo_does 90 = some (.ishr, 1, .inr (.inr 0), false) := rfl
set_option maxRecDepth 20000 in
theorem lk_Mo_does_91 : sc_lk tb_Mo_does 91 = some (.iconst 1, 1, .inr (.inr 0), false) := rfl
set_option maxRecDepth 20000 in
theorem lk_Mo_does_92 : sc_lk tb_Mo_does 92 = some (.iand, 1, .inr (.inr 0), false) := rfl
set_option maxRecDepth 20000 in
theorem lk_Mo_does_93 : sc_lk tb_Mo_does 93 = some (.iconst 1, 1, .inr (.inr 0), false) := rfl
set_option maxRecDepth 20000 in
theorem lk_Mo_does_94 : sc_lk tb_Mo_does 94 = some (.if_icmp .ne 7, 3, .inl (101, 0), false) := rfl
set_option maxRecDepth 20000 in
theorem lk_Mo_does_97 : sc_lk tb_Mo_does 97 = some (.iconst 1, 1, .inr (.inr 0), false) := rfl
set_option maxRecDepth 20000 in
theorem lk_Mo_does_98 : sc_lk tb_Mo_does 98 = some (.goto 4, 3, .inl (102, 0), false) := rfl
set_option maxRecDepth 20000 in
theorem lk_Mo_does_101 : sc_lk tb_Mo_does 101 = some (.iconst 0, 1, .inr (.inr 0), false) := rfl
set_option maxRecDepth 20000 in
theorem lk_Mo_does_102 : sc_lk tb_Mo_does 102 = some (.istore 6, 2, .inl (6, 0), false) := rfl
set_option maxRecDepth 20000 in
theorem lk_Mo_does_104 : sc_lk tb_Mo_does 104 = some (.iload 4, 2, .inl (4, 0), false) := rfl
set_option maxRecDepth 20000 in
theorem lk_Mo_does_106 : sc_lk tb_Mo_does 106 = some (.ifCond .eq 40, 3, .inl (146, 0), false) := rfl
set_option maxRecDepth 20000 in
theorem lk_Mo_does_109 : sc_lk tb_Mo_does 109 = some (.iload 6, 2, .inl (6, 0), false) := rfl
set_option maxRecDepth 20000 in
theorem lk_Mo_does_111 : sc_lk tb_Mo_does 111 = some (.ifCond .eq 31, 3, .inl (142, 0), false) := rfl
set_option maxRecDepth 20000 in
theorem lk_Mo_does_114 : sc_lk tb_Mo_does 114 = some (.aload_n 0, 1, .inl (0, 0), false) := rfl
set_option maxRecDepth 20000 in
theorem lk_Mo_does_115 : sc_lk tb_Mo_does 115 = some (.getfield 65, 3, .inl (5, 21), false) := rfl
set_option maxRecDepth 20000 in
theorem lk_Mo_does_118 : sc_lk tb_Mo_does 118 = some (.bipush 27, 2, .inr (.inr 0), false) := rfl
set_option maxRecDepth 20000 in
theorem lk_Mo_does_120 : sc_lk tb_Mo_does 120 = some (.iload_n 2, 1, .inl (2, 0), false) := rfl
set_option maxRecDepth 20000 in
theorem lk_Mo_does_121 : sc_lk tb_Mo_does 121 = some (.imul, 1, .inr (.inr 0), false) := rfl
set_option maxRecDepth 20000 in
theorem lk_Mo_does_122 : sc_lk tb_Mo_does 122 = some (.iload 5, 2, .inl (5, 0), false) := rfl
set_option maxRecDepth 20000 in
theorem lk_Mo_does_124 : sc_lk tb_Mo_does 124 = some (.iadd, 1, .inr (.inr 0), false) := rfl
set_option maxRecDepth 20000 in
theorem lk_Mo_does_125 : sc_lk tb_Mo_does 125 = some (.iaload, 1, .inr (.inr 0), false) := rfl
set_option maxRecDepth 20000 in
theorem lk_Mo_does_126 : sc_lk tb_Mo_does 126 = some (.iconst 0, 1, .inr (.inr 0), false) := rfl
set_option maxRecDepth 20000 in
theorem lk_Mo_does_127 : sc_lk tb_Mo_does 127 = some (.aload_n 0, 1, .inl (0, 0), false) := rfl
set_option maxRecDepth 20000 in
theorem lk_Mo_does_128 : sc_lk tb_Mo_does 128 = some (.getfield 20, 3, .inl (5, 7), false) := rfl
set_option maxRecDepth 20000 in
theorem lk_Mo_does_131 : sc_lk tb_Mo_does 131 = some (.iload 5, 2, .inl (5, 0), false) := rfl
set_option maxRecDepth 20000 in
theorem lk_Mo_does_133 : sc_lk tb_Mo_does 133 = some (.iaload, 1, .inr (.inr 0), false) := rfl
set_option maxRecDepth 20000 in
theorem lk_Mo_does_134 : sc_lk tb_Mo_does 134 = some (.iconst 1, 1, .inr (.inr 0), false) := rfl
set_option maxRecDepth 20000 in
theorem lk_Mo_does_135 : sc_lk tb_Mo_does 135 = some (.isub, 1, .inr (.inr 0), false) := rfl
set_option maxRecDepth 20000 in
theorem lk_Mo_does_136 : sc_lk tb_Mo_does 136 = some (.invokestatic 83, 3, .inr (.inl (100, 3, mq_Mo_in)), false) := rfl
set_option maxRecDepth 20000 in
theorem lk_Mo_does_139 : sc_lk tb_Mo_does 139 = some (.ifCond .eq 7, 3, .inl (146, 0), false) := rfl
set_option maxRecDepth 20000 in
theorem lk_Mo_does_142 : sc_lk tb_Mo_does 142 = some (.iconst 1, 1, .inr (.inr 0), false) := rfl
set_option maxRecDepth 20000 in
theorem lk_Mo_does_143 : sc_lk tb_Mo_does 143 = some (.goto 4, 3, .inl (147, 0), false) := rfl
set_option maxRecDepth 20000 in
theorem lk_Mo_does_146 : sc_lk tb_Mo_does 146 = some (.iconst 0, 1, .inr (.inr 0), false) := rfl
set_option maxRecDepth 20000 in
theorem lk_Mo_does_147 : sc_lk tb_Mo_does 147 = some (.istore 4, 2, .inl (4, 0), false) := rfl
set_option maxRecDepth 20000 in
theorem lk_Mo_does_149 : sc_lk tb_Mo_does 149 = some (.iinc 5 1, 3, .inl (5, 0), false) := rfl
set_option maxRecDepth 20000 in
theorem lk_Mo_does_152 : sc_lk tb_Mo_does 152 = some (.goto (-74), 3, .inl (78, 0), false) := rfl
set_option maxRecDepth 20000 in
theorem lk_Mo_does_155 : sc_lk tb_Mo_does 155 = some (.iload 4, 2, .inl (4, 0), false) := rfl
set_option maxRecDepth 20000 in
theorem lk_Mo_does_157 : sc_lk tb_Mo_does 157 = some (.ifCond .ne 9, 3, .inl (166, 0), false) := rfl
set_option maxRecDepth 20000 in
theorem lk_Mo_does_160 : sc_lk tb_Mo_does 160 = some (.aload_n 0, 1, .inl (0, 0), false) := rfl
set_option maxRecDepth 20000 in
theorem lk_Mo_does_161 : sc_lk tb_Mo_does 161 = some (.iconst 2, 1, .inr (.inr 0), false) := rfl
set_option maxRecDepth 20000 in
theorem lk_Mo_does_162 : sc_lk tb_Mo_does 162 = some (.invokevirtual 103, 3, .inr (.inl (5, 1, mq_Mo_meets)), false) := rfl
set_option maxRecDepth 20000 in
theorem lk_Mo_does_165 : sc_lk tb_Mo_does 165 = some (.ireturn, 1, .inr (.inr 0), false) := rfl
set_option maxRecDepth 20000 in
theorem lk_Mo_does_166 : sc_lk tb_Mo_does 166 = some (.aload_n 0, 1, .inl (0, 0), false) := rfl
set_option maxRecDepth 20000 in
theorem lk_Mo_does_167 : sc_lk tb_Mo_does 167 = some (.invokevirtual 166, 3, .inr (.inl (5, 0, mq_Mo_setPlan)), false) := rfl
set_option maxRecDepth 20000 in
theorem lk_Mo_does_170 : sc_lk tb_Mo_does 170 = some (.iconst 0, 1, .inr (.inr 0), false) := rfl
set_option maxRecDepth 20000 in
theorem lk_Mo_does_171 : sc_lk tb_Mo_does 171 = some (.istore 5, 2, .inl (5, 0), false) := rfl
set_option maxRecDepth 20000 in
theorem lk_Mo_does_173 : sc_lk tb_Mo_does 173 = some (.iload 5, 2, .inl (5, 0), true) := rfl
set_option maxRecDepth 20000 in
theorem lk_Mo_does_175 : sc_lk tb_Mo_does 175 = some (.aload_n 0, 1, .inl (0, 0), false) := rfl
set_option maxRecDepth 20000 in
theorem lk_Mo_does_176 : sc_lk tb_Mo_does 176 = some (.getfield 80, 3, .inl (5, 5), false) := rfl
set_option maxRecDepth 20000 in
theorem lk_Mo_does_179 : sc_lk tb_Mo_does 179 = some (.if_icmp .ge 42, 3, .inl (221, 0), false) := rfl
set_option maxRecDepth 20000 in
theorem lk_Mo_does_182 : sc_lk tb_Mo_does 182 = some (.aload_n 0, 1, .inl (0, 0), false) := rfl
set_option maxRecDepth 20000 in
theorem lk_Mo_does_183 : sc_lk tb_Mo_does 183 = some (.getfield 42, 3, .inl (5, 14), false) := rfl
set_option maxRecDepth 20000 in
theorem lk_Mo_does_186 : sc_lk tb_Mo_does 186 = some (.iload 5, 2, .inl (5, 0), false) := rfl
set_option maxRecDepth 20000 in
theorem lk_Mo_does_188 : sc_lk tb_Mo_does 188 = some (.iload_n 3, 1, .inl (3, 0), false) := rfl
set_option maxRecDepth 20000 in
theorem lk_Mo_does_189 : sc_lk tb_Mo_does 189 = some (.iload 5, 2, .inl (5, 0), false) := rfl
set_option maxRecDepth 20000 in
theorem lk_Mo_does_191 : sc_lk tb_Mo_does 191 = some (.ishr, 1, .inr (.inr 0), false) := rfl
set_option maxRecDepth 20000 in
theorem lk_Mo_does_192 : sc_lk tb_Mo_does 192 = some (.iconst 1, 1, .inr (.inr 0), false) := rfl
set_option maxRecDepth 20000 in
theorem lk_Mo_does_193 : sc_lk tb_Mo_does 193 = some (.iand, 1, .inr (.inr 0), false) := rfl
set_option maxRecDepth 20000 in
theorem lk_Mo_does_194 : sc_lk tb_Mo_does 194 = some (.iconst 1, 1, .inr (.inr 0), false) := rfl
set_option maxRecDepth 20000 in
theorem lk_Mo_does_195 : sc_lk tb_Mo_does 195 = some (.if_icmp .ne 18, 3, .inl (213, 0), false) := rfl
set_option maxRecDepth 20000 in
theorem lk_Mo_does_198 : sc_lk tb_Mo_does 198 = some (.aload_n 0, 1, .inl (0, 0), false) := rfl
set_option maxRecDepth 20000 in
theorem lk_Mo_does_199 : sc_lk tb_Mo_does 199 = some (.getfield 65, 3, .inl (5, 21), false) := rfl
set_option maxRecDepth 20000 in
theorem lk_Mo_does_202 : sc_lk tb_Mo_does 202 = some (.bipush 27, 2, .inr (.inr 0), false) := rfl
set_option maxRecDepth 20000 in
theorem lk_Mo_does_204 : sc_lk tb_Mo_does 204 = some (.iload_n 2, 1, .inl (2, 0), false) := rfl
set_option maxRecDepth 20000 in
theorem lk_Mo_does_205 : sc_lk tb_Mo_does 205 = some (.imul, 1, .inr (.inr 0), false) := rfl
set_option maxRecDepth 20000 in
theorem lk_Mo_does_206 : sc_lk tb_Mo_does 206 = some (.iload 5, 2, .inl (5, 0), false) := rfl
set_option maxRecDepth 20000 in
theorem lk_Mo_does_208 : sc_lk tb_Mo_does 208 = some (.iadd, 1, .inr (.inr 0), false) := rfl
set_option maxRecDepth 20000 in
theorem lk_Mo_does_209 : sc_lk tb_Mo_does 209 = some (.iaload, 1, .inr (.inr 0), false) := rfl
set_option maxRecDepth 20000 in
theorem lk_Mo_does_210 : sc_lk tb_Mo_does 210 = some (.goto 4, 3, .inl (214, 0), false) := rfl
set_option maxRecDepth 20000 in
theorem lk_Mo_does_213 : sc_lk tb_Mo_does 213 = some (.iconst 0, 1, .inr (.inr 0), false) := rfl
set_option maxRecDepth 20000 in
theorem lk_Mo_does_214 : sc_lk tb_Mo_does 214 = some (.iastore, 1, .inr (.inr 0), false) := rfl
set_option maxRecDepth 20000 in
theorem lk_Mo_does_215 : sc_lk tb_Mo_does 215 = some (.iinc 5 1, 3, .inl (5, 0), false) := rfl
set_option maxRecDepth 20000 in
theorem lk_Mo_does_218 : sc_lk tb_Mo_does 218 = some (.goto (-45), 3, .inl (173, 0), false) := rfl
set_option maxRecDepth 20000 in
theorem lk_Mo_does_221 : sc_lk tb_Mo_does 221 = some (.aload_n 0, 1, .inl (0, 0), false) := rfl
set_option maxRecDepth 20000 in
theorem lk_Mo_does_222 : sc_lk tb_Mo_does 222 = some (.getfield 32, 3, .inl (5, 11), false) := rfl
set_option maxRecDepth 20000 in
theorem lk_Mo_does_225 : sc_lk tb_Mo_does 225 = some (.iload_n 1, 1, .inl (1, 0), false) := rfl
set_option maxRecDepth 20000 in
theorem lk_Mo_does_226 : sc_lk tb_Mo_does 226 = some (.iaload, 1, .inr (.inr 0), false) := rfl
set_option maxRecDepth 20000 in
theorem lk_Mo_does_227 : sc_lk tb_Mo_does 227 = some (.ifCond .lt 12, 3, .inl (239, 0), false) := rfl
set_option maxRecDepth 20000 in
theorem lk_Mo_does_230 : sc_lk tb_Mo_does 230 = some (.aload_n 0, 1, .inl (0, 0), false) := rfl
set_option maxRecDepth 20000 in
theorem lk_Mo_does_231 : sc_lk tb_Mo_does 231 = some (.getfield 32, 3, .inl (5, 11), false) := rfl
set_option maxRecDepth 20000 in
theorem lk_Mo_does_234 : sc_lk tb_Mo_does 234 = some (.iload_n 1, 1, .inl (1, 0), false) := rfl
set_option maxRecDepth 20000 in
theorem lk_Mo_does_235 : sc_lk tb_Mo_does 235 = some (.iaload, 1, .inr (.inr 0), false) := rfl
set_option maxRecDepth 20000 in
theorem lk_Mo_does_236 : sc_lk tb_Mo_does 236 = some (.goto 19, 3, .inl (255, 0), false) := rfl
set_option maxRecDepth 20000 in
theorem lk_Mo_does_239 : sc_lk tb_Mo_does 239 = some (.aload_n 0, 1, .inl (0, 0), false) := rfl
set_option maxRecDepth 20000 in
theorem lk_Mo_does_240 : sc_lk tb_Mo_does 240 = some (.getfield 45, 3, .inl (5, 15), false) := rfl
set_option maxRecDepth 20000 in
theorem lk_Mo_does_243 : sc_lk tb_Mo_does 243 = some (.sipush 243, 3, .inr (.inr 0), false) := rfl
set_option maxRecDepth 20000 in
theorem lk_Mo_does_246 : sc_lk tb_Mo_does 246 = some (.iload_n 1, 1, .inl (1, 0), false) := rfl
set_option maxRecDepth 20000 in
theorem lk_Mo_does_247 : sc_lk tb_Mo_does 247 = some (.imul, 1, .inr (.inr 0), false) := rfl
set_option maxRecDepth 20000 in
theorem lk_Mo_does_248 : sc_lk tb_Mo_does 248 = some (.aload_n 0, 1, .inl (0, 0), false) := rfl
set_option maxRecDepth 20000 in
theorem lk_Mo_does_249 : sc_lk tb_Mo_does 249 = some (.iload_n 3, 1, .inl (3, 0), false) := rfl
set_option maxRecDepth 20000 in
theorem lk_Mo_does_250 : sc_lk tb_Mo_does 250 = some (.invokevirtual 140, 3, .inr (.inl (5, 1, mq_Mo_numberOf)), false) := rfl
set_option maxRecDepth 20000 in
theorem lk_Mo_does_253 : sc_lk tb_Mo_does 253 = some (.iadd, 1, .inr (.inr 0), false) := rfl
set_option maxRecDepth 20000 in
theorem lk_Mo_does_254 : sc_lk tb_Mo_does 254 = some (.iaload, 1, .inr (.inr 0), false) := rfl
set_option maxRecDepth 20000 in
theorem lk_Mo_does_255 : sc_lk tb_Mo_does 255 = some (.ireturn, 1, .inr (.inr 0), false) := rfl
def tb_Mo_bestForgetting : sc_T := [(0, .aload_n 0, 1, .inl (0, 0), false), (1, .invokevirtual 187, 3, .inr (.inl (5, 0, mq_Mo_isTooMuch)), false), (4, .ifCond .eq 8, 3, .inl (12, 0), false), (7, .bipush (-6), 2, .inr (.inr 0), false), (9, .goto 15, 3, .inl (24, 0), false), (12, .aload_n 0, 1, .inl (0, 0), false), (13, .aload_n 0, 1, .inl (0, 0), false), (14, .invokevirtual 190, 3, .inr (.inl (5, 0, mq_Mo_forgettingSum)), false), (17, .aload_n 0, 1, .inl (0, 0), false), (18, .invokevirtual 175, 3, .inr (.inl (5, 0, mq_Mo_allWeights)), false), (21, .invokevirtual 178, 3, .inr (.inl (5, 2, mq_Mo_tell)), false), (24, .ireturn, 1, .inr (.inr 0), false)]
theorem tk_Mo_bestForgetting : sc_ok mq_Mo_bestForgetting tb_Mo_bestForgetting = true := by decide +kernel
theorem lk_Mo_bestForgetting_0 : sc_lk tb_Mo_bestForgetting 0 = some (.aload_n 0, 1, .inl (0, 0), false) := rfl
theorem lk_Mo_bestForgetting_1 : sc_lk tb_Mo_bestForgetting 1 = some (.invokevirtual 187, 3, .inr (.inl (5, 0, mq_Mo_isTooMuch)), false) := rfl
theorem lk_Mo_bestForgetting_4 : sc_lk tb_Mo_bestForgetting 4 = some (.ifCond .eq 8, 3, .inl (12, 0), false) := rfl
theorem lk_Mo_bestForgetting_7 : sc_lk tb_Mo_bestForgetting 7 = some (.bipush (-6), 2, .inr (.inr 0), false) := rfl
theorem lk_Mo_bestForgetting_9 : sc_lk tb_Mo_bestForgetting 9 = some (.goto 15, 3, .inl (24, 0), false) := rfl
theorem lk_Mo_bestForgetting_12 : sc_lk tb_Mo_bestForgetting 12 = some (.aload_n 0, 1, .inl (0, 0), false) := rfl
theorem lk_Mo_bestForgetting_13 : sc_lk tb_Mo_bestForgetting 13 = some (.aload_n 0, 1, .inl (0, 0), false) := rfl
theorem lk_Mo_bestForgetting_14 : sc_lk tb_Mo_bestForgetting 14 = some (.invokevirtual 190, 3, .inr (.inl (5, 0, mq_Mo_forgettingSum)), false) := rfl
theorem lk_Mo_bestForgetting_17 : sc_lk tb_Mo_bestForgetting 17 = some (.aload_n 0, 1, .inl (0, 0), false) := rfl
theorem lk_Mo_bestForgetting_18 : sc_lk tb_Mo_bestForgetting 18 = some (.invokevirtual 175, 3, .inr (.inl (5, 0, mq_Mo_allWeights)), false) := rfl
theorem lk_Mo_bestForgetting_21 : sc_lk tb_Mo_bestForgetting 21 = some (.invokevirtual 178, 3, .inr (.inl (5, 2, mq_Mo_tell)), false) := rfl
theorem lk_Mo_bestForgetting_24 : sc_lk tb_Mo_bestForgetting 24 = some (.ireturn, 1, .inr (.inr 0), false) := rfl
def tb_Mo_isTooMuch : sc_T := [(0, .lconst 1, 1, .inr (.inr 1), false), (1, .lstore_n 1, 1, .inl (1, 0), false), (2, .iconst 0, 1, .inr (.inr 0), false), (3, .istore_n 3, 1, .inl (3, 0), false), (4, .iload_n 3, 1, .inl (3, 0), true), (5, .aload_n 0, 1, .inl (0, 0), false), (6, .getfield 80, 3, .inl (5, 5), false), (9, .if_icmp .ge 101, 3, .inl (110, 0), false), (12, .iconst 1, 1, .inr (.inr 0), false), (13, .istore 4, 2, .inl (4, 0), false), (15, .iconst 0, 1, .inr (.inr 0), false), (16, .istore 5, 2, .inl (5, 0), false), (18, .iload 5, 2, .inl (5, 0), true), (20, .iload_n 3, 1, .inl (3, 0), false), (21, .if_icmp .ge 40, 3, .inl (61, 0), false), (24, .iload 4, 2, .inl (4, 0), false), (26, .aload_n 0, 1, .inl (0, 0), false), (27, .getfield 29, 3, .inl (5, 10), false), (30, .iload_n 3, 1, .inl (3, 0), false), (31, .iaload, 1, .inr (.inr 0), false), (32, .iload 5, 2, .inl (5, 0), false), (34, .ishr, 1, .inr (.inr 0), false), (35, .iconst 1, 1, .inr (.inr 0), false), (36, .iand, 1, .inr (.inr 0), false), (37, .iconst 1, 1, .inr (.inr 0), false), (38, .if_icmp .ne 13, 3, .inl (51, 0), false), (41, .aload_n 0, 1, .inl (0, 0), false), (42, .getfield 20, 3, .inl (5, 7), false), (45, .iload 5, 2, .inl (5, 0), false), (47, .iaload, 1, .inr (.inr 0), false), (48, .goto 4, 3, .inl (52, 0), false), (51, .iconst 1, 1, .inr (.inr 0), false), (52, .imul, 1, .inr (.inr 0), false), (53, .istore 4, 2, .inl (4, 0), false), (55, .iinc 5 1, 3, .inl (5, 0), false), (58, .goto (-40), 3, .inl (18, 0), false), (61, .iconst 0, 1, .inr (.inr 0), false), (62, .istore 5, 2, .inl (5, 0), false), (64, .iload 5, 2, .inl (5, 0), true), (66, .iload 4, 2, .inl (4, 0), false), (68, .if_icmp .ge 36, 3, .inl (104, 0), false), (71, .aload_n 0, 1, .inl (0, 0), false), (72, .iload_n 3, 1, .inl (3, 0), false), (73, .invokevirtual 117, 3, .inr (.inl (5, 1, mq_Mo_kindOf)), false), (76, .iconst 2, 1, .inr (.inr 0), false), (77, .if_icmp .ne 27, 3, .inl (104, 0), false), (80, .lload_n 1, 1, .inl (1, 0), false), (81, .ldc2_w 185, 3, .inr (.inr (512)), false), (84, .lcmp, 1, .inr (.inr 0), false), (85, .ifCond .gt 19, 3, .inl (104, 0), false), (88, .lload_n 1, 1, .inl (1, 0), false), (89, .aload_n 0, 1, .inl (0, 0), false), (90, .getfield 20, 3, .inl (5, 7), false), (93, .iload_n 3, 1, .inl (3, 0), false), (94, .iaload, 1, .inr (.inr 0), false), (95, .i2l, 1, .inr (.inr 0), false), (96, .lmul, 1, .inr (.inr 0), false), (97, .lstore_n 1, 1, .inl (1, 0), false), (98, .iinc 5 1, 3, .inl (5, 0), false), (101, .goto (-37), 3, .inl (64, 0), false), (104, .iinc 3 1, 3, .inl (3, 0), false), (107, .goto (-103), 3, .inl (4, 0), false), (110, .lload_n 1, 1, .inl (1, 0), false), (111, .ldc2_w 185, 3, .inr (.inr (512)), false), (114, .lcmp, 1, .inr (.inr 0), false), (115, .ifCond .le 7, 3, .inl (122, 0), false), (118, .iconst 1, 1, .inr (.inr 0), false), (119, .goto 4, 3, .inl (123, 0), false), (122, .iconst 0, 1, .inr (.inr 0), false), (123, .ireturn, 1, .inr (.inr 0), false)]
theorem tk_Mo_isTooMuch : sc_ok mq_Mo_isTooMuch tb_Mo_isTooMuch = true := by decide +kernel
theorem lk_Mo_isTooMuch_0 : sc_lk tb_Mo_isTooMuch 0 = some (.lconst 1, 1, .inr (.inr 1), false) := rfl
theorem lk_Mo_isTooMuch_1 : sc_lk tb_Mo_isTooMuch 1 = some (.lstore_n 1, 1, .inl (1, 0), false) := rfl
theorem lk_Mo_isTooMuch_2 : sc_lk tb_Mo_isTooMuch 2 = some (.iconst 0, 1, .inr (.inr 0), false) := rfl
theorem lk_Mo_isTooMuch_3 : sc_lk tb_Mo_isTooMuch 3 = some (.istore_n 3, 1, .inl (3, 0), false) := rfl
theorem lk_Mo_isTooMuch_4 : sc_lk tb_Mo_isTooMuch 4 = some (.iload_n 3, 1, .inl (3, 0), true) := rfl
theorem lk_Mo_isTooMuch_5 : sc_lk tb_Mo_isTooMuch 5 = some (.aload_n 0, 1, .inl (0, 0), false) := rfl
theorem lk_Mo_isTooMuch_6 : sc_lk tb_Mo_isTooMuch 6 = some (.getfield 80, 3, .inl (5, 5), false) := rfl
theorem lk_Mo_isTooMuch_9 : sc_lk tb_Mo_isTooMuch 9 = some (.if_icmp .ge 101, 3, .inl (110, 0), false) := rfl
theorem lk_Mo_isTooMuch_12 : sc_lk tb_Mo_isTooMuch 12 = some (.iconst 1, 1, .inr (.inr 0), false) := rfl
theorem lk_Mo_isTooMuch_13 : sc_lk tb_Mo_isTooMuch 13 = some (.istore 4, 2, .inl (4, 0), false) := rfl
theorem lk_Mo_isTooMuch_15 : sc_lk tb_Mo_isTooMuch 15 = some (.iconst 0, 1, .inr (.inr 0), false) := rfl
theorem lk_Mo_isTooMuch_16 : sc_lk tb_Mo_isTooMuch 16 = some (.istore 5, 2, .inl (5, 0), false) := rfl
theorem lk_Mo_isTooMuch_18 : sc_lk tb_Mo_isTooMuch 18 = some (.iload 5, 2, .inl (5, 0), true) := rfl
theorem lk_Mo_isTooMuch_20 : sc_lk tb_Mo_isTooMuch 20 = some (.iload_n 3, 1, .inl (3, 0), false) := rfl
theorem lk_Mo_isTooMuch_21 : sc_lk tb_Mo_isTooMuch 21 = some (.if_icmp .ge 40, 3, .inl (61, 0), false) := rfl
theorem lk_Mo_isTooMuch_24 : sc_lk tb_Mo_isTooMuch 24 = some (.iload 4, 2, .inl (4, 0), false) := rfl
theorem lk_Mo_isTooMuch_26 : sc_lk tb_Mo_isTooMuch 26 = some (.aload_n 0, 1, .inl (0, 0), false) := rfl
theorem lk_Mo_isTooMuch_27 : sc_lk tb_Mo_isTooMuch 27 = some (.getfield 29, 3, .inl (5, 10), false) := rfl
theorem lk_Mo_isTooMuch_30 : sc_lk tb_Mo_isTooMuch 30 = some (.iload_n 3, 1, .inl (3, 0), false) := rfl
theorem lk_Mo_isTooMuch_31 : sc_lk tb_Mo_isTooMuch 31 = some (.iaload, 1, .inr (.inr 0), false) := rfl
theorem lk_Mo_isTooMuch_32 : sc_lk tb_Mo_isTooMuch 32 = some (.iload 5, 2, .inl (5, 0), false) := rfl
theorem lk_Mo_isTooMuch_34 : sc_lk tb_Mo_isTooMuch 34 = some (.ishr, 1, .inr (.inr 0), false) := rfl
theorem lk_Mo_isTooMuch_35 : sc_lk tb_Mo_isTooMuch 35 = some (.iconst 1, 1, .inr (.inr 0), false) := rfl
theorem lk_Mo_isTooMuch_36 : sc_lk tb_Mo_isTooMuch 36 = some (.iand, 1, .inr (.inr 0), false) := rfl
theorem lk_Mo_isTooMuch_37 : sc_lk tb_Mo_isTooMuch 37 = some (.iconst 1, 1, .inr (.inr 0), false) := rfl
theorem lk_Mo_isTooMuch_38 : sc_lk tb_Mo_isTooMuch 38 = some (.if_icmp .ne 13, 3, .inl (51, 0), false) := rfl
theorem lk_Mo_isTooMuch_41 : sc_lk tb_Mo_isTooMuch 41 = some (.aload_n 0, 1, .inl (0, 0), false) := rfl
theorem lk_Mo_isTooMuch_42 : sc_lk tb_Mo_isTooMuch 42 = some (.getfield 20, 3, .inl (5, 7), false) := rfl
theorem lk_Mo_isTooMuch_45 : sc_lk tb_Mo_isTooMuch 45 = some (.iload 5, 2, .inl (5, 0), false) := rfl
theorem lk_Mo_isTooMuch_47 : sc_lk tb_Mo_isTooMuch 47 = some (.iaload, 1, .inr (.inr 0), false) := rfl
theorem lk_Mo_isTooMuch_48 : sc_lk tb_Mo_isTooMuch 48 = some (.goto 4, 3, .inl (52, 0), false) := rfl
theorem lk_Mo_isTooMuch_51 : sc_lk tb_Mo_isTooMuch 51 = some (.iconst 1, 1, .inr (.inr 0), false) := rfl
theorem lk_Mo_isTooMuch_52 : sc_lk tb_Mo_isTooMuch 52 = some (.imul, 1, .inr (.inr 0), false) := rfl
theorem lk_Mo_isTooMuch_53 : sc_lk tb_Mo_isTooMuch 53 = some (.istore 4, 2, .inl (4, 0), false) := rfl
theorem lk_Mo_isTooMuch_55 : sc_lk tb_Mo_isTooMuch 55 = some (.iinc 5 1, 3, .inl (5, 0), false) := rfl
theorem lk_Mo_isTooMuch_58 : sc_lk tb_Mo_isTooMuch 58 = some (.goto (-40), 3, .inl (18, 0), false) := rfl
theorem lk_Mo_isTooMuch_61 : sc_lk tb_Mo_isTooMuch 61 = some (.iconst 0, 1, .inr (.inr 0), false) := rfl
theorem lk_Mo_isTooMuch_62 : sc_lk tb_Mo_isTooMuch 62 = some (.istore 5, 2, .inl (5, 0), false) := rfl
theorem lk_Mo_isTooMuch_64 : sc_lk tb_Mo_isTooMuch 64 = some (.iload 5, 2, .inl (5, 0), true) := rfl
theorem lk_Mo_isTooMuch_66 : sc_lk tb_Mo_isTooMuch 66 = some (.iload 4, 2, .inl (4, 0), false) := rfl
theorem lk_Mo_isTooMuch_68 : sc_lk tb_Mo_isTooMuch 68 = some (.if_icmp .ge 36, 3, .inl (104, 0), false) := rfl
theorem lk_Mo_isTooMuch_71 : sc_lk tb_Mo_isTooMuch 71 = some (.aload_n 0, 1, .inl (0, 0), false) := rfl
theorem lk_Mo_isTooMuch_72 : sc_lk tb_Mo_isTooMuch 72 = some (.iload_n 3, 1, .inl (3, 0), false) := rfl
theorem lk_Mo_isTooMuch_73 : sc_lk tb_Mo_isTooMuch 73 = some (.invokevirtual 117, 3, .inr (.inl (5, 1, mq_Mo_kindOf)), false) := rfl
theorem lk_Mo_isTooMuch_76 : sc_lk tb_Mo_isTooMuch 76 = some (.iconst 2, 1, .inr (.inr 0), false) := rfl
theorem lk_Mo_isTooMuch_77 : sc_lk tb_Mo_isTooMuch 77 = some (.if_icmp .ne 27, 3, .inl (104, 0), false) := rfl
theorem lk_Mo_isTooMuch_80 : sc_lk tb_Mo_isTooMuch 80 = some (.lload_n 1, 1, .inl (1, 0), false) := rfl
theorem lk_Mo_isTooMuch_81 : sc_lk tb_Mo_isTooMuch 81 = some (.ldc2_w 185, 3, .inr (.inr (512)), false) := rfl
theorem lk_Mo_isTooMuch_84 : sc_lk tb_Mo_isTooMuch 84 = some (.lcmp, 1, .inr (.inr 0), false) := rfl
theorem lk_Mo_isTooMuch_85 : sc_lk tb_Mo_isTooMuch 85 = some (.ifCond .gt 19, 3, .inl (104, 0), false) := rfl
theorem lk_Mo_isTooMuch_88 : sc_lk tb_Mo_isTooMuch 88 = some (.lload_n 1, 1, .inl (1, 0), false) := rfl
theorem lk_Mo_isTooMuch_89 : sc_lk tb_Mo_isTooMuch 89 = some (.aload_n 0, 1, .inl (0, 0), false) := rfl
theorem lk_Mo_isTooMuch_90 : sc_lk tb_Mo_isTooMuch 90 = some (.getfield 20, 3, .inl (5, 7), false) := rfl
theorem lk_Mo_isTooMuch_93 : sc_lk tb_Mo_isTooMuch 93 = some (.iload_n 3, 1, .inl (3, 0), false) := rfl
theorem lk_Mo_isTooMuch_94 : sc_lk tb_Mo_isTooMuch 94 = some (.iaload, 1, .inr (.inr 0), false) := rfl
theorem lk_Mo_isTooMuch_95 : sc_lk tb_Mo_isTooMuch 95 = some (.i2l, 1, .inr (.inr 0), false) := rfl
theorem lk_Mo_isTooMuch_96 : sc_lk tb_Mo_isTooMuch 96 = some (.lmul, 1, .inr (.inr 0), false) := rfl
theorem lk_Mo_isTooMuch_97 : sc_lk tb_Mo_isTooMuch 97 = some (.lstore_n 1, 1, .inl (1, 0), false) := rfl
theorem lk_Mo_isTooMuch_98 : sc_lk tb_Mo_isTooMuch 98 = some (.iinc 5 1, 3, .inl (5, 0), false) := rfl
theorem lk_Mo_isTooMuch_101 : sc_lk tb_Mo_isTooMuch 101 = some (.goto (-37), 3, .inl (64, 0), false) := rfl
theorem lk_Mo_isTooMuch_104 : sc_lk tb_Mo_isTooMuch 104 = some (.iinc 3 1, 3, .inl (3, 0), false) := rfl
theorem lk_Mo_isTooMuch_107 : sc_lk tb_Mo_isTooMuch 107 = some (.goto (-103), 3, .inl (4, 0), false) := rfl
theorem lk_Mo_isTooMuch_110 : sc_lk tb_Mo_isTooMuch 110 = some (.lload_n 1, 1, .inl (1, 0), false) := rfl
theorem lk_Mo_isTooMuch_111 : sc_lk tb_Mo_isTooMuch 111 = some (.ldc2_w 185, 3, .inr (.inr (512)), false) := rfl
theorem lk_Mo_isTooMuch_114 : sc_lk tb_Mo_isTooMuch 114 = some (.lcmp, 1, .inr (.inr 0), false) := rfl
theorem lk_Mo_isTooMuch_115 : sc_lk tb_Mo_isTooMuch 115 = some (.ifCond .le 7, 3, .inl (122, 0), false) := rfl
theorem lk_Mo_isTooMuch_118 : sc_lk tb_Mo_isTooMuch 118 = some (.iconst 1, 1, .inr (.inr 0), false) := rfl
theorem lk_Mo_isTooMuch_119 : sc_lk tb_Mo_isTooMuch 119 = some (.goto 4, 3, .inl (123, 0), false) := rfl
theorem lk_Mo_isTooMuch_122 : sc_lk tb_Mo_isTooMuch 122 = some (.iconst 0, 1, .inr (.inr 0), false) := rfl
theorem lk_Mo_isTooMuch_123 : sc_lk tb_Mo_isTooMuch 123 = some (.ireturn, 1, .inr (.inr 0), false) := rfl
def tb_Mo_forgettingSum : sc_T := [(0, .iconst 0, 1, .inr (.inr 0), false), (1, .istore_n 1, 1, .inl (1, 0), false), (2, .iload_n 1, 1, .inl (1, 0), true), (3, .aload_n 0, 1, .inl (0, 0), false), (4, .getfield 80, 3, .inl (5, 5), false), (7, .if_icmp .ge 49, 3, .inl (56, 0), false), (10, .aload_n 0, 1, .inl (0, 0), false), (11, .getfield 56, 3, .inl (5, 18), false), (14, .iload_n 1, 1, .inl (1, 0), false), (15, .aload_n 0, 1, .inl (0, 0), false), (16, .getfield 29, 3, .inl (5, 10), false), (19, .iload_n 1, 1, .inl (1, 0), false), (20, .iaload, 1, .inr (.inr 0), false), (21, .iastore, 1, .inr (.inr 0), false), (22, .iconst 0, 1, .inr (.inr 0), false), (23, .istore_n 2, 1, .inl (2, 0), false), (24, .iload_n 2, 1, .inl (2, 0), true), (25, .sipush 243, 3, .inr (.inr 0), false), (28, .if_icmp .ge 22, 3, .inl (50, 0), false), (31, .aload_n 0, 1, .inl (0, 0), false), (32, .getfield 45, 3, .inl (5, 15), false), (35, .sipush 243, 3, .inr (.inr 0), false), (38, .iload_n 1, 1, .inl (1, 0), false), (39, .imul, 1, .inr (.inr 0), false), (40, .iload_n 2, 1, .inl (2, 0), false), (41, .iadd, 1, .inr (.inr 0), false), (42, .iconst 0, 1, .inr (.inr 0), false), (43, .iastore, 1, .inr (.inr 0), false), (44, .iinc 2 1, 3, .inl (2, 0), false), (47, .goto (-23), 3, .inl (24, 0), false), (50, .iinc 1 1, 3, .inl (1, 0), false), (53, .goto (-51), 3, .inl (2, 0), false), (56, .aload_n 0, 1, .inl (0, 0), false), (57, .invokevirtual 169, 3, .inr (.inl (5, 0, mq_Mo_sumOfPlan)), false), (60, .lstore_n 1, 1, .inl (1, 0), false), (61, .aload_n 0, 1, .inl (0, 0), true), (62, .invokevirtual 182, 3, .inr (.inl (5, 0, mq_Mo_nextPlan)), false), (65, .ifCond .eq 23, 3, .inl (88, 0), false), (68, .aload_n 0, 1, .inl (0, 0), false), (69, .invokevirtual 169, 3, .inr (.inl (5, 0, mq_Mo_sumOfPlan)), false), (72, .lstore_n 3, 1, .inl (3, 0), false), (73, .lload_n 3, 1, .inl (3, 0), false), (74, .lload_n 1, 1, .inl (1, 0), false), (75, .lcmp, 1, .inr (.inr 0), false), (76, .ifCond .le 7, 3, .inl (83, 0), false), (79, .lload_n 3, 1, .inl (3, 0), false), (80, .goto 4, 3, .inl (84, 0), false), (83, .lload_n 1, 1, .inl (1, 0), false), (84, .lstore_n 1, 1, .inl (1, 0), false), (85, .goto (-24), 3, .inl (61, 0), false), (88, .lload_n 1, 1, .inl (1, 0), false), (89, .lreturn, 1, .inr (.inr 0), false)]
theorem tk_Mo_forgettingSum : sc_ok mq_Mo_forgettingSum tb_Mo_forgettingSum = true := by decide +kernel
theorem lk_Mo_forgettingSum_0 : sc_lk tb_Mo_forgettingSum 0 = some (.iconst 0, 1, .inr (.inr 0), false) := rfl
theorem lk_Mo_forgettingSum_1 : sc_lk tb_Mo_forgettingSum 1 = some (.istore_n 1, 1, .inl (1, 0), false) := rfl
theorem lk_Mo_forgettingSum_2 : sc_lk tb_Mo_forgettingSum 2 = some (.iload_n 1, 1, .inl (1, 0), true) := rfl
theorem lk_Mo_forgettingSum_3 : sc_lk tb_Mo_forgettingSum 3 = some (.aload_n 0, 1, .inl (0, 0), false) := rfl
theorem lk_Mo_forgettingSum_4 : sc_lk tb_Mo_forgettingSum 4 = some (.getfield 80, 3, .inl (5, 5), false) := rfl
theorem lk_Mo_forgettingSum_7 : sc_lk tb_Mo_forgettingSum 7 = some (.if_icmp .ge 49, 3, .inl (56, 0), false) := rfl
theorem lk_Mo_forgettingSum_10 : sc_lk tb_Mo_forgettingSum 10 = some (.aload_n 0, 1, .inl (0, 0), false) := rfl
theorem lk_Mo_forgettingSum_11 : sc_lk tb_Mo_forgettingSum 11 = some (.getfield 56, 3, .inl (5, 18), false) := rfl
theorem lk_Mo_forgettingSum_14 : sc_lk tb_Mo_forgettingSum 14 = some (.iload_n 1, 1, .inl (1, 0), false) := rfl
theorem lk_Mo_forgettingSum_15 : sc_lk tb_Mo_forgettingSum 15 = some (.aload_n 0, 1, .inl (0, 0), false) := rfl
theorem lk_Mo_forgettingSum_16 : sc_lk tb_Mo_forgettingSum 16 = some (.getfield 29, 3, .inl (5, 10), false) := rfl
theorem lk_Mo_forgettingSum_19 : sc_lk tb_Mo_forgettingSum 19 = some (.iload_n 1, 1, .inl (1, 0), false) := rfl
theorem lk_Mo_forgettingSum_20 : sc_lk tb_Mo_forgettingSum 20 = some (.iaload, 1, .inr (.inr 0), false) := rfl
theorem lk_Mo_forgettingSum_21 : sc_lk tb_Mo_forgettingSum 21 = some (.iastore, 1, .inr (.inr 0), false) := rfl
theorem lk_Mo_forgettingSum_22 : sc_lk tb_Mo_forgettingSum 22 = some (.iconst 0, 1, .inr (.inr 0), false) := rfl
theorem lk_Mo_forgettingSum_23 : sc_lk tb_Mo_forgettingSum 23 = some (.istore_n 2, 1, .inl (2, 0), false) := rfl
theorem lk_Mo_forgettingSum_24 : sc_lk tb_Mo_forgettingSum 24 = some (.iload_n 2, 1, .inl (2, 0), true) := rfl
theorem lk_Mo_forgettingSum_25 : sc_lk tb_Mo_forgettingSum 25 = some (.sipush 243, 3, .inr (.inr 0), false) := rfl
theorem lk_Mo_forgettingSum_28 : sc_lk tb_Mo_forgettingSum 28 = some (.if_icmp .ge 22, 3, .inl (50, 0), false) := rfl
theorem lk_Mo_forgettingSum_31 : sc_lk tb_Mo_forgettingSum 31 = some (.aload_n 0, 1, .inl (0, 0), false) := rfl
theorem lk_Mo_forgettingSum_32 : sc_lk tb_Mo_forgettingSum 32 = some (.getfield 45, 3, .inl (5, 15), false) := rfl
theorem lk_Mo_forgettingSum_35 : sc_lk tb_Mo_forgettingSum 35 = some (.sipush 243, 3, .inr (.inr 0), false) := rfl
theorem lk_Mo_forgettingSum_38 : sc_lk tb_Mo_forgettingSum 38 = some (.iload_n 1, 1, .inl (1, 0), false) := rfl
theorem lk_Mo_forgettingSum_39 : sc_lk tb_Mo_forgettingSum 39 = some (.imul, 1, .inr (.inr 0), false) := rfl
theorem lk_Mo_forgettingSum_40 : sc_lk tb_Mo_forgettingSum 40 = some (.iload_n 2, 1, .inl (2, 0), false) := rfl
theorem lk_Mo_forgettingSum_41 : sc_lk tb_Mo_forgettingSum 41 = some (.iadd, 1, .inr (.inr 0), false) := rfl
theorem lk_Mo_forgettingSum_42 : sc_lk tb_Mo_forgettingSum 42 = some (.iconst 0, 1, .inr (.inr 0), false) := rfl
theorem lk_Mo_forgettingSum_43 : sc_lk tb_Mo_forgettingSum 43 = some (.iastore, 1, .inr (.inr 0), false) := rfl
theorem lk_Mo_forgettingSum_44 : sc_lk tb_Mo_forgettingSum 44 = some (.iinc 2 1, 3, .inl (2, 0), false) := rfl
theorem lk_Mo_forgettingSum_47 : sc_lk tb_Mo_forgettingSum 47 = some (.goto (-23), 3, .inl (24, 0), false) := rfl
theorem lk_Mo_forgettingSum_50 : sc_lk tb_Mo_forgettingSum 50 = some (.iinc 1 1, 3, .inl (1, 0), false) := rfl
theorem lk_Mo_forgettingSum_53 : sc_lk tb_Mo_forgettingSum 53 = some (.goto (-51), 3, .inl (2, 0), false) := rfl
theorem lk_Mo_forgettingSum_56 : sc_lk tb_Mo_forgettingSum 56 = some (.aload_n 0, 1, .inl (0, 0), false) := rfl
theorem lk_Mo_forgettingSum_57 : sc_lk tb_Mo_forgettingSum 57 = some (.invokevirtual 169, 3, .inr (.inl (5, 0, mq_Mo_sumOfPlan)), false) := rfl
theorem lk_Mo_forgettingSum_60 : sc_lk tb_Mo_forgettingSum 60 = some (.lstore_n 1, 1, .inl (1, 0), false) := rfl
theorem lk_Mo_forgettingSum_61 : sc_lk tb_Mo_forgettingSum 61 = some (.aload_n 0, 1, .inl (0, 0), true) := rfl
theorem lk_Mo_forgettingSum_62 : sc_lk tb_Mo_forgettingSum 62 = some (.invokevirtual 182, 3, .inr (.inl (5, 0, mq_Mo_nextPlan)), false) := rfl
theorem lk_Mo_forgettingSum_65 : sc_lk tb_Mo_forgettingSum 65 = some (.ifCond .eq 23, 3, .inl (88, 0), false) := rfl
theorem lk_Mo_forgettingSum_68 : sc_lk tb_Mo_forgettingSum 68 = some (.aload_n 0, 1, .inl (0, 0), false) := rfl
theorem lk_Mo_forgettingSum_69 : sc_lk tb_Mo_forgettingSum 69 = some (.invokevirtual 169, 3, .inr (.inl (5, 0, mq_Mo_sumOfPlan)), false) := rfl
theorem lk_Mo_forgettingSum_72 : sc_lk tb_Mo_forgettingSum 72 = some (.lstore_n 3, 1, .inl (3, 0), false) := rfl
theorem lk_Mo_forgettingSum_73 : sc_lk tb_Mo_forgettingSum 73 = some (.lload_n 3, 1, .inl (3, 0), false) := rfl
theorem lk_Mo_forgettingSum_74 : sc_lk tb_Mo_forgettingSum 74 = some (.lload_n 1, 1, .inl (1, 0), false) := rfl
theorem lk_Mo_forgettingSum_75 : sc_lk tb_Mo_forgettingSum 75 = some (.lcmp, 1, .inr (.inr 0), false) := rfl
theorem lk_Mo_forgettingSum_76 : sc_lk tb_Mo_forgettingSum 76 = some (.ifCond .le 7, 3, .inl (83, 0), false) := rfl
theorem lk_Mo_forgettingSum_79 : sc_lk tb_Mo_forgettingSum 79 = some (.lload_n 3, 1, .inl (3, 0), false) := rfl
theorem lk_Mo_forgettingSum_80 : sc_lk tb_Mo_forgettingSum 80 = some (.goto 4, 3, .inl (84, 0), false) := rfl
theorem lk_Mo_forgettingSum_83 : sc_lk tb_Mo_forgettingSum 83 = some (.lload_n 1, 1, .inl (1, 0), false) := rfl
theorem lk_Mo_forgettingSum_84 : sc_lk tb_Mo_forgettingSum 84 = some (.lstore_n 1, 1, .inl (1, 0), false) := rfl
theorem lk_Mo_forgettingSum_85 : sc_lk tb_Mo_forgettingSum 85 = some (.goto (-24), 3, .inl (61, 0), false) := rfl
theorem lk_Mo_forgettingSum_88 : sc_lk tb_Mo_forgettingSum 88 = some (.lload_n 1, 1, .inl (1, 0), false) := rfl
theorem lk_Mo_forgettingSum_89 : sc_lk tb_Mo_forgettingSum 89 = some (.lreturn, 1, .inr (.inr 0), false) := rfl
def tb_Mo_nextPlan : sc_T := [(0, .aload_n 0, 1, .inl (0, 0), false), (1, .invokevirtual 91, 3, .inr (.inl (5, 0, mq_Mo_worlds)), false), (4, .istore_n 1, 1, .inl (1, 0), false), (5, .iconst 0, 1, .inr (.inr 0), false), (6, .istore_n 2, 1, .inl (2, 0), false), (7, .iload_n 2, 1, .inl (2, 0), true), (8, .aload_n 0, 1, .inl (0, 0), false), (9, .getfield 80, 3, .inl (5, 5), false), (12, .if_icmp .ge 104, 3, .inl (116, 0), false), (15, .iconst 0, 1, .inr (.inr 0), false), (16, .istore_n 3, 1, .inl (3, 0), false), (17, .iload_n 3, 1, .inl (3, 0), true), (18, .iload_n 1, 1, .inl (1, 0), false), (19, .if_icmp .ge 91, 3, .inl (110, 0), false), (22, .aload_n 0, 1, .inl (0, 0), false), (23, .iload_n 2, 1, .inl (2, 0), false), (24, .invokevirtual 137, 3, .inr (.inl (5, 1, mq_Mo_isChoice)), false), (27, .ifCond .eq 83, 3, .inl (110, 0), false), (30, .aload_n 0, 1, .inl (0, 0), false), (31, .getfield 32, 3, .inl (5, 11), false), (34, .iload_n 2, 1, .inl (2, 0), false), (35, .iaload, 1, .inr (.inr 0), false), (36, .ifCond .ge 74, 3, .inl (110, 0), false), (39, .aload_n 0, 1, .inl (0, 0), false), (40, .iload_n 3, 1, .inl (3, 0), false), (41, .invokevirtual 143, 3, .inr (.inl (5, 1, mq_Mo_setWorld)), false), (44, .aload_n 0, 1, .inl (0, 0), false), (45, .aload_n 0, 1, .inl (0, 0), false), (46, .getfield 56, 3, .inl (5, 18), false), (49, .iload_n 2, 1, .inl (2, 0), false), (50, .iaload, 1, .inr (.inr 0), false), (51, .invokevirtual 140, 3, .inr (.inl (5, 1, mq_Mo_numberOf)), false), (54, .iload_n 3, 1, .inl (3, 0), false), (55, .if_icmp .ne 49, 3, .inl (104, 0), false), (58, .sipush 243, 3, .inr (.inr 0), false), (61, .iload_n 2, 1, .inl (2, 0), false), (62, .imul, 1, .inr (.inr 0), false), (63, .iload_n 3, 1, .inl (3, 0), false), (64, .iadd, 1, .inr (.inr 0), false), (65, .istore 4, 2, .inl (4, 0), false), (67, .aload_n 0, 1, .inl (0, 0), false), (68, .getfield 45, 3, .inl (5, 15), false), (71, .iload 4, 2, .inl (4, 0), false), (73, .dup2, 1, .inr (.inr 0), false), (74, .iaload, 1, .inr (.inr 0), false), (75, .iconst 1, 1, .inr (.inr 0), false), (76, .iadd, 1, .inr (.inr 0), false), (77, .iastore, 1, .inr (.inr 0), false), (78, .aload_n 0, 1, .inl (0, 0), false), (79, .getfield 45, 3, .inl (5, 15), false), (82, .iload 4, 2, .inl (4, 0), false), (84, .iaload, 1, .inr (.inr 0), false), (85, .aload_n 0, 1, .inl (0, 0), false), (86, .getfield 20, 3, .inl (5, 7), false), (89, .iload_n 2, 1, .inl (2, 0), false), (90, .iaload, 1, .inr (.inr 0), false), (91, .if_icmp .ge 5, 3, .inl (96, 0), false), (94, .iconst 1, 1, .inr (.inr 0), false), (95, .ireturn, 1, .inr (.inr 0), false), (96, .aload_n 0, 1, .inl (0, 0), false), (97, .getfield 45, 3, .inl (5, 15), false), (100, .iload 4, 2, .inl (4, 0), false), (102, .iconst 0, 1, .inr (.inr 0), false), (103, .iastore, 1, .inr (.inr 0), false), (104, .iinc 3 1, 3, .inl (3, 0), false), (107, .goto (-90), 3, .inl (17, 0), false), (110, .iinc 2 1, 3, .inl (2, 0), false), (113, .goto (-106), 3, .inl (7, 0), false), (116, .iconst 0, 1, .inr (.inr 0), false), (117, .ireturn, 1, .inr (.inr 0), false)]
theorem tk_Mo_nextPlan : sc_ok mq_Mo_nextPlan tb_Mo_nextPlan = true := by decide +kernel
theorem lk_Mo_nextPlan_0 : sc_lk tb_Mo_nextPlan 0 = some (.aload_n 0, 1, .inl (0, 0), false) := rfl
theorem lk_Mo_nextPlan_1 : sc_lk tb_Mo_nextPlan 1 = some (.invokevirtual 91, 3, .inr (.inl (5, 0, mq_Mo_worlds)), false) := rfl
theorem lk_Mo_nextPlan_4 : sc_lk tb_Mo_nextPlan 4 = some (.istore_n 1, 1, .inl (1, 0), false) := rfl
theorem lk_Mo_nextPlan_5 : sc_lk tb_Mo_nextPlan 5 = some (.iconst 0, 1, .inr (.inr 0), false) := rfl
theorem lk_Mo_nextPlan_6 : sc_lk tb_Mo_nextPlan 6 = some (.istore_n 2, 1, .inl (2, 0), false) := rfl
theorem lk_Mo_nextPlan_7 : sc_lk tb_Mo_nextPlan 7 = some (.iload_n 2, 1, .inl (2, 0), true) := rfl
theorem lk_Mo_nextPlan_8 : sc_lk tb_Mo_nextPlan 8 = some (.aload_n 0, 1, .inl (0, 0), false) := rfl
theorem lk_Mo_nextPlan_9 : sc_lk tb_Mo_nextPlan 9 = some (.getfield 80, 3, .inl (5, 5), false) := rfl
theorem lk_Mo_nextPlan_12 : sc_lk tb_Mo_nextPlan 12 = some (.if_icmp .ge 104, 3, .inl (116, 0), false) := rfl
theorem lk_Mo_nextPlan_15 : sc_lk tb_Mo_nextPlan 15 = some (.iconst 0, 1, .inr (.inr 0), false) := rfl
theorem lk_Mo_nextPlan_16 : sc_lk tb_Mo_nextPlan 16 = some (.istore_n 3, 1, .inl (3, 0), false) := rfl
theorem lk_Mo_nextPlan_17 : sc_lk tb_Mo_nextPlan 17 = some (.iload_n 3, 1, .inl (3, 0), true) := rfl
theorem lk_Mo_nextPlan_18 : sc_lk tb_Mo_nextPlan 18 = some (.iload_n 1, 1, .inl (1, 0), false) := rfl
theorem lk_Mo_nextPlan_19 : sc_lk tb_Mo_nextPlan 19 = some (.if_icmp .ge 91, 3, .inl (110, 0), false) := rfl
theorem lk_Mo_nextPlan_22 : sc_lk tb_Mo_nextPlan 22 = some (.aload_n 0, 1, .inl (0, 0), false) := rfl
theorem lk_Mo_nextPlan_23 : sc_lk tb_Mo_nextPlan 23 = some (.iload_n 2, 1, .inl (2, 0), false) := rfl
theorem lk_Mo_nextPlan_24 : sc_lk tb_Mo_nextPlan 24 = some (.invokevirtual 137, 3, .inr (.inl (5, 1, mq_Mo_isChoice)), false) := rfl
theorem lk_Mo_nextPlan_27 : sc_lk tb_Mo_nextPlan 27 = some (.ifCond .eq 83, 3, .inl (110, 0), false) := rfl
theorem lk_Mo_nextPlan_30 : sc_lk tb_Mo_nextPlan 30 = some (.aload_n 0, 1, .inl (0, 0), false) := rfl
theorem lk_Mo_nextPlan_31 : sc_lk tb_Mo_nextPlan 31 = some (.getfield 32, 3, .inl (5, 11), false) := rfl
theorem lk_Mo_nextPlan_34 : sc_lk tb_Mo_nextPlan 34 = some (.iload_n 2, 1, .inl (2, 0), false) := rfl
theorem lk_Mo_nextPlan_35 : sc_lk tb_Mo_nextPlan 35 = some (.iaload, 1, .inr (.inr 0), false) := rfl
theorem lk_Mo_nextPlan_36 : sc_lk tb_Mo_nextPlan 36 = some (.ifCond .ge 74, 3, .inl (110, 0), false) := rfl
theorem lk_Mo_nextPlan_39 : sc_lk tb_Mo_nextPlan 39 = some (.aload_n 0, 1, .inl (0, 0), false) := rfl
theorem lk_Mo_nextPlan_40 : sc_lk tb_Mo_nextPlan 40 = some (.iload_n 3, 1, .inl (3, 0), false) := rfl
theorem lk_Mo_nextPlan_41 : sc_lk tb_Mo_nextPlan 41 = some (.invokevirtual 143, 3, .inr (.inl (5, 1, mq_Mo_setWorld)), false) := rfl
theorem lk_Mo_nextPlan_44 : sc_lk tb_Mo_nextPlan 44 = some (.aload_n 0, 1, .inl (0, 0), false) := rfl
theorem lk_Mo_nextPlan_45 : sc_lk tb_Mo_nextPlan 45 = some (.aload_n 0, 1, .inl (0, 0), false) := rfl
theorem lk_Mo_nextPlan_46 : sc_lk tb_Mo_nextPlan 46 = some (.getfield 56, 3, .inl (5, 18), false) := rfl
theorem lk_Mo_nextPlan_49 : sc_lk tb_Mo_nextPlan 49 = some (.iload_n 2, 1, .inl (2, 0), false) := rfl
theorem lk_Mo_nextPlan_50 : sc_lk tb_Mo_nextPlan 50 = some (.iaload, 1, .inr (.inr 0), false) := rfl
theorem lk_Mo_nextPlan_51 : sc_lk tb_Mo_nextPlan 51 = some (.invokevirtual 140, 3, .inr (.inl (5, 1, mq_Mo_numberOf)), false) := rfl
theorem lk_Mo_nextPlan_54 : sc_lk tb_Mo_nextPlan 54 = some (.iload_n 3, 1, .inl (3, 0), false) := rfl
theorem lk_Mo_nextPlan_55 : sc_lk tb_Mo_nextPlan 55 = some (.if_icmp .ne 49, 3, .inl (104, 0), false) := rfl
theorem lk_Mo_nextPlan_58 : sc_lk tb_Mo_nextPlan 58 = some (.sipush 243, 3, .inr (.inr 0), false) := rfl
theorem lk_Mo_nextPlan_61 : sc_lk tb_Mo_nextPlan 61 = some (.iload_n 2, 1, .inl (2, 0), false) := rfl
theorem lk_Mo_nextPlan_62 : sc_lk tb_Mo_nextPlan 62 = some (.imul, 1, .inr (.inr 0), false) := rfl
theorem lk_Mo_nextPlan_63 : sc_lk tb_Mo_nextPlan 63 = some (.iload_n 3, 1, .inl (3, 0), false) := rfl
theorem lk_Mo_nextPlan_64 : sc_lk tb_Mo_nextPlan 64 = some (.iadd, 1, .inr (.inr 0), false) := rfl
theorem lk_Mo_nextPlan_65 : sc_lk tb_Mo_nextPlan 65 = some (.istore 4, 2, .inl (4, 0), false) := rfl
theorem lk_Mo_nextPlan_67 : sc_lk tb_Mo_nextPlan 67 = some (.aload_n 0, 1, .inl (0, 0), false) := rfl
theorem lk_Mo_nextPlan_68 : sc_lk tb_Mo_nextPlan 68 = some (.getfield 45, 3, .inl (5, 15), false) := rfl
theorem lk_Mo_nextPlan_71 : sc_lk tb_Mo_nextPlan 71 = some (.iload 4, 2, .inl (4, 0), false) := rfl
theorem lk_Mo_nextPlan_73 : sc_lk tb_Mo_nextPlan 73 = some (.dup2, 1, .inr (.inr 0), false) := rfl
theorem lk_Mo_nextPlan_74 : sc_lk tb_Mo_nextPlan 74 = some (.iaload, 1, .inr (.inr 0), false) := rfl
theorem lk_Mo_nextPlan_75 : sc_lk tb_Mo_nextPlan 75 = some (.iconst 1, 1, .inr (.inr 0), false) := rfl
theorem lk_Mo_nextPlan_76 : sc_lk tb_Mo_nextPlan 76 = some (.iadd, 1, .inr (.inr 0), false) := rfl
theorem lk_Mo_nextPlan_77 : sc_lk tb_Mo_nextPlan 77 = some (.iastore, 1, .inr (.inr 0), false) := rfl
theorem lk_Mo_nextPlan_78 : sc_lk tb_Mo_nextPlan 78 = some (.aload_n 0, 1, .inl (0, 0), false) := rfl
theorem lk_Mo_nextPlan_79 : sc_lk tb_Mo_nextPlan 79 = some (.getfield 45, 3, .inl (5, 15), false) := rfl
theorem lk_Mo_nextPlan_82 : sc_lk tb_Mo_nextPlan 82 = some (.iload 4, 2, .inl (4, 0), false) := rfl
theorem lk_Mo_nextPlan_84 : sc_lk tb_Mo_nextPlan 84 = some (.iaload, 1, .inr (.inr 0), false) := rfl
theorem lk_Mo_nextPlan_85 : sc_lk tb_Mo_nextPlan 85 = some (.aload_n 0, 1, .inl (0, 0), false) := rfl
theorem lk_Mo_nextPlan_86 : sc_lk tb_Mo_nextPlan 86 = some (.getfield 20, 3, .inl (5, 7), false) := rfl
theorem lk_Mo_nextPlan_89 : sc_lk tb_Mo_nextPlan 89 = some (.iload_n 2, 1, .inl (2, 0), false) := rfl
theorem lk_Mo_nextPlan_90 : sc_lk tb_Mo_nextPlan 90 = some (.iaload, 1, .inr (.inr 0), false) := rfl
theorem lk_Mo_nextPlan_91 : sc_lk tb_Mo_nextPlan 91 = some (.if_icmp .ge 5, 3, .inl (96, 0), false) := rfl
theorem lk_Mo_nextPlan_94 : sc_lk tb_Mo_nextPlan 94 = some (.iconst 1, 1, .inr (.inr 0), false) := rfl
theorem lk_Mo_nextPlan_95 : sc_lk tb_Mo_nextPlan 95 = some (.ireturn, 1, .inr (.inr 0), false) := rfl
theorem lk_Mo_nextPlan_96 : sc_lk tb_Mo_nextPlan 96 = some (.aload_n 0, 1, .inl (0, 0), false) := rfl
theorem lk_Mo_nextPlan_97 : sc_lk tb_Mo_nextPlan 97 = some (.getfield 45, 3, .inl (5, 15), false) := rfl
theorem lk_Mo_nextPlan_100 : sc_lk tb_Mo_nextPlan 100 = some (.iload 4, 2, .inl (4, 0), false) := rfl
theorem lk_Mo_nextPlan_102 : sc_lk tb_Mo_nextPlan 102 = some (.iconst 0, 1, .inr (.inr 0), false) := rfl
theorem lk_Mo_nextPlan_103 : sc_lk tb_Mo_nextPlan 103 = some (.iastore, 1, .inr (.inr 0), false) := rfl
theorem lk_Mo_nextPlan_104 : sc_lk tb_Mo_nextPlan 104 = some (.iinc 3 1, 3, .inl (3, 0), false) := rfl
theorem lk_Mo_nextPlan_107 : sc_lk tb_Mo_nextPlan 107 = some (.goto (-90), 3, .inl (17, 0), false) := rfl
theorem lk_Mo_nextPlan_110 : sc_lk tb_Mo_nextPlan 110 = some (.iinc 2 1, 3, .inl (2, 0), false) := rfl
theorem lk_Mo_nextPlan_113 : sc_lk tb_Mo_nextPlan 113 = some (.goto (-106), 3, .inl (7, 0), false) := rfl
theorem lk_Mo_nextPlan_116 : sc_lk tb_Mo_nextPlan 116 = some (.iconst 0, 1, .inr (.inr 0), false) := rfl
theorem lk_Mo_nextPlan_117 : sc_lk tb_Mo_nextPlan 117 = some (.ireturn, 1, .inr (.inr 0), false) := rfl
def tb_Mo_lost : sc_T := [(0, .aload_n 0, 1, .inl (0, 0), false), (1, .invokevirtual 187, 3, .inr (.inl (5, 0, mq_Mo_isTooMuch)), false), (4, .ifCond .eq 6, 3, .inl (10, 0), false), (7, .bipush (-6), 2, .inr (.inr 0), false), (9, .ireturn, 1, .inr (.inr 0), false), (10, .aload_n 0, 1, .inl (0, 0), false), (11, .invokevirtual 172, 3, .inr (.inl (5, 0, mq_Mo_bestSum)), false), (14, .lstore_n 1, 1, .inl (1, 0), false), (15, .aload_n 0, 1, .inl (0, 0), false), (16, .lload_n 1, 1, .inl (1, 0), false), (17, .aload_n 0, 1, .inl (0, 0), false), (18, .invokevirtual 190, 3, .inr (.inl (5, 0, mq_Mo_forgettingSum)), false), (21, .lsub, 1, .inr (.inr 0), false), (22, .aload_n 0, 1, .inl (0, 0), false), (23, .invokevirtual 175, 3, .inr (.inl (5, 0, mq_Mo_allWeights)), false), (26, .invokevirtual 178, 3, .inr (.inl (5, 2, mq_Mo_tell)), false), (29, .ireturn, 1, .inr (.inr 0), false)]
theorem tk_Mo_lost : sc_ok mq_Mo_lost tb_Mo_lost = true := by decide +kernel
theorem lk_Mo_lost_0 : sc_lk tb_Mo_lost 0 = some (.aload_n 0, 1, .inl (0, 0), false) := rfl
theorem lk_Mo_lost_1 : sc_lk tb_Mo_lost 1 = some (.invokevirtual 187, 3, .inr (.inl (5, 0, mq_Mo_isTooMuch)), false) := rfl
theorem lk_Mo_lost_4 : sc_lk tb_Mo_lost 4 = some (.ifCond .eq 6, 3, .inl (10, 0), false) := rfl
theorem lk_Mo_lost_7 : sc_lk tb_Mo_lost 7 = some (.bipush (-6), 2, .inr (.inr 0), false) := rfl
theorem lk_Mo_lost_9 : sc_lk tb_Mo_lost 9 = some (.ireturn, 1, .inr (.inr 0), false) := rfl
theorem lk_Mo_lost_10 : sc_lk tb_Mo_lost 10 = some (.aload_n 0, 1, .inl (0, 0), false) := rfl
theorem lk_Mo_lost_11 : sc_lk tb_Mo_lost 11 = some (.invokevirtual 172, 3, .inr (.inl (5, 0, mq_Mo_bestSum)), false) := rfl
theorem lk_Mo_lost_14 : sc_lk tb_Mo_lost 14 = some (.lstore_n 1, 1, .inl (1, 0), false) := rfl
theorem lk_Mo_lost_15 : sc_lk tb_Mo_lost 15 = some (.aload_n 0, 1, .inl (0, 0), false) := rfl
theorem lk_Mo_lost_16 : sc_lk tb_Mo_lost 16 = some (.lload_n 1, 1, .inl (1, 0), false) := rfl
theorem lk_Mo_lost_17 : sc_lk tb_Mo_lost 17 = some (.aload_n 0, 1, .inl (0, 0), false) := rfl
theorem lk_Mo_lost_18 : sc_lk tb_Mo_lost 18 = some (.invokevirtual 190, 3, .inr (.inl (5, 0, mq_Mo_forgettingSum)), false) := rfl
theorem lk_Mo_lost_21 : sc_lk tb_Mo_lost 21 = some (.lsub, 1, .inr (.inr 0), false) := rfl
theorem lk_Mo_lost_22 : sc_lk tb_Mo_lost 22 = some (.aload_n 0, 1, .inl (0, 0), false) := rfl
theorem lk_Mo_lost_23 : sc_lk tb_Mo_lost 23 = some (.invokevirtual 175, 3, .inr (.inl (5, 0, mq_Mo_allWeights)), false) := rfl
theorem lk_Mo_lost_26 : sc_lk tb_Mo_lost 26 = some (.invokevirtual 178, 3, .inr (.inl (5, 2, mq_Mo_tell)), false) := rfl
theorem lk_Mo_lost_29 : sc_lk tb_Mo_lost 29 = some (.ireturn, 1, .inr (.inr 0), false) := rfl
def tb_Mo_worthOf : sc_T := [(0, .aload_n 0, 1, .inl (0, 0), false), (1, .iload_n 1, 1, .inl (1, 0), false), (2, .iload_n 2, 1, .inl (2, 0), false), (3, .iconst 0, 1, .inr (.inr 0), false), (4, .invokevirtual 106, 3, .inr (.inl (5, 3, mq_Mo_askedSight)), false), (7, .istore_n 3, 1, .inl (3, 0), false), (8, .iload_n 3, 1, .inl (3, 0), false), (9, .ifCond .ge 5, 3, .inl (14, 0), false), (12, .iload_n 3, 1, .inl (3, 0), false), (13, .ireturn, 1, .inr (.inr 0), false), (14, .aload_n 0, 1, .inl (0, 0), false), (15, .invokevirtual 172, 3, .inr (.inl (5, 0, mq_Mo_bestSum)), false), (18, .lstore 4, 2, .inl (4, 0), false), (20, .aload_n 0, 1, .inl (0, 0), false), (21, .getfield 29, 3, .inl (5, 10), false), (24, .iload_n 1, 1, .inl (1, 0), false), (25, .dup2, 1, .inr (.inr 0), false), (26, .iaload, 1, .inr (.inr 0), false), (27, .iconst 1, 1, .inr (.inr 0), false), (28, .iload_n 2, 1, .inl (2, 0), false), (29, .ishl, 1, .inr (.inr 0), false), (30, .ior, 1, .inr (.inr 0), false), (31, .iastore, 1, .inr (.inr 0), false), (32, .aload_n 0, 1, .inl (0, 0), false), (33, .invokevirtual 172, 3, .inr (.inl (5, 0, mq_Mo_bestSum)), false), (36, .lstore 6, 2, .inl (6, 0), false), (38, .aload_n 0, 1, .inl (0, 0), false), (39, .getfield 29, 3, .inl (5, 10), false), (42, .iload_n 1, 1, .inl (1, 0), false), (43, .dup2, 1, .inr (.inr 0), false), (44, .iaload, 1, .inr (.inr 0), false), (45, .iconst 1, 1, .inr (.inr 0), false), (46, .iload_n 2, 1, .inl (2, 0), false), (47, .ishl, 1, .inr (.inr 0), false), (48, .iconst (-1), 1, .inr (.inr 0), false), (49, .ixor, 1, .inr (.inr 0), false), (50, .iand, 1, .inr (.inr 0), false), (51, .iastore, 1, .inr (.inr 0), false), (52, .aload_n 0, 1, .inl (0, 0), false), (53, .lload 6, 2, .inl (6, 0), false), (55, .lload 4, 2, .inl (4, 0), false), (57, .lsub, 1, .inr (.inr 0), false), (58, .aload_n 0, 1, .inl (0, 0), false), (59, .invokevirtual 175, 3, .inr (.inl (5, 0, mq_Mo_allWeights)), false), (62, .invokevirtual 178, 3, .inr (.inl (5, 2, mq_Mo_tell)), false), (65, .ireturn, 1, .inr (.inr 0), false)]
theorem tk_Mo_worthOf : sc_ok mq_Mo_worthOf tb_Mo_worthOf = true := by decide +kernel
theorem lk_Mo_worthOf_0 : sc_lk tb_Mo_worthOf 0 = some (.aload_n 0, 1, .inl (0, 0), false) := rfl
theorem lk_Mo_worthOf_1 : sc_lk tb_Mo_worthOf 1 = some (.iload_n 1, 1, .inl (1, 0), false) := rfl
theorem lk_Mo_worthOf_2 : sc_lk tb_Mo_worthOf 2 = some (.iload_n 2, 1, .inl (2, 0), false) := rfl
theorem lk_Mo_worthOf_3 : sc_lk tb_Mo_worthOf 3 = some (.iconst 0, 1, .inr (.inr 0), false) := rfl
theorem lk_Mo_worthOf_4 : sc_lk tb_Mo_worthOf 4 = some (.invokevirtual 106, 3, .inr (.inl (5, 3, mq_Mo_askedSight)), false) := rfl
theorem lk_Mo_worthOf_7 : sc_lk tb_Mo_worthOf 7 = some (.istore_n 3, 1, .inl (3, 0), false) := rfl
theorem lk_Mo_worthOf_8 : sc_lk tb_Mo_worthOf 8 = some (.iload_n 3, 1, .inl (3, 0), false) := rfl
theorem lk_Mo_worthOf_9 : sc_lk tb_Mo_worthOf 9 = some (.ifCond .ge 5, 3, .inl (14, 0), false) := rfl
theorem lk_Mo_worthOf_12 : sc_lk tb_Mo_worthOf 12 = some (.iload_n 3, 1, .inl (3, 0), false) := rfl
theorem lk_Mo_worthOf_13 : sc_lk tb_Mo_worthOf 13 = some (.ireturn, 1, .inr (.inr 0), false) := rfl
theorem lk_Mo_worthOf_14 : sc_lk tb_Mo_worthOf 14 = some (.aload_n 0, 1, .inl (0, 0), false) := rfl
theorem lk_Mo_worthOf_15 : sc_lk tb_Mo_worthOf 15 = some (.invokevirtual 172, 3, .inr (.inl (5, 0, mq_Mo_bestSum)), false) := rfl
theorem lk_Mo_worthOf_18 : sc_lk tb_Mo_worthOf 18 = some (.lstore 4, 2, .inl (4, 0), false) := rfl
theorem lk_Mo_worthOf_20 : sc_lk tb_Mo_worthOf 20 = some (.aload_n 0, 1, .inl (0, 0), false) := rfl
theorem lk_Mo_worthOf_21 : sc_lk tb_Mo_worthOf 21 = some (.getfield 29, 3, .inl (5, 10), false) := rfl
theorem lk_Mo_worthOf_24 : sc_lk tb_Mo_worthOf 24 = some (.iload_n 1, 1, .inl (1, 0), false) := rfl
theorem lk_Mo_worthOf_25 : sc_lk tb_Mo_worthOf 25 = some (.dup2, 1, .inr (.inr 0), false) := rfl
theorem lk_Mo_worthOf_26 : sc_lk tb_Mo_worthOf 26 = some (.iaload, 1, .inr (.inr 0), false) := rfl
theorem lk_Mo_worthOf_27 : sc_lk tb_Mo_worthOf 27 = some (.iconst 1, 1, .inr (.inr 0), false) := rfl
theorem lk_Mo_worthOf_28 : sc_lk tb_Mo_worthOf 28 = some (.iload_n 2, 1, .inl (2, 0), false) := rfl
theorem lk_Mo_worthOf_29 : sc_lk tb_Mo_worthOf 29 = some (.ishl, 1, .inr (.inr 0), false) := rfl
theorem lk_Mo_worthOf_30 : sc_lk tb_Mo_worthOf 30 = some (.ior, 1, .inr (.inr 0), false) := rfl
theorem lk_Mo_worthOf_31 : sc_lk tb_Mo_worthOf 31 = some (.iastore, 1, .inr (.inr 0), false) := rfl
theorem lk_Mo_worthOf_32 : sc_lk tb_Mo_worthOf 32 = some (.aload_n 0, 1, .inl (0, 0), false) := rfl
theorem lk_Mo_worthOf_33 : sc_lk tb_Mo_worthOf 33 = some (.invokevirtual 172, 3, .inr (.inl (5, 0, mq_Mo_bestSum)), false) := rfl
theorem lk_Mo_worthOf_36 : sc_lk tb_Mo_worthOf 36 = some (.lstore 6, 2, .inl (6, 0), false) := rfl
theorem lk_Mo_worthOf_38 : sc_lk tb_Mo_worthOf 38 = some (.aload_n 0, 1, .inl (0, 0), false) := rfl
theorem lk_Mo_worthOf_39 : sc_lk tb_Mo_worthOf 39 = some (.getfield 29, 3, .inl (5, 10), false) := rfl
theorem lk_Mo_worthOf_42 : sc_lk tb_Mo_worthOf 42 = some (.iload_n 1, 1, .inl (1, 0), false) := rfl
theorem lk_Mo_worthOf_43 : sc_lk tb_Mo_worthOf 43 = some (.dup2, 1, .inr (.inr 0), false) := rfl
theorem lk_Mo_worthOf_44 : sc_lk tb_Mo_worthOf 44 = some (.iaload, 1, .inr (.inr 0), false) := rfl
theorem lk_Mo_worthOf_45 : sc_lk tb_Mo_worthOf 45 = some (.iconst 1, 1, .inr (.inr 0), false) := rfl
theorem lk_Mo_worthOf_46 : sc_lk tb_Mo_worthOf 46 = some (.iload_n 2, 1, .inl (2, 0), false) := rfl
theorem lk_Mo_worthOf_47 : sc_lk tb_Mo_worthOf 47 = some (.ishl, 1, .inr (.inr 0), false) := rfl
theorem lk_Mo_worthOf_48 : sc_lk tb_Mo_worthOf 48 = some (.iconst (-1), 1, .inr (.inr 0), false) := rfl
theorem lk_Mo_worthOf_49 : sc_lk tb_Mo_worthOf 49 = some (.ixor, 1, .inr (.inr 0), false) := rfl
theorem lk_Mo_worthOf_50 : sc_lk tb_Mo_worthOf 50 = some (.iand, 1, .inr (.inr 0), false) := rfl
theorem lk_Mo_worthOf_51 : sc_lk tb_Mo_worthOf 51 = some (.iastore, 1, .inr (.inr 0), false) := rfl
theorem lk_Mo_worthOf_52 : sc_lk tb_Mo_worthOf 52 = some (.aload_n 0, 1, .inl (0, 0), false) := rfl
theorem lk_Mo_worthOf_53 : sc_lk tb_Mo_worthOf 53 = some (.lload 6, 2, .inl (6, 0), false) := rfl
theorem lk_Mo_worthOf_55 : sc_lk tb_Mo_worthOf 55 = some (.lload 4, 2, .inl (4, 0), false) := rfl
theorem lk_Mo_worthOf_57 : sc_lk tb_Mo_worthOf 57 = some (.lsub, 1, .inr (.inr 0), false) := rfl
theorem lk_Mo_worthOf_58 : sc_lk tb_Mo_worthOf 58 = some (.aload_n 0, 1, .inl (0, 0), false) := rfl
theorem lk_Mo_worthOf_59 : sc_lk tb_Mo_worthOf 59 = some (.invokevirtual 175, 3, .inr (.inl (5, 0, mq_Mo_allWeights)), false) := rfl
theorem lk_Mo_worthOf_62 : sc_lk tb_Mo_worthOf 62 = some (.invokevirtual 178, 3, .inr (.inl (5, 2, mq_Mo_tell)), false) := rfl
theorem lk_Mo_worthOf_65 : sc_lk tb_Mo_worthOf 65 = some (.ireturn, 1, .inr (.inr 0), false) := rfl
def tb_Mo_knowing : sc_T := [(0, .aload_n 0, 1, .inl (0, 0), false), (1, .invokevirtual 172, 3, .inr (.inl (5, 0, mq_Mo_bestSum)), false), (4, .lstore_n 1, 1, .inl (1, 0), false), (5, .iconst 0, 1, .inr (.inr 0), false), (6, .istore_n 3, 1, .inl (3, 0), false), (7, .iload_n 3, 1, .inl (3, 0), true), (8, .aload_n 0, 1, .inl (0, 0), false), (9, .getfield 80, 3, .inl (5, 5), false), (12, .if_icmp .ge 74, 3, .inl (86, 0), false), (15, .aload_n 0, 1, .inl (0, 0), false), (16, .getfield 59, 3, .inl (5, 19), false), (19, .iload_n 3, 1, .inl (3, 0), false), (20, .aload_n 0, 1, .inl (0, 0), false), (21, .getfield 29, 3, .inl (5, 10), false), (24, .iload_n 3, 1, .inl (3, 0), false), (25, .iaload, 1, .inr (.inr 0), false), (26, .iastore, 1, .inr (.inr 0), false), (27, .iconst 0, 1, .inr (.inr 0), false), (28, .istore 4, 2, .inl (4, 0), false), (30, .iload 4, 2, .inl (4, 0), true), (32, .iload_n 3, 1, .inl (3, 0), false), (33, .if_icmp .ge 47, 3, .inl (80, 0), false), (36, .aload_n 0, 1, .inl (0, 0), false), (37, .getfield 29, 3, .inl (5, 10), false), (40, .iload_n 3, 1, .inl (3, 0), false), (41, .dup2, 1, .inr (.inr 0), false), (42, .iaload, 1, .inr (.inr 0), false), (43, .aload_n 0, 1, .inl (0, 0), false), (44, .getfield 17, 3, .inl (5, 6), false), (47, .iload_n 3, 1, .inl (3, 0), false), (48, .iaload, 1, .inr (.inr 0), false), (49, .iconst 2, 1, .inr (.inr 0), false), (50, .if_icmp .ne 21, 3, .inl (71, 0), false), (53, .aload_n 0, 1, .inl (0, 0), false), (54, .getfield 17, 3, .inl (5, 6), false), (57, .iload 4, 2, .inl (4, 0), false), (59, .iaload, 1, .inr (.inr 0), false), (60, .iconst 1, 1, .inr (.inr 0), false), (61, .if_icmp .ne 10, 3, .inl (71, 0), false), (64, .iconst 1, 1, .inr (.inr 0), false), (65, .iload 4, 2, .inl (4, 0), false), (67, .ishl, 1, .inr (.inr 0), false), (68, .goto 4, 3, .inl (72, 0), false), (71, .iconst 0, 1, .inr (.inr 0), false), (72, .ior, 1, .inr (.inr 0), false), (73, .iastore, 1, .inr (.inr 0), false), (74, .iinc 4 1, 3, .inl (4, 0), false), (77, .goto (-47), 3, .inl (30, 0), false), (80, .iinc 3 1, 3, .inl (3, 0), false), (83, .goto (-76), 3, .inl (7, 0), false), (86, .aload_n 0, 1, .inl (0, 0), false), (87, .invokevirtual 172, 3, .inr (.inl (5, 0, mq_Mo_bestSum)), false), (90, .lstore_n 3, 1, .inl (3, 0), false), (91, .iconst 0, 1, .inr (.inr 0), false), (92, .istore 5, 2, .inl (5, 0), false), (94, .iload 5, 2, .inl (5, 0), true), (96, .aload_n 0, 1, .inl (0, 0), false), (97, .getfield 80, 3, .inl (5, 5), false), (100, .if_icmp .ge 23, 3, .inl (123, 0), false), (103, .aload_n 0, 1, .inl (0, 0), false), (104, .getfield 29, 3, .inl (5, 10), false), (107, .iload 5, 2, .inl (5, 0), false), (109, .aload_n 0, 1, .inl (0, 0), false), (110, .getfield 59, 3, .inl (5, 19), false), (113, .iload 5, 2, .inl (5, 0), false), (115, .iaload, 1, .inr (.inr 0), false), (116, .iastore, 1, .inr (.inr 0), false), (117, .iinc 5 1, 3, .inl (5, 0), false), (120, .goto (-26), 3, .inl (94, 0), false), (123, .aload_n 0, 1, .inl (0, 0), false), (124, .lload_n 3, 1, .inl (3, 0), false), (125, .lload_n 1, 1, .inl (1, 0), false), (126, .lsub, 1, .inr (.inr 0), false), (127, .aload_n 0, 1, .inl (0, 0), false), (128, .invokevirtual 175, 3, .inr (.inl (5, 0, mq_Mo_allWeights)), false), (131, .invokevirtual 178, 3, .inr (.inl (5, 2, mq_Mo_tell)), false), (134, .ireturn, 1, .inr (.inr 0), false)]
theorem tk_Mo_knowing : sc_ok mq_Mo_knowing tb_Mo_knowing = true := by decide +kernel
theorem lk_Mo_knowing_0 : sc_lk tb_Mo_knowing 0 = some (.aload_n 0, 1, .inl (0, 0), false) := rfl
theorem lk_Mo_knowing_1 : sc_lk tb_Mo_knowing 1 = some (.invokevirtual 172, 3, .inr (.inl (5, 0, mq_Mo_bestSum)), false) := rfl
theorem lk_Mo_knowing_4 : sc_lk tb_Mo_knowing 4 = some (.lstore_n 1, 1, .inl (1, 0), false) := rfl
theorem lk_Mo_knowing_5 : sc_lk tb_Mo_knowing 5 = some (.iconst 0, 1, .inr (.inr 0), false) := rfl
theorem lk_Mo_knowing_6 : sc_lk tb_Mo_knowing 6 = some (.istore_n 3, 1, .inl (3, 0), false) := rfl
theorem lk_Mo_knowing_7 : sc_lk tb_Mo_knowing 7 = some (.iload_n 3, 1, .inl (3, 0), true) := rfl
theorem lk_Mo_knowing_8 : sc_lk tb_Mo_knowing 8 = some (.aload_n 0, 1, .inl (0, 0), false) := rfl
theorem lk_Mo_knowing_9 : sc_lk tb_Mo_knowing 9 = some (.getfield 80, 3, .inl (5, 5), false) := rfl
theorem lk_Mo_knowing_12 : sc_lk tb_Mo_knowing 12 = some (.if_icmp .ge 74, 3, .inl (86, 0), false) := rfl
theorem lk_Mo_knowing_15 : sc_lk tb_Mo_knowing 15 = some (.aload_n 0, 1, .inl (0, 0), false) := rfl
theorem lk_Mo_knowing_16 : sc_lk tb_Mo_knowing 16 = some (.getfield 59, 3, .inl (5, 19), false) := rfl
theorem lk_Mo_knowing_19 : sc_lk tb_Mo_knowing 19 = some (.iload_n 3, 1, .inl (3, 0), false) := rfl
theorem lk_Mo_knowing_20 : sc_lk tb_Mo_knowing 20 = some (.aload_n 0, 1, .inl (0, 0), false) := rfl
theorem lk_Mo_knowing_21 : sc_lk tb_Mo_knowing 21 = some (.getfield 29, 3, .inl (5, 10), false) := rfl
theorem lk_Mo_knowing_24 : sc_lk tb_Mo_knowing 24 = some (.iload_n 3, 1, .inl (3, 0), false) := rfl
theorem lk_Mo_knowing_25 : sc_lk tb_Mo_knowing 25 = some (.iaload, 1, .inr (.inr 0), false) := rfl
theorem lk_Mo_knowing_26 : sc_lk tb_Mo_knowing 26 = some (.iastore, 1, .inr (.inr 0), false) := rfl
theorem lk_Mo_knowing_27 : sc_lk tb_Mo_knowing 27 = some (.iconst 0, 1, .inr (.inr 0), false) := rfl
theorem lk_Mo_knowing_28 : sc_lk tb_Mo_knowing 28 = some (.istore 4, 2, .inl (4, 0), false) := rfl
theorem lk_Mo_knowing_30 : sc_lk tb_Mo_knowing 30 = some (.iload 4, 2, .inl (4, 0), true) := rfl
theorem lk_Mo_knowing_32 : sc_lk tb_Mo_knowing 32 = some (.iload_n 3, 1, .inl (3, 0), false) := rfl
theorem lk_Mo_knowing_33 : sc_lk tb_Mo_knowing 33 = some (.if_icmp .ge 47, 3, .inl (80, 0), false) := rfl
theorem lk_Mo_knowing_36 : sc_lk tb_Mo_knowing 36 = some (.aload_n 0, 1, .inl (0, 0), false) := rfl
theorem lk_Mo_knowing_37 : sc_lk tb_Mo_knowing 37 = some (.getfield 29, 3, .inl (5, 10), false) := rfl
theorem lk_Mo_knowing_40 : sc_lk tb_Mo_knowing 40 = some (.iload_n 3, 1, .inl (3, 0), false) := rfl
theorem lk_Mo_knowing_41 : sc_lk tb_Mo_knowing 41 = some (.dup2, 1, .inr (.inr 0), false) := rfl
theorem lk_Mo_knowing_42 : sc_lk tb_Mo_knowing 42 = some (.iaload, 1, .inr (.inr 0), false) := rfl
theorem lk_Mo_knowing_43 : sc_lk tb_Mo_knowing 43 = some (.aload_n 0, 1, .inl (0, 0), false) := rfl
theorem lk_Mo_knowing_44 : sc_lk tb_Mo_knowing 44 = some (.getfield 17, 3, .inl (5, 6), false) := rfl
theorem lk_Mo_knowing_47 : sc_lk tb_Mo_knowing 47 = some (.iload_n 3, 1, .inl (3, 0), false) := rfl
theorem lk_Mo_knowing_48 : sc_lk tb_Mo_knowing 48 = some (.iaload, 1, .inr (.inr 0), false) := rfl
theorem lk_Mo_knowing_49 : sc_lk tb_Mo_knowing 49 = some (.iconst 2, 1, .inr (.inr 0), false) := rfl
theorem lk_Mo_knowing_50 : sc_lk tb_Mo_knowing 50 = some (.if_icmp .ne 21, 3, .inl (71, 0), false) := rfl
theorem lk_Mo_knowing_53 : sc_lk tb_Mo_knowing 53 = some (.aload_n 0, 1, .inl (0, 0), false) := rfl
theorem lk_Mo_knowing_54 : sc_lk tb_Mo_knowing 54 = some (.getfield 17, 3, .inl (5, 6), false) := rfl
theorem lk_Mo_knowing_57 : sc_lk tb_Mo_knowing 57 = some (.iload 4, 2, .inl (4, 0), false) := rfl
theorem lk_Mo_knowing_59 : sc_lk tb_Mo_knowing 59 = some (.iaload, 1, .inr (.inr 0), false) := rfl
theorem lk_Mo_knowing_60 : sc_lk tb_Mo_knowing 60 = some (.iconst 1, 1, .inr (.inr 0), false) := rfl
theorem lk_Mo_knowing_61 : sc_lk tb_Mo_knowing 61 = some (.if_icmp .ne 10, 3, .inl (71, 0), false) := rfl
theorem lk_Mo_knowing_64 : sc_lk tb_Mo_knowing 64 = some (.iconst 1, 1, .inr (.inr 0), false) := rfl
theorem lk_Mo_knowing_65 : sc_lk tb_Mo_knowing 65 = some (.iload 4, 2, .inl (4, 0), false) := rfl
theorem lk_Mo_knowing_67 : sc_lk tb_Mo_knowing 67 = some (.ishl, 1, .inr (.inr 0), false) := rfl
theorem lk_Mo_knowing_68 : sc_lk tb_Mo_knowing 68 = some (.goto 4, 3, .inl (72, 0), false) := rfl
theorem lk_Mo_knowing_71 : sc_lk tb_Mo_knowing 71 = some (.iconst 0, 1, .inr (.inr 0), false) := rfl
theorem lk_Mo_knowing_72 : sc_lk tb_Mo_knowing 72 = some (.ior, 1, .inr (.inr 0), false) := rfl
theorem lk_Mo_knowing_73 : sc_lk tb_Mo_knowing 73 = some (.iastore, 1, .inr (.inr 0), false) := rfl
theorem lk_Mo_knowing_74 : sc_lk tb_Mo_knowing 74 = some (.iinc 4 1, 3, .inl (4, 0), false) := rfl
theorem lk_Mo_knowing_77 : sc_lk tb_Mo_knowing 77 = some (.goto (-47), 3, .inl (30, 0), false) := rfl
theorem lk_Mo_knowing_80 : sc_lk tb_Mo_knowing 80 = some (.iinc 3 1, 3, .inl (3, 0), false) := rfl
theorem lk_Mo_knowing_83 : sc_lk tb_Mo_knowing 83 = some (.goto (-76), 3, .inl (7, 0), false) := rfl
theorem lk_Mo_knowing_86 : sc_lk tb_Mo_knowing 86 = some (.aload_n 0, 1, .inl (0, 0), false) := rfl
theorem lk_Mo_knowing_87 : sc_lk tb_Mo_knowing 87 = some (.invokevirtual 172, 3, .inr (.inl (5, 0, mq_Mo_bestSum)), false) := rfl
theorem lk_Mo_knowing_90 : sc_lk tb_Mo_knowing 90 = some (.lstore_n 3, 1, .inl (3, 0), false) := rfl
theorem lk_Mo_knowing_91 : sc_lk tb_Mo_knowing 91 = some (.iconst 0, 1, .inr (.inr 0), false) := rfl
theorem lk_Mo_knowing_92 : sc_lk tb_Mo_knowing 92 = some (.istore 5, 2, .inl (5, 0), false) := rfl
theorem lk_Mo_knowing_94 : sc_lk tb_Mo_knowing 94 = some (.iload 5, 2, .inl (5, 0), true) := rfl
theorem lk_Mo_knowing_96 : sc_lk tb_Mo_knowing 96 = some (.aload_n 0, 1, .inl (0, 0), false) := rfl
theorem lk_Mo_knowing_97 : sc_lk tb_Mo_knowing 97 = some (.getfield 80, 3, .inl (5, 5), false) := rfl
theorem lk_Mo_knowing_100 : sc_lk tb_Mo_knowing 100 = some (.if_icmp .ge 23, 3, .inl (123, 0), false) := rfl
theorem lk_Mo_knowing_103 : sc_lk tb_Mo_knowing 103 = some (.aload_n 0, 1, .inl (0, 0), false) := rfl
theorem lk_Mo_knowing_104 : sc_lk tb_Mo_knowing 104 = some (.getfield 29, 3, .inl (5, 10), false) := rfl
theorem lk_Mo_knowing_107 : sc_lk tb_Mo_knowing 107 = some (.iload 5, 2, .inl (5, 0), false) := rfl
theorem lk_Mo_knowing_109 : sc_lk tb_Mo_knowing 109 = some (.aload_n 0, 1, .inl (0, 0), false) := rfl
theorem lk_Mo_knowing_110 : sc_lk tb_Mo_knowing 110 = some (.getfield 59, 3, .inl (5, 19), false) := rfl
theorem lk_Mo_knowing_113 : sc_lk tb_Mo_knowing 113 = some (.iload 5, 2, .inl (5, 0), false) := rfl
theorem lk_Mo_knowing_115 : sc_lk tb_Mo_knowing 115 = some (.iaload, 1, .inr (.inr 0), false) := rfl
theorem lk_Mo_knowing_116 : sc_lk tb_Mo_knowing 116 = some (.iastore, 1, .inr (.inr 0), false) := rfl
theorem lk_Mo_knowing_117 : sc_lk tb_Mo_knowing 117 = some (.iinc 5 1, 3, .inl (5, 0), false) := rfl
theorem lk_Mo_knowing_120 : sc_lk tb_Mo_knowing 120 = some (.goto (-26), 3, .inl (94, 0), false) := rfl
theorem lk_Mo_knowing_123 : sc_lk tb_Mo_knowing 123 = some (.aload_n 0, 1, .inl (0, 0), false) := rfl
theorem lk_Mo_knowing_124 : sc_lk tb_Mo_knowing 124 = some (.lload_n 3, 1, .inl (3, 0), false) := rfl
theorem lk_Mo_knowing_125 : sc_lk tb_Mo_knowing 125 = some (.lload_n 1, 1, .inl (1, 0), false) := rfl
theorem lk_Mo_knowing_126 : sc_lk tb_Mo_knowing 126 = some (.lsub, 1, .inr (.inr 0), false) := rfl
theorem lk_Mo_knowing_127 : sc_lk tb_Mo_knowing 127 = some (.aload_n 0, 1, .inl (0, 0), false) := rfl
theorem lk_Mo_knowing_128 : sc_lk tb_Mo_knowing 128 = some (.invokevirtual 175, 3, .inr (.inl (5, 0, mq_Mo_allWeights)), false) := rfl
theorem lk_Mo_knowing_131 : sc_lk tb_Mo_knowing 131 = some (.invokevirtual 178, 3, .inr (.inl (5, 2, mq_Mo_tell)), false) := rfl
theorem lk_Mo_knowing_134 : sc_lk tb_Mo_knowing 134 = some (.ireturn, 1, .inr (.inr 0), false) := rfl
def tb_Mo_inHand : sc_T := [(0, .aload_n 0, 1, .inl (0, 0), false), (1, .iload_n 1, 1, .inl (1, 0), false), (2, .invokevirtual 99, 3, .inr (.inl (5, 1, mq_Mo_isNode)), false), (5, .ifCond .ne 5, 3, .inl (10, 0), false), (8, .iconst (-1), 1, .inr (.inr 0), false), (9, .ireturn, 1, .inr (.inr 0), false), (10, .aload_n 0, 1, .inl (0, 0), false), (11, .getfield 17, 3, .inl (5, 6), false), (14, .iload_n 1, 1, .inl (1, 0), false), (15, .iaload, 1, .inr (.inr 0), false), (16, .iconst 1, 1, .inr (.inr 0), false), (17, .if_icmp .eq 9, 3, .inl (26, 0), false), (20, .aload_n 0, 1, .inl (0, 0), false), (21, .iconst 3, 1, .inr (.inr 0), false), (22, .invokevirtual 103, 3, .inr (.inl (5, 1, mq_Mo_meets)), false), (25, .ireturn, 1, .inr (.inr 0), false), (26, .aload_n 0, 1, .inl (0, 0), false), (27, .invokevirtual 172, 3, .inr (.inl (5, 0, mq_Mo_bestSum)), false), (30, .lstore_n 2, 1, .inl (2, 0), false), (31, .aload_n 0, 1, .inl (0, 0), false), (32, .iload_n 1, 1, .inl (1, 0), false), (33, .putfield 38, 3, .inl (5, 13), false), (36, .aload_n 0, 1, .inl (0, 0), false), (37, .invokevirtual 172, 3, .inr (.inl (5, 0, mq_Mo_bestSum)), false), (40, .ldc2_w 132, 3, .inr (.inr (12)), false), (43, .lmul, 1, .inr (.inr 0), false), (44, .lstore 4, 2, .inl (4, 0), false), (46, .aload_n 0, 1, .inl (0, 0), false), (47, .bipush (-9), 2, .inr (.inr 0), false), (49, .putfield 38, 3, .inl (5, 13), false), (52, .aload_n 0, 1, .inl (0, 0), false), (53, .lload 4, 2, .inl (4, 0), false), (55, .lload_n 2, 1, .inl (2, 0), false), (56, .lsub, 1, .inr (.inr 0), false), (57, .aload_n 0, 1, .inl (0, 0), false), (58, .invokevirtual 175, 3, .inr (.inl (5, 0, mq_Mo_allWeights)), false), (61, .invokevirtual 178, 3, .inr (.inl (5, 2, mq_Mo_tell)), false), (64, .ireturn, 1, .inr (.inr 0), false)]
theorem tk_Mo_inHand : sc_ok mq_Mo_inHand tb_Mo_inHand = true := by decide +kernel
theorem lk_Mo_inHand_0 : sc_lk tb_Mo_inHand 0 = some (.aload_n 0, 1, .inl (0, 0), false) := rfl
theorem lk_Mo_inHand_1 : sc_lk tb_Mo_inHand 1 = some (.iload_n 1, 1, .inl (1, 0), false) := rfl
theorem lk_Mo_inHand_2 : sc_lk tb_Mo_inHand 2 = some (.invokevirtual 99, 3, .inr (.inl (5, 1, mq_Mo_isNode)), false) := rfl
theorem lk_Mo_inHand_5 : sc_lk tb_Mo_inHand 5 = some (.ifCond .ne 5, 3, .inl (10, 0), false) := rfl
theorem lk_Mo_inHand_8 : sc_lk tb_Mo_inHand 8 = some (.iconst (-1), 1, .inr (.inr 0), false) := rfl
theorem lk_Mo_inHand_9 : sc_lk tb_Mo_inHand 9 = some (.ireturn, 1, .inr (.inr 0), false) := rfl
theorem lk_Mo_inHand_10 : sc_lk tb_Mo_inHand 10 = some (.aload_n 0, 1, .inl (0, 0), false) := rfl
theorem lk_Mo_inHand_11 : sc_lk tb_Mo_inHand 11 = some (.getfield 17, 3, .inl (5, 6), false) := rfl
theorem lk_Mo_inHand_14 : sc_lk tb_Mo_inHand 14 = some (.iload_n 1, 1, .inl (1, 0), false) := rfl
theorem lk_Mo_inHand_15 : sc_lk tb_Mo_inHand 15 = some (.iaload, 1, .inr (.inr 0), false) := rfl
theorem lk_Mo_inHand_16 : sc_lk tb_Mo_inHand 16 = some (.iconst 1, 1, .inr (.inr 0), false) := rfl
theorem lk_Mo_inHand_17 : sc_lk tb_Mo_inHand 17 = some (.if_icmp .eq 9, 3, .inl (26, 0), false) := rfl
theorem lk_Mo_inHand_20 : sc_lk tb_Mo_inHand 20 = some (.aload_n 0, 1, .inl (0, 0), false) := rfl
theorem lk_Mo_inHand_21 : sc_lk tb_Mo_inHand 21 = some (.iconst 3, 1, .inr (.inr 0), false) := rfl
theorem lk_Mo_inHand_22 : sc_lk tb_Mo_inHand 22 = some (.invokevirtual 103, 3, .inr (.inl (5, 1, mq_Mo_meets)), false) := rfl
theorem lk_Mo_inHand_25 : sc_lk tb_Mo_inHand 25 = some (.ireturn, 1, .inr (.inr 0), false) := rfl
theorem lk_Mo_inHand_26 : sc_lk tb_Mo_inHand 26 = some (.aload_n 0, 1, .inl (0, 0), false) := rfl
theorem lk_Mo_inHand_27 : sc_lk tb_Mo_inHand 27 = some (.invokevirtual 172, 3, .inr (.inl (5, 0, mq_Mo_bestSum)), false) := rfl
theorem lk_Mo_inHand_30 : sc_lk tb_Mo_inHand 30 = some (.lstore_n 2, 1, .inl (2, 0), false) := rfl
theorem lk_Mo_inHand_31 : sc_lk tb_Mo_inHand 31 = some (.aload_n 0, 1, .inl (0, 0), false) := rfl
theorem lk_Mo_inHand_32 : sc_lk tb_Mo_inHand 32 = some (.iload_n 1, 1, .inl (1, 0), false) := rfl
theorem lk_Mo_inHand_33 : sc_lk tb_Mo_inHand 33 = some (.putfield 38, 3, .inl (5, 13), false) := rfl
theorem lk_Mo_inHand_36 : sc_lk tb_Mo_inHand 36 = some (.aload_n 0, 1, .inl (0, 0), false) := rfl
theorem lk_Mo_inHand_37 : sc_lk tb_Mo_inHand 37 = some (.invokevirtual 172, 3, .inr (.inl (5, 0, mq_Mo_bestSum)), false) := rfl
theorem lk_Mo_inHand_40 : sc_lk tb_Mo_inHand 40 = some (.ldc2_w 132, 3, .inr (.inr (12)), false) := rfl
theorem lk_Mo_inHand_43 : sc_lk tb_Mo_inHand 43 = some (.lmul, 1, .inr (.inr 0), false) := rfl
theorem lk_Mo_inHand_44 : sc_lk tb_Mo_inHand 44 = some (.lstore 4, 2, .inl (4, 0), false) := rfl
theorem lk_Mo_inHand_46 : sc_lk tb_Mo_inHand 46 = some (.aload_n 0, 1, .inl (0, 0), false) := rfl
theorem lk_Mo_inHand_47 : sc_lk tb_Mo_inHand 47 = some (.bipush (-9), 2, .inr (.inr 0), false) := rfl
theorem lk_Mo_inHand_49 : sc_lk tb_Mo_inHand 49 = some (.putfield 38, 3, .inl (5, 13), false) := rfl
theorem lk_Mo_inHand_52 : sc_lk tb_Mo_inHand 52 = some (.aload_n 0, 1, .inl (0, 0), false) := rfl
theorem lk_Mo_inHand_53 : sc_lk tb_Mo_inHand 53 = some (.lload 4, 2, .inl (4, 0), false) := rfl
theorem lk_Mo_inHand_55 : sc_lk tb_Mo_inHand 55 = some (.lload_n 2, 1, .inl (2, 0), false) := rfl
theorem lk_Mo_inHand_56 : sc_lk tb_Mo_inHand 56 = some (.lsub, 1, .inr (.inr 0), false) := rfl
theorem lk_Mo_inHand_57 : sc_lk tb_Mo_inHand 57 = some (.aload_n 0, 1, .inl (0, 0), false) := rfl
theorem lk_Mo_inHand_58 : sc_lk tb_Mo_inHand 58 = some (.invokevirtual 175, 3, .inr (.inl (5, 0, mq_Mo_allWeights)), false) := rfl
theorem lk_Mo_inHand_61 : sc_lk tb_Mo_inHand 61 = some (.invokevirtual 178, 3, .inr (.inl (5, 2, mq_Mo_tell)), false) := rfl
theorem lk_Mo_inHand_64 : sc_lk tb_Mo_inHand 64 = some (.ireturn, 1, .inr (.inr 0), false) := rfl
def tb_Mo_needless : sc_T := [(0, .aload_n 0, 1, .inl (0, 0), false), (1, .iload_n 1, 1, .inl (1, 0), false), (2, .iload_n 2, 1, .inl (2, 0), false), (3, .invokevirtual 113, 3, .inr (.inl (5, 2, mq_Mo_askedBlind)), false), (6, .istore_n 3, 1, .inl (3, 0), false), (7, .iload_n 3, 1, .inl (3, 0), false), (8, .ifCond .ge 5, 3, .inl (13, 0), false), (11, .iload_n 3, 1, .inl (3, 0), false), (12, .ireturn, 1, .inr (.inr 0), false), (13, .aload_n 0, 1, .inl (0, 0), false), (14, .invokevirtual 172, 3, .inr (.inl (5, 0, mq_Mo_bestSum)), false), (17, .lstore 4, 2, .inl (4, 0), false), (19, .aload_n 0, 1, .inl (0, 0), false), (20, .getfield 29, 3, .inl (5, 10), false), (23, .iload_n 1, 1, .inl (1, 0), false), (24, .dup2, 1, .inr (.inr 0), false), (25, .iaload, 1, .inr (.inr 0), false), (26, .iconst 1, 1, .inr (.inr 0), false), (27, .iload_n 2, 1, .inl (2, 0), false), (28, .ishl, 1, .inr (.inr 0), false), (29, .iconst (-1), 1, .inr (.inr 0), false), (30, .ixor, 1, .inr (.inr 0), false), (31, .iand, 1, .inr (.inr 0), false), (32, .iastore, 1, .inr (.inr 0), false), (33, .aload_n 0, 1, .inl (0, 0), false), (34, .invokevirtual 172, 3, .inr (.inl (5, 0, mq_Mo_bestSum)), false), (37, .lstore 6, 2, .inl (6, 0), false), (39, .aload_n 0, 1, .inl (0, 0), false), (40, .getfield 29, 3, .inl (5, 10), false), (43, .iload_n 1, 1, .inl (1, 0), false), (44, .dup2, 1, .inr (.inr 0), false), (45, .iaload, 1, .inr (.inr 0), false), (46, .iconst 1, 1, .inr (.inr 0), false), (47, .iload_n 2, 1, .inl (2, 0), false), (48, .ishl, 1, .inr (.inr 0), false), (49, .ior, 1, .inr (.inr 0), false), (50, .iastore, 1, .inr (.inr 0), false), (51, .lload 6, 2, .inl (6, 0), false), (53, .lload 4, 2, .inl (4, 0), false), (55, .lcmp, 1, .inr (.inr 0), false), (56, .ifCond .ne 7, 3, .inl (63, 0), false), (59, .iconst 1, 1, .inr (.inr 0), false), (60, .goto 4, 3, .inl (64, 0), false), (63, .iconst 0, 1, .inr (.inr 0), false), (64, .ireturn, 1, .inr (.inr 0), false)]
theorem tk_Mo_needless : sc_ok mq_Mo_needless tb_Mo_needless = true := by decide +kernel
theorem lk_Mo_needless_0 : sc_lk tb_Mo_needless 0 = some (.aload_n 0, 1, .inl (0, 0), false) := rfl
theorem lk_Mo_needless_1 : sc_lk tb_Mo_needless 1 = some (.iload_n 1, 1, .inl (1, 0), false) := rfl
theorem lk_Mo_needless_2 : sc_lk tb_Mo_needless 2 = some (.iload_n 2, 1, .inl (2, 0), false) := rfl
theorem lk_Mo_needless_3 : sc_lk tb_Mo_needless 3 = some (.invokevirtual 113, 3, .inr (.inl (5, 2, mq_Mo_askedBlind)), false) := rfl
theorem lk_Mo_needless_6 : sc_lk tb_Mo_needless 6 = some (.istore_n 3, 1, .inl (3, 0), false) := rfl
theorem lk_Mo_needless_7 : sc_lk tb_Mo_needless 7 = some (.iload_n 3, 1, .inl (3, 0), false) := rfl
theorem lk_Mo_needless_8 : sc_lk tb_Mo_needless 8 = some (.ifCond .ge 5, 3, .inl (13, 0), false) := rfl
theorem lk_Mo_needless_11 : sc_lk tb_Mo_needless 11 = some (.iload_n 3, 1, .inl (3, 0), false) := rfl
theorem lk_Mo_needless_12 : sc_lk tb_Mo_needless 12 = some (.ireturn, 1, .inr (.inr 0), false) := rfl
theorem lk_Mo_needless_13 : sc_lk tb_Mo_needless 13 = some (.aload_n 0, 1, .inl (0, 0), false) := rfl
theorem lk_Mo_needless_14 : sc_lk tb_Mo_needless 14 = some (.invokevirtual 172, 3, .inr (.inl (5, 0, mq_Mo_bestSum)), false) := rfl
theorem lk_Mo_needless_17 : sc_lk tb_Mo_needless 17 = some (.lstore 4, 2, .inl (4, 0), false) := rfl
theorem lk_Mo_needless_19 : sc_lk tb_Mo_needless 19 = some (.aload_n 0, 1, .inl (0, 0), false) := rfl
theorem lk_Mo_needless_20 : sc_lk tb_Mo_needless 20 = some (.getfield 29, 3, .inl (5, 10), false) := rfl
theorem lk_Mo_needless_23 : sc_lk tb_Mo_needless 23 = some (.iload_n 1, 1, .inl (1, 0), false) := rfl
theorem lk_Mo_needless_24 : sc_lk tb_Mo_needless 24 = some (.dup2, 1, .inr (.inr 0), false) := rfl
theorem lk_Mo_needless_25 : sc_lk tb_Mo_needless 25 = some (.iaload, 1, .inr (.inr 0), false) := rfl
theorem lk_Mo_needless_26 : sc_lk tb_Mo_needless 26 = some (.iconst 1, 1, .inr (.inr 0), false) := rfl
theorem lk_Mo_needless_27 : sc_lk tb_Mo_needless 27 = some (.iload_n 2, 1, .inl (2, 0), false) := rfl
theorem lk_Mo_needless_28 : sc_lk tb_Mo_needless 28 = some (.ishl, 1, .inr (.inr 0), false) := rfl
theorem lk_Mo_needless_29 : sc_lk tb_Mo_needless 29 = some (.iconst (-1), 1, .inr (.inr 0), false) := rfl
theorem lk_Mo_needless_30 : sc_lk tb_Mo_needless 30 = some (.ixor, 1, .inr (.inr 0), false) := rfl
theorem lk_Mo_needless_31 : sc_lk tb_Mo_needless 31 = some (.iand, 1, .inr (.inr 0), false) := rfl
theorem lk_Mo_needless_32 : sc_lk tb_Mo_needless 32 = some (.iastore, 1, .inr (.inr 0), false) := rfl
theorem lk_Mo_needless_33 : sc_lk tb_Mo_needless 33 = some (.aload_n 0, 1, .inl (0, 0), false) := rfl
theorem lk_Mo_needless_34 : sc_lk tb_Mo_needless 34 = some (.invokevirtual 172, 3, .inr (.inl (5, 0, mq_Mo_bestSum)), false) := rfl
theorem lk_Mo_needless_37 : sc_lk tb_Mo_needless 37 = some (.lstore 6, 2, .inl (6, 0), false) := rfl
theorem lk_Mo_needless_39 : sc_lk tb_Mo_needless 39 = some (.aload_n 0, 1, .inl (0, 0), false) := rfl
theorem lk_Mo_needless_40 : sc_lk tb_Mo_needless 40 = some (.getfield 29, 3, .inl (5, 10), false) := rfl
theorem lk_Mo_needless_43 : sc_lk tb_Mo_needless 43 = some (.iload_n 1, 1, .inl (1, 0), false) := rfl
theorem lk_Mo_needless_44 : sc_lk tb_Mo_needless 44 = some (.dup2, 1, .inr (.inr 0), false) := rfl
theorem lk_Mo_needless_45 : sc_lk tb_Mo_needless 45 = some (.iaload, 1, .inr (.inr 0), false) := rfl
theorem lk_Mo_needless_46 : sc_lk tb_Mo_needless 46 = some (.iconst 1, 1, .inr (.inr 0), false) := rfl
theorem lk_Mo_needless_47 : sc_lk tb_Mo_needless 47 = some (.iload_n 2, 1, .inl (2, 0), false) := rfl
theorem lk_Mo_needless_48 : sc_lk tb_Mo_needless 48 = some (.ishl, 1, .inr (.inr 0), false) := rfl
theorem lk_Mo_needless_49 : sc_lk tb_Mo_needless 49 = some (.ior, 1, .inr (.inr 0), false) := rfl
theorem lk_Mo_needless_50 : sc_lk tb_Mo_needless 50 = some (.iastore, 1, .inr (.inr 0), false) := rfl
theorem lk_Mo_needless_51 : sc_lk tb_Mo_needless 51 = some (.lload 6, 2, .inl (6, 0), false) := rfl
theorem lk_Mo_needless_53 : sc_lk tb_Mo_needless 53 = some (.lload 4, 2, .inl (4, 0), false) := rfl
theorem lk_Mo_needless_55 : sc_lk tb_Mo_needless 55 = some (.lcmp, 1, .inr (.inr 0), false) := rfl
theorem lk_Mo_needless_56 : sc_lk tb_Mo_needless 56 = some (.ifCond .ne 7, 3, .inl (63, 0), false) := rfl
theorem lk_Mo_needless_59 : sc_lk tb_Mo_needless 59 = some (.iconst 1, 1, .inr (.inr 0), false) := rfl
theorem lk_Mo_needless_60 : sc_lk tb_Mo_needless 60 = some (.goto 4, 3, .inl (64, 0), false) := rfl
theorem lk_Mo_needless_63 : sc_lk tb_Mo_needless 63 = some (.iconst 0, 1, .inr (.inr 0), false) := rfl
theorem lk_Mo_needless_64 : sc_lk tb_Mo_needless 64 = some (.ireturn, 1, .inr (.inr 0), false) := rfl
def tb_Mo_span : sc_T := [(0, .aload_n 0, 1, .inl (0, 0), false), (1, .iload_n 1, 1, .inl (1, 0), false), (2, .invokevirtual 99, 3, .inr (.inl (5, 1, mq_Mo_isNode)), false), (5, .ifCond .ne 5, 3, .inl (10, 0), false), (8, .iconst (-1), 1, .inr (.inr 0), false), (9, .ireturn, 1, .inr (.inr 0), false), (10, .aload_n 0, 1, .inl (0, 0), false), (11, .getfield 17, 3, .inl (5, 6), false), (14, .iload_n 1, 1, .inl (1, 0), false), (15, .iaload, 1, .inr (.inr 0), false), (16, .ifCond .eq 9, 3, .inl (25, 0), false), (19, .aload_n 0, 1, .inl (0, 0), false), (20, .iconst 3, 1, .inr (.inr 0), false), (21, .invokevirtual 103, 3, .inr (.inl (5, 1, mq_Mo_meets)), false), (24, .ireturn, 1, .inr (.inr 0), false), (25, .iload_n 2, 1, .inl (2, 0), false), (26, .iconst 0, 1, .inr (.inr 0), false), (27, .aload_n 0, 1, .inl (0, 0), false), (28, .iload_n 1, 1, .inl (1, 0), false), (29, .invokevirtual 87, 3, .inr (.inl (5, 1, mq_Mo_rowsOf)), false), (32, .iconst 1, 1, .inr (.inr 0), false), (33, .isub, 1, .inr (.inr 0), false), (34, .invokestatic 83, 3, .inr (.inl (100, 3, mq_Mo_in)), false), (37, .ifCond .ne 9, 3, .inl (46, 0), false), (40, .aload_n 0, 1, .inl (0, 0), false), (41, .iconst 2, 1, .inr (.inr 0), false), (42, .invokevirtual 103, 3, .inr (.inl (5, 1, mq_Mo_meets)), false), (45, .ireturn, 1, .inr (.inr 0), false), (46, .iconst 0, 1, .inr (.inr 0), false), (47, .istore 4, 2, .inl (4, 0), false), (49, .iload 4, 2, .inl (4, 0), true), (51, .aload_n 0, 1, .inl (0, 0), false), (52, .getfield 80, 3, .inl (5, 5), false), (55, .if_icmp .ge 19, 3, .inl (74, 0), false), (58, .aload_n 0, 1, .inl (0, 0), false), (59, .iload 4, 2, .inl (4, 0), false), (61, .invokevirtual 117, 3, .inr (.inl (5, 1, mq_Mo_kindOf)), false), (64, .iconst 2, 1, .inr (.inr 0), false), (65, .if_icmp .eq 9, 3, .inl (74, 0), false), (68, .iinc 4 1, 3, .inl (4, 0), false), (71, .goto (-22), 3, .inl (49, 0), false), (74, .iload 4, 2, .inl (4, 0), false), (76, .aload_n 0, 1, .inl (0, 0), false), (77, .getfield 80, 3, .inl (5, 5), false), (80, .if_icmp .ne 6, 3, .inl (86, 0), false), (83, .bipush (-4), 2, .inr (.inr 0), false), (85, .ireturn, 1, .inr (.inr 0), false), (86, .bipush 27, 2, .inr (.inr 0), false), (88, .iload_n 1, 1, .inl (1, 0), false), (89, .imul, 1, .inr (.inr 0), false), (90, .iload_n 2, 1, .inl (2, 0), false), (91, .iadd, 1, .inr (.inr 0), false), (92, .istore 5, 2, .inl (5, 0), false), (94, .aload_n 0, 1, .inl (0, 0), false), (95, .getfield 35, 3, .inl (5, 12), false), (98, .iload 5, 2, .inl (5, 0), false), (100, .iaload, 1, .inr (.inr 0), false), (101, .istore 6, 2, .inl (6, 0), false), (103, .aload_n 0, 1, .inl (0, 0), false), (104, .iload 4, 2, .inl (4, 0), false), (106, .invokevirtual 193, 3, .inr (.inl (5, 1, mq_Mo_firstDoes)), false), (109, .istore 7, 2, .inl (7, 0), false), (111, .iload 6, 2, .inl (6, 0), false), (113, .istore 8, 2, .inl (8, 0), false), (115, .iload_n 3, 1, .inl (3, 0), false), (116, .ifCond .eq 7, 3, .inl (123, 0), false), (119, .iconst 1, 1, .inr (.inr 0), false), (120, .goto 4, 3, .inl (124, 0), false), (123, .iconst (-1), 1, .inr (.inr 0), false), (124, .istore 9, 2, .inl (9, 0), false), (126, .iconst 1, 1, .inr (.inr 0), false), (127, .istore 10, 2, .inl (10, 0), false), (129, .iload 10, 2, .inl (10, 0), true), (131, .ifCond .eq 67, 3, .inl (198, 0), false), (134, .iload 8, 2, .inl (8, 0), false), (136, .iload 9, 2, .inl (9, 0), false), (138, .iadd, 1, .inr (.inr 0), false), (139, .bipush (-100), 2, .inr (.inr 0), false), (141, .bipush 100, 2, .inr (.inr 0), false), (143, .invokestatic 83, 3, .inr (.inl (100, 3, mq_Mo_in)), false), (146, .ifCond .eq 52, 3, .inl (198, 0), false), (149, .aload_n 0, 1, .inl (0, 0), false), (150, .getfield 35, 3, .inl (5, 12), false), (153, .iload 5, 2, .inl (5, 0), false), (155, .iload 8, 2, .inl (8, 0), false), (157, .iload 9, 2, .inl (9, 0), false), (159, .iadd, 1, .inr (.inr 0), false), (160, .iastore, 1, .inr (.inr 0), false), (161, .aload_n 0, 1, .inl (0, 0), false), (162, .iload 4, 2, .inl (4, 0), false), (164, .invokevirtual 193, 3, .inr (.inl (5, 1, mq_Mo_firstDoes)), false), (167, .iload 7, 2, .inl (7, 0), false), (169, .if_icmp .ne 7, 3, .inl (176, 0), false), (172, .iconst 1, 1, .inr (.inr 0), false), (173, .goto 4, 3, .inl (177, 0), false), (176, .iconst 0, 1, .inr (.inr 0), false), (177, .istore 10, 2, .inl (10, 0), false), (179, .iload 8, 2, .inl (8, 0), false), (181, .iload 10, 2, .inl (10, 0), false), (183, .ifCond .eq 8, 3, .inl (191, 0), false), (186, .iload 9, 2, .inl (9, 0), false), (188, .goto 4, 3, .inl (192, 0), false), (191, .iconst 0, 1, .inr (.inr 0), false), (192, .iadd, 1, .inr (.inr 0), false), (193, .istore 8, 2, .inl (8, 0), false), (195, .goto (-66), 3, .inl (129, 0), false), (198, .aload_n 0, 1, .inl (0, 0), false), (199, .getfield 35, 3, .inl (5, 12), false), (202, .iload 5, 2, .inl (5, 0), false), (204, .iload 6, 2, .inl (6, 0), false), (206, .iastore, 1, .inr (.inr 0), false), (207, .aload_n 0, 1, .inl (0, 0), false), (208, .iload 8, 2, .inl (8, 0), false), (210, .invokevirtual 126, 3, .inr (.inl (5, 1, mq_Mo_ask)), false), (213, .ireturn, 1, .inr (.inr 0), false)]
theorem tk_Mo_span : sc_ok mq_Mo_span tb_Mo_span = true := by decide +kernel
set_option maxRecDepth 20000 in
theorem lk_Mo_span_0 : sc_lk tb_Mo_span 0 = some (.aload_n 0, 1, .inl (0, 0), false) := rfl
set_option maxRecDepth 20000 in
theorem lk_Mo_span_1 : sc_lk tb_Mo_span 1 = some (.iload_n 1, 1, .inl (1, 0), false) := rfl
set_option maxRecDepth 20000 in
theorem lk_Mo_span_2 : sc_lk tb_Mo_span 2 = some (.invokevirtual 99, 3, .inr (.inl (5, 1, mq_Mo_isNode)), false) := rfl
set_option maxRecDepth 20000 in
theorem lk_Mo_span_5 : sc_lk tb_Mo_span 5 = some (.ifCond .ne 5, 3, .inl (10, 0), false) := rfl
set_option maxRecDepth 20000 in
theorem lk_Mo_span_8 : sc_lk tb_Mo_span 8 = some (.iconst (-1), 1, .inr (.inr 0), false) := rfl
set_option maxRecDepth 20000 in
theorem lk_Mo_span_9 : sc_lk tb_Mo_span 9 = some (.ireturn, 1, .inr (.inr 0), false) := rfl
set_option maxRecDepth 20000 in
theorem lk_Mo_span_10 : sc_lk tb_Mo_span 10 = some (.aload_n 0, 1, .inl (0, 0), false) := rfl
set_option maxRecDepth 20000 in
theorem lk_Mo_span_11 : sc_lk tb_Mo_span 11 = some (.getfield 17, 3, .inl (5, 6), false) := rfl
set_option maxRecDepth 20000 in
theorem lk_Mo_span_14 : sc_lk tb_Mo_span 14 = some (.iload_n 1, 1, .inl (1, 0), false) := rfl
set_option maxRecDepth 20000 in
theorem lk_Mo_span_15 : sc_lk tb_Mo_span 15 = some (.iaload, 1, .inr (.inr 0), false) := rfl
set_option maxRecDepth 20000 in
theorem lk_Mo_span_16 : sc_lk tb_Mo_span 16 = some (.ifCond .eq 9, 3, .inl (25, 0), false) := rfl
set_option maxRecDepth 20000 in
theorem lk_Mo_span_19 : sc_lk tb_Mo_span 19 = some (.aload_n 0, 1, .inl (0, 0), false) := rfl
set_option maxRecDepth 20000 in
theorem lk_Mo_span_20 : sc_lk tb_Mo_span 20 = some (.iconst 3, 1, .inr (.inr 0), false) := rfl
set_option maxRecDepth 20000 in
theorem lk_Mo_span_21 : sc_lk tb_Mo_span 21 = some (.invokevirtual 103, 3, .inr (.inl (5, 1, mq_Mo_meets)), false) := rfl
set_option maxRecDepth 20000 in
theorem lk_Mo_span_24 : sc_lk tb_Mo_span 24 = some (.ireturn, 1, .inr (.inr 0), false) := rfl
set_option maxRecDepth 20000 in
theorem lk_Mo_span_25 : sc_lk tb_Mo_span 25 = some (.iload_n 2, 1, .inl (2, 0), false) := rfl
set_option maxRecDepth 20000 in
theorem lk_Mo_span_26 : sc_lk tb_Mo_span 26 = some (.iconst 0, 1, .inr (.inr 0), false) := rfl
set_option maxRecDepth 20000 in
theorem lk_Mo_span_27 : sc_lk tb_Mo_span 27 = some (.aload_n 0, 1, .inl (0, 0), false) := rfl
set_option maxRecDepth 20000 in
theorem lk_Mo_span_28 : sc_lk tb_Mo_span 28 = some (.iload_n 1, 1, .inl (1, 0), false) := rfl
set_option maxRecDepth 20000 in
theorem lk_Mo_span_29 : sc_lk tb_Mo_span 29 = some (.invokevirtual 87, 3, .inr (.inl (5, 1, mq_Mo_rowsOf)), false) := rfl
set_option maxRecDepth 20000 in
theorem lk_Mo_span_32 : sc_lk tb_Mo_span 32 = some (.iconst 1, 1, .inr (.inr 0), false) := rfl
set_option maxRecDepth 20000 in
theorem lk_Mo_span_33 : sc_lk tb_Mo_span 33 = some (.isub, 1, .inr (.inr 0), false) := rfl
set_option maxRecDepth 20000 in
theorem lk_Mo_span_34 : sc_lk tb_Mo_span 34 = some (.invokestatic 83, 3, .inr (.inl (100, 3, mq_Mo_in)), false) := rfl
set_option maxRecDepth 20000 in
theorem lk_Mo_span_37 : sc_lk tb_Mo_span 37 = some (.ifCond .ne 9, 3, .inl (46, 0), false) := rfl
set_option maxRecDepth 20000 in
theorem lk_Mo_span_40 : sc_lk tb_Mo_span 40 = some (.aload_n 0, 1, .inl (0, 0), false) := rfl
set_option maxRecDepth 20000 in
theorem lk_Mo_span_41 : sc_lk tb_Mo_span 41 = some (.iconst 2, 1, .inr (.inr 0), false) := rfl
set_option maxRecDepth 20000 in
theorem lk_Mo_span_42 : sc_lk tb_Mo_span 42 = some (.invokevirtual 103, 3, .inr (.inl (5, 1, mq_Mo_meets)), false) := rfl
set_option maxRecDepth 20000 in
theorem lk_Mo_span_45 : sc_lk tb_Mo_span 45 = some (.ireturn, 1, .inr (.inr 0), false) := rfl
set_option maxRecDepth 20000 in
theorem lk_Mo_span_46 : sc_lk tb_Mo_span 46 = some (.iconst 0, 1, .inr (.inr 0), false) := rfl
set_option maxRecDepth 20000 in
theorem lk_Mo_span_47 : sc_lk tb_Mo_span 47 = some (.istore 4, 2, .inl (4, 0), false) := rfl
set_option maxRecDepth 20000 in
theorem lk_Mo_span_49 : sc_lk tb_Mo_span 49 = some (.iload 4, 2, .inl (4, 0), true) := rfl
set_option maxRecDepth 20000 in
theorem lk_Mo_span_51 : sc_lk tb_Mo_span 51 = some (.aload_n 0, 1, .inl (0, 0), false) := rfl
set_option maxRecDepth 20000 in
theorem lk_Mo_span_52 : sc_lk tb_Mo_span 52 = some (.getfield 80, 3, .inl (5, 5), false) := rfl
set_option maxRecDepth 20000 in
theorem lk_Mo_span_55 : sc_lk tb_Mo_span 55 = some (.if_icmp .ge 19, 3, .inl (74, 0), false) := rfl
set_option maxRecDepth 20000 in
theorem lk_Mo_span_58 : sc_lk tb_Mo_span 58 = some (.aload_n 0, 1, .inl (0, 0), false) := rfl
set_option maxRecDepth 20000 in
theorem lk_Mo_span_59 : sc_lk tb_Mo_span 59 = some (.iload 4, 2, .inl (4, 0), false) := rfl
set_option maxRecDepth 20000 in
theorem lk_Mo_span_61 : sc_lk tb_Mo_span 61 = some (.invokevirtual 117, 3, .inr (.inl (5, 1, mq_Mo_kindOf)), false) := rfl
set_option maxRecDepth 20000 in
theorem lk_Mo_span_64 : sc_lk tb_Mo_span 64 = some (.iconst 2, 1, .inr (.inr 0), false) := rfl
set_option maxRecDepth 20000 in
theorem lk_Mo_span_65 : sc_lk tb_Mo_span 65 = some (.if_icmp .eq 9, 3, .inl (74, 0), false) := rfl
set_option maxRecDepth 20000 in
theorem lk_Mo_span_68 : sc_lk tb_Mo_span 68 = some (.iinc 4 1, 3, .inl (4, 0), false) := rfl
set_option maxRecDepth 20000 in
theorem lk_Mo_span_71 : sc_lk tb_Mo_span 71 = some (.goto (-22), 3, .inl (49, 0), false) := rfl
set_option maxRecDepth 20000 in
theorem lk_Mo_span_74 : sc_lk tb_Mo_span 74 = some (.iload 4, 2, .inl (4, 0), false) := rfl
set_option maxRecDepth 20000 in
theorem lk_Mo_span_76 : sc_lk tb_Mo_span 76 = some (.aload_n 0, 1, .inl (0, 0), false) := rfl
set_option maxRecDepth 20000 in
theorem lk_Mo_span_77 : sc_lk tb_Mo_span 77 = some (.getfield 80, 3, .inl (5, 5), false) := rfl
set_option maxRecDepth 20000 in
theorem lk_Mo_span_80 : sc_lk tb_Mo_span 80 = some (.if_icmp .ne 6, 3, .inl (86, 0), false) := rfl
set_option maxRecDepth 20000 in
theorem lk_Mo_span_83 : sc_lk tb_Mo_span 83 = some (.bipush (-4), 2, .inr (.inr 0), false) := rfl
set_option maxRecDepth 20000 in
theorem lk_Mo_span_85 : sc_lk tb_Mo_span 85 = some (.ireturn, 1, .inr (.inr 0), false) := rfl
set_option maxRecDepth 20000 in
theorem lk_Mo_span_86 : sc_lk tb_Mo_span 86 = some (.bipush 27, 2, .inr (.inr 0), false) := rfl
set_option maxRecDepth 20000 in
theorem lk_Mo_span_88 : sc_lk tb_Mo_span 88 = some (.iload_n 1, 1, .inl (1, 0), false) := rfl
set_option maxRecDepth 20000 in
theorem lk_Mo_span_89 : sc_lk tb_Mo_span 89 = some (.imul, 1, .inr (.inr 0), false) := rfl
set_option maxRecDepth 20000 in
theorem lk_Mo_span_90 : sc_lk tb_Mo_span 90 = some (.iload_n 2, 1, .inl (2, 0), false) := rfl
set_option maxRecDepth 20000 in
theorem lk_Mo_span_91 : sc_lk tb_Mo_span 91 = some (.iadd, 1, .inr (.inr 0), false) := rfl
set_option maxRecDepth 20000 in
theorem lk_Mo_span_92 : sc_lk tb_Mo_span 92 = some (.istore 5, 2, .inl (5, 0), false) := rfl
set_option maxRecDepth 20000 in
theorem lk_Mo_span_94 : sc_lk tb_Mo_span 94 = some (.aload_n 0, 1, .inl (0, 0), false) := rfl
set_option maxRecDepth 20000 in
theorem lk_Mo_span_95 : sc_lk tb_Mo_span 95 = some (.getfield 35, 3, .inl (5, 12), false) := rfl
set_option maxRecDepth 20000 in
theorem lk_Mo_span_98 : sc_lk tb_Mo_span 98 = some (.iload 5, 2, .inl (5, 0), false) := rfl
set_option maxRecDepth 20000 in
theorem lk_Mo_span_100 : sc_lk tb_Mo_span 100 = some (.iaload, 1, .inr (.inr 0), false) := rfl
set_option maxRecDepth 20000 in
theorem lk_Mo_span_101 : sc_lk tb_Mo_span 101 = some (.istore 6, 2, .inl (6, 0), false) := rfl
set_option maxRecDepth 20000 in
theorem lk_Mo_span_103 : sc_lk tb_Mo_span 103 = some (.aload_n 0, 1, .inl (0, 0), false) := rfl
set_option maxRecDepth 20000 in
theorem lk_Mo_span_104 : sc_lk tb_Mo_span 104 = some (.iload 4, 2, .inl (4, 0), false) := rfl
set_option maxRecDepth 20000 in
theorem lk_Mo_span_106 : sc_lk tb_Mo_span 106 = some (.invokevirtual 193, 3, .inr (.inl (5, 1, mq_Mo_firstDoes)), false) := rfl
set_option maxRecDepth 20000 in
theorem lk_Mo_span_109 : sc_lk tb_Mo_span 109 = some (.istore 7, 2, .inl (7, 0), false) := rfl
set_option maxRecDepth 20000 in
theorem lk_Mo_span_111 : sc_lk tb_Mo_span 111 = some (.iload 6, 2, .inl (6, 0), false) := rfl
set_option maxRecDepth 20000 in
theorem lk_Mo_span_113 : sc_lk tb_Mo_span 113 = some (.istore 8, 2, .inl (8, 0), false) := rfl
set_option maxRecDepth 20000 in
theorem lk_Mo_span_115 : sc_lk tb_Mo_span 115 = some (.iload_n 3, 1, .inl (3, 0), false) := rfl
set_option maxRecDepth 20000 in
theorem lk_Mo_span_116 : sc_lk tb_Mo_span 116 = some (.ifCond .eq 7, 3, .inl (123, 0), false) := rfl
set_option maxRecDepth 20000 in
theorem lk_Mo_span_119 : sc_lk tb_Mo_span 119 = some (.iconst 1, 1, .inr (.inr 0), false) := rfl
set_option maxRecDepth 20000 in
theorem lk_Mo_span_120 : sc_lk tb_Mo_span 120 = some (.goto 4, 3, .inl (124, 0), false) := rfl
set_option maxRecDepth 20000 in
theorem lk_Mo_span_123 : sc_lk tb_Mo_span 123 = some (.iconst (-1), 1, .inr (.inr 0), false) := rfl
set_option maxRecDepth 20000 in
theorem lk_Mo_span_124 : sc_lk tb_Mo_span 124 = some (.istore 9, 2, .inl (9, 0), false) := rfl
set_option maxRecDepth 20000 in
theorem lk_Mo_span_126 : sc_lk tb_Mo_span 126 = some (.iconst 1, 1, .inr (.inr 0), false) := rfl
set_option maxRecDepth 20000 in
theorem lk_Mo_span_127 : sc_lk tb_Mo_span 127 = some (.istore 10, 2, .inl (10, 0), false) := rfl
set_option maxRecDepth 20000 in
theorem lk_Mo_span_129 : sc_lk tb_Mo_span 129 = some (.iload 10, 2, .inl (10, 0), true) := rfl
set_option maxRecDepth 20000 in
theorem lk_Mo_span_131 : sc_lk tb_Mo_span 131 = some (.ifCond .eq 67, 3, .inl (198, 0), false) := rfl
set_option maxRecDepth 20000 in
theorem lk_Mo_span_134 : sc_lk tb_Mo_span 134 = some (.iload 8, 2, .inl (8, 0), false) := rfl
set_option maxRecDepth 20000 in
theorem lk_Mo_span_136 : sc_lk tb_Mo_span 136 = some (.iload 9, 2, .inl (9, 0), false) := rfl
set_option maxRecDepth 20000 in
theorem lk_Mo_span_138 : sc_lk tb_Mo_span 138 = some (.iadd, 1, .inr (.inr 0), false) := rfl
set_option maxRecDepth 20000 in
theorem lk_Mo_span_139 : sc_lk tb_Mo_span 139 = some (.bipush (-100), 2, .inr (.inr 0), false) := rfl
set_option maxRecDepth 20000 in
theorem lk_Mo_span_141 : sc_lk tb_Mo_span 141 = some (.bipush 100, 2, .inr (.inr 0), false) := rfl
set_option maxRecDepth 20000 in
theorem lk_Mo_span_143 : sc_lk tb_Mo_span 143 = some (.invokestatic 83, 3, .inr (.inl (100, 3, mq_Mo_in)), false) := rfl
set_option maxRecDepth 20000 in
theorem lk_Mo_span_146 : sc_lk tb_Mo_span 146 = some (.ifCond .eq 52, 3, .inl (198, 0), false) := rfl
set_option maxRecDepth 20000 in
theorem lk_Mo_span_149 : sc_lk tb_Mo_span 149 = some (.aload_n 0, 1, .inl (0, 0), false) := rfl
set_option maxRecDepth 20000 in
theorem lk_Mo_span_150 : sc_lk tb_Mo_span 150 = some (.getfield 35, 3, .inl (5, 12), false) := rfl
set_option maxRecDepth 20000 in
theorem lk_Mo_span_153 : sc_lk tb_Mo_span 153 = some (.iload 5, 2, .inl (5, 0), false) := rfl
set_option maxRecDepth 20000 in
theorem lk_Mo_span_155 : sc_lk tb_Mo_span 155 = some (.iload 8, 2, .inl (8, 0), false) := rfl
set_option maxRecDepth 20000 in
theorem lk_Mo_span_157 : sc_lk tb_Mo_span 157 = some (.iload 9, 2, .inl (9, 0), false) := rfl
set_option maxRecDepth 20000 in
theorem lk_Mo_span_159 : sc_lk tb_Mo_span 159 = some (.iadd, 1, .inr (.inr 0), false) := rfl
set_option maxRecDepth 20000 in
theorem lk_Mo_span_160 : sc_lk tb_Mo_span 160 = some (.iastore, 1, .inr (.inr 0), false) := rfl
set_option maxRecDepth 20000 in
theorem lk_Mo_span_161 : sc_lk tb_Mo_span 161 = some (.aload_n 0, 1, .inl (0, 0), false) := rfl
set_option maxRecDepth 20000 in
theorem lk_Mo_span_162 : sc_lk tb_Mo_span 162 = some (.iload 4, 2, .inl (4, 0), false) := rfl
set_option maxRecDepth 20000 in
theorem lk_Mo_span_164 : sc_lk tb_Mo_span 164 = some (.invokevirtual 193, 3, .inr (.inl (5, 1, mq_Mo_firstDoes)), false) := rfl
set_option maxRecDepth 20000 in
theorem lk_Mo_span_167 : sc_lk tb_Mo_span 167 = some (.iload 7, 2, .inl (7, 0), false) := rfl
set_option maxRecDepth 20000 in
theorem lk_Mo_span_169 : sc_lk tb_Mo_span 169 = some (.if_icmp .ne 7, 3, .inl (176, 0), false) := rfl
set_option maxRecDepth 20000 in
theorem lk_Mo_span_172 : sc_lk tb_Mo_span 172 = some (.iconst 1, 1, .inr (.inr 0), false) := rfl
set_option maxRecDepth 20000 in
theorem lk_Mo_span_173 : sc_lk tb_Mo_span 173 = some (.goto 4, 3, .inl (177, 0), false) := rfl
set_option maxRecDepth 20000 in
theorem lk_Mo_span_176 : sc_lk tb_Mo_span 176 = some (.iconst 0, 1, .inr (.inr 0), false) := rfl
set_option maxRecDepth 20000 in
theorem lk_Mo_span_177 : sc_lk tb_Mo_span 177 = some (.istore 10, 2, .inl (10, 0), false) := rfl
set_option maxRecDepth 20000 in
theorem lk_Mo_span_179 : sc_lk tb_Mo_span 179 = some (.iload 8, 2, .inl (8, 0), false) := rfl
set_option maxRecDepth 20000 in
theorem lk_Mo_span_181 : sc_lk tb_Mo_span 181 = some (.iload 10, 2, .inl (10, 0), false) := rfl
set_option maxRecDepth 20000 in
theorem lk_Mo_span_183 : sc_lk tb_Mo_span 183 = some (.ifCond .eq 8, 3, .inl (191, 0), false) := rfl
set_option maxRecDepth 20000 in
theorem lk_Mo_span_186 : sc_lk tb_Mo_span 186 = some (.iload 9, 2, .inl (9, 0), false) := rfl
set_option maxRecDepth 20000 in
theorem lk_Mo_span_188 : sc_lk tb_Mo_span 188 = some (.goto 4, 3, .inl (192, 0), false) := rfl
set_option maxRecDepth 20000 in
theorem lk_Mo_span_191 : sc_lk tb_Mo_span 191 = some (.iconst 0, 1, .inr (.inr 0), false) := rfl
set_option maxRecDepth 20000 in
theorem lk_Mo_span_192 : sc_lk tb_Mo_span 192 = some (.iadd, 1, .inr (.inr 0), false) := rfl
set_option maxRecDepth 20000 in
theorem lk_Mo_span_193 : sc_lk tb_Mo_span 193 = some (.istore 8, 2, .inl (8, 0), false) := rfl
set_option maxRecDepth 20000 in
theorem lk_Mo_span_195 : sc_lk tb_Mo_span 195 = some (.goto (-66), 3, .inl (129, 0), false) := rfl
set_option maxRecDepth 20000 in
theorem lk_Mo_span_198 : sc_lk tb_Mo_span 198 = some (.aload_n 0, 1, .inl (0, 0), false) := rfl
set_option maxRecDepth 20000 in
theorem lk_Mo_span_199 : sc_lk tb_Mo_span 199 = some (.getfield 35, 3, .inl (5, 12), false) := rfl
set_option maxRecDepth 20000 in
theorem lk_Mo_span_202 : sc_lk tb_Mo_span 202 = some (.iload 5, 2, .inl (5, 0), false) := rfl
set_option maxRecDepth 20000 in
theorem lk_Mo_span_204 : sc_lk tb_Mo_span 204 = some (.iload 6, 2, .inl (6, 0), false) := rfl
set_option maxRecDepth 20000 in
theorem lk_Mo_span_206 : sc_lk tb_Mo_span 206 = some (.iastore, 1, .inr (.inr 0), false) := rfl
set_option maxRecDepth 20000 in
theorem lk_Mo_span_207 : sc_lk tb_Mo_span 207 = some (.aload_n 0, 1, .inl (0, 0), false) := rfl
set_option maxRecDepth 20000 in
theorem lk_Mo_span_208 : sc_lk tb_Mo_span 208 = some (.iload 8, 2, .inl (8, 0), false) := rfl
set_option maxRecDepth 20000 in
theorem lk_Mo_span_210 : sc_lk tb_Mo_span 210 = some (.invokevirtual 126, 3, .inr (.inl (5, 1, mq_Mo_ask)), false) := rfl
set_option maxRecDepth 20000 in
theorem lk_Mo_span_213 : sc_lk tb_Mo_span 213 = some (.ireturn, 1, .inr (.inr 0), false) := rfl
def tb_Mo_firstDoes : sc_T := [(0, .aload_n 0, 1, .inl (0, 0), false), (1, .invokevirtual 166, 3, .inr (.inl (5, 0, mq_Mo_setPlan)), false), (4, .iconst 0, 1, .inr (.inr 0), false), (5, .istore_n 2, 1, .inl (2, 0), false), (6, .iload_n 2, 1, .inl (2, 0), true), (7, .aload_n 0, 1, .inl (0, 0), false), (8, .getfield 80, 3, .inl (5, 5), false), (11, .if_icmp .ge 39, 3, .inl (50, 0), false), (14, .aload_n 0, 1, .inl (0, 0), false), (15, .getfield 42, 3, .inl (5, 14), false), (18, .iload_n 2, 1, .inl (2, 0), false), (19, .iload_n 2, 1, .inl (2, 0), false), (20, .iload_n 1, 1, .inl (1, 0), false), (21, .if_icmp .ge 21, 3, .inl (42, 0), false), (24, .aload_n 0, 1, .inl (0, 0), false), (25, .getfield 32, 3, .inl (5, 11), false), (28, .iload_n 2, 1, .inl (2, 0), false), (29, .iaload, 1, .inr (.inr 0), false), (30, .ifCond .lt 12, 3, .inl (42, 0), false), (33, .aload_n 0, 1, .inl (0, 0), false), (34, .getfield 32, 3, .inl (5, 11), false), (37, .iload_n 2, 1, .inl (2, 0), false), (38, .iaload, 1, .inr (.inr 0), false), (39, .goto 4, 3, .inl (43, 0), false), (42, .iconst 0, 1, .inr (.inr 0), false), (43, .iastore, 1, .inr (.inr 0), false), (44, .iinc 2 1, 3, .inl (2, 0), false), (47, .goto (-41), 3, .inl (6, 0), false), (50, .aload_n 0, 1, .inl (0, 0), false), (51, .getfield 45, 3, .inl (5, 15), false), (54, .sipush 243, 3, .inr (.inr 0), false), (57, .iload_n 1, 1, .inl (1, 0), false), (58, .imul, 1, .inr (.inr 0), false), (59, .aload_n 0, 1, .inl (0, 0), false), (60, .aload_n 0, 1, .inl (0, 0), false), (61, .getfield 56, 3, .inl (5, 18), false), (64, .iload_n 1, 1, .inl (1, 0), false), (65, .iaload, 1, .inr (.inr 0), false), (66, .invokevirtual 140, 3, .inr (.inl (5, 1, mq_Mo_numberOf)), false), (69, .iadd, 1, .inr (.inr 0), false), (70, .iaload, 1, .inr (.inr 0), false), (71, .ireturn, 1, .inr (.inr 0), false)]
theorem tk_Mo_firstDoes : sc_ok mq_Mo_firstDoes tb_Mo_firstDoes = true := by decide +kernel
theorem lk_Mo_firstDoes_0 : sc_lk tb_Mo_firstDoes 0 = some (.aload_n 0, 1, .inl (0, 0), false) := rfl
theorem lk_Mo_firstDoes_1 : sc_lk tb_Mo_firstDoes 1 = some (.invokevirtual 166, 3, .inr (.inl (5, 0, mq_Mo_setPlan)), false) := rfl
theorem lk_Mo_firstDoes_4 : sc_lk tb_Mo_firstDoes 4 = some (.iconst 0, 1, .inr (.inr 0), false) := rfl
theorem lk_Mo_firstDoes_5 : sc_lk tb_Mo_firstDoes 5 = some (.istore_n 2, 1, .inl (2, 0), false) := rfl
theorem lk_Mo_firstDoes_6 : sc_lk tb_Mo_firstDoes 6 = some (.iload_n 2, 1, .inl (2, 0), true) := rfl
theorem lk_Mo_firstDoes_7 : sc_lk tb_Mo_firstDoes 7 = some (.aload_n 0, 1, .inl (0, 0), false) := rfl
theorem lk_Mo_firstDoes_8 : sc_lk tb_Mo_firstDoes 8 = some (.getfield 80, 3, .inl (5, 5), false) := rfl
theorem lk_Mo_firstDoes_11 : sc_lk tb_Mo_firstDoes 11 = some (.if_icmp .ge 39, 3, .inl (50, 0), false) := rfl
theorem lk_Mo_firstDoes_14 : sc_lk tb_Mo_firstDoes 14 = some (.aload_n 0, 1, .inl (0, 0), false) := rfl
theorem lk_Mo_firstDoes_15 : sc_lk tb_Mo_firstDoes 15 = some (.getfield 42, 3, .inl (5, 14), false) := rfl
theorem lk_Mo_firstDoes_18 : sc_lk tb_Mo_firstDoes 18 = some (.iload_n 2, 1, .inl (2, 0), false) := rfl
theorem lk_Mo_firstDoes_19 : sc_lk tb_Mo_firstDoes 19 = some (.iload_n 2, 1, .inl (2, 0), false) := rfl
theorem lk_Mo_firstDoes_20 : sc_lk tb_Mo_firstDoes 20 = some (.iload_n 1, 1, .inl (1, 0), false) := rfl
theorem lk_Mo_firstDoes_21 : sc_lk tb_Mo_firstDoes 21 = some (.if_icmp .ge 21, 3, .inl (42, 0), false) := rfl
theorem lk_Mo_firstDoes_24 : sc_lk tb_Mo_firstDoes 24 = some (.aload_n 0, 1, .inl (0, 0), false) := rfl
theorem lk_Mo_firstDoes_25 : sc_lk tb_Mo_firstDoes 25 = some (.getfield 32, 3, .inl (5, 11), false) := rfl
theorem lk_Mo_firstDoes_28 : sc_lk tb_Mo_firstDoes 28 = some (.iload_n 2, 1, .inl (2, 0), false) := rfl
theorem lk_Mo_firstDoes_29 : sc_lk tb_Mo_firstDoes 29 = some (.iaload, 1, .inr (.inr 0), false) := rfl
theorem lk_Mo_firstDoes_30 : sc_lk tb_Mo_firstDoes 30 = some (.ifCond .lt 12, 3, .inl (42, 0), false) := rfl
theorem lk_Mo_firstDoes_33 : sc_lk tb_Mo_firstDoes 33 = some (.aload_n 0, 1, .inl (0, 0), false) := rfl
theorem lk_Mo_firstDoes_34 : sc_lk tb_Mo_firstDoes 34 = some (.getfield 32, 3, .inl (5, 11), false) := rfl
theorem lk_Mo_firstDoes_37 : sc_lk tb_Mo_firstDoes 37 = some (.iload_n 2, 1, .inl (2, 0), false) := rfl
theorem lk_Mo_firstDoes_38 : sc_lk tb_Mo_firstDoes 38 = some (.iaload, 1, .inr (.inr 0), false) := rfl
theorem lk_Mo_firstDoes_39 : sc_lk tb_Mo_firstDoes 39 = some (.goto 4, 3, .inl (43, 0), false) := rfl
theorem lk_Mo_firstDoes_42 : sc_lk tb_Mo_firstDoes 42 = some (.iconst 0, 1, .inr (.inr 0), false) := rfl
theorem lk_Mo_firstDoes_43 : sc_lk tb_Mo_firstDoes 43 = some (.iastore, 1, .inr (.inr 0), false) := rfl
theorem lk_Mo_firstDoes_44 : sc_lk tb_Mo_firstDoes 44 = some (.iinc 2 1, 3, .inl (2, 0), false) := rfl
theorem lk_Mo_firstDoes_47 : sc_lk tb_Mo_firstDoes 47 = some (.goto (-41), 3, .inl (6, 0), false) := rfl
theorem lk_Mo_firstDoes_50 : sc_lk tb_Mo_firstDoes 50 = some (.aload_n 0, 1, .inl (0, 0), false) := rfl
theorem lk_Mo_firstDoes_51 : sc_lk tb_Mo_firstDoes 51 = some (.getfield 45, 3, .inl (5, 15), false) := rfl
theorem lk_Mo_firstDoes_54 : sc_lk tb_Mo_firstDoes 54 = some (.sipush 243, 3, .inr (.inr 0), false) := rfl
theorem lk_Mo_firstDoes_57 : sc_lk tb_Mo_firstDoes 57 = some (.iload_n 1, 1, .inl (1, 0), false) := rfl
theorem lk_Mo_firstDoes_58 : sc_lk tb_Mo_firstDoes 58 = some (.imul, 1, .inr (.inr 0), false) := rfl
theorem lk_Mo_firstDoes_59 : sc_lk tb_Mo_firstDoes 59 = some (.aload_n 0, 1, .inl (0, 0), false) := rfl
theorem lk_Mo_firstDoes_60 : sc_lk tb_Mo_firstDoes 60 = some (.aload_n 0, 1, .inl (0, 0), false) := rfl
theorem lk_Mo_firstDoes_61 : sc_lk tb_Mo_firstDoes 61 = some (.getfield 56, 3, .inl (5, 18), false) := rfl
theorem lk_Mo_firstDoes_64 : sc_lk tb_Mo_firstDoes 64 = some (.iload_n 1, 1, .inl (1, 0), false) := rfl
theorem lk_Mo_firstDoes_65 : sc_lk tb_Mo_firstDoes 65 = some (.iaload, 1, .inr (.inr 0), false) := rfl
theorem lk_Mo_firstDoes_66 : sc_lk tb_Mo_firstDoes 66 = some (.invokevirtual 140, 3, .inr (.inl (5, 1, mq_Mo_numberOf)), false) := rfl
theorem lk_Mo_firstDoes_69 : sc_lk tb_Mo_firstDoes 69 = some (.iadd, 1, .inr (.inr 0), false) := rfl
theorem lk_Mo_firstDoes_70 : sc_lk tb_Mo_firstDoes 70 = some (.iaload, 1, .inr (.inr 0), false) := rfl
theorem lk_Mo_firstDoes_71 : sc_lk tb_Mo_firstDoes 71 = some (.ireturn, 1, .inr (.inr 0), false) := rfl
def tb_Mo_chance : sc_T := [(0, .aload_n 0, 1, .inl (0, 0), false), (1, .iload_n 1, 1, .inl (1, 0), false), (2, .invokevirtual 99, 3, .inr (.inl (5, 1, mq_Mo_isNode)), false), (5, .ifCond .ne 5, 3, .inl (10, 0), false), (8, .iconst (-1), 1, .inr (.inr 0), false), (9, .ireturn, 1, .inr (.inr 0), false), (10, .aload_n 0, 1, .inl (0, 0), false), (11, .getfield 17, 3, .inl (5, 6), false), (14, .iload_n 1, 1, .inl (1, 0), false), (15, .iaload, 1, .inr (.inr 0), false), (16, .ifCond .ne 9, 3, .inl (25, 0), false), (19, .aload_n 0, 1, .inl (0, 0), false), (20, .iconst 3, 1, .inr (.inr 0), false), (21, .invokevirtual 103, 3, .inr (.inl (5, 1, mq_Mo_meets)), false), (24, .ireturn, 1, .inr (.inr 0), false), (25, .iload_n 2, 1, .inl (2, 0), false), (26, .iconst 0, 1, .inr (.inr 0), false), (27, .aload_n 0, 1, .inl (0, 0), false), (28, .getfield 20, 3, .inl (5, 7), false), (31, .iload_n 1, 1, .inl (1, 0), false), (32, .iaload, 1, .inr (.inr 0), false), (33, .iconst 1, 1, .inr (.inr 0), false), (34, .isub, 1, .inr (.inr 0), false), (35, .invokestatic 83, 3, .inr (.inl (100, 3, mq_Mo_in)), false), (38, .ifCond .ne 9, 3, .inl (47, 0), false), (41, .aload_n 0, 1, .inl (0, 0), false), (42, .iconst 2, 1, .inr (.inr 0), false), (43, .invokevirtual 103, 3, .inr (.inl (5, 1, mq_Mo_meets)), false), (46, .ireturn, 1, .inr (.inr 0), false), (47, .aload_n 0, 1, .inl (0, 0), false), (48, .invokevirtual 166, 3, .inr (.inl (5, 0, mq_Mo_setPlan)), false), (51, .lconst 0, 1, .inr (.inr 0), false), (52, .lstore_n 3, 1, .inl (3, 0), false), (53, .aload_n 0, 1, .inl (0, 0), false), (54, .invokevirtual 91, 3, .inr (.inl (5, 0, mq_Mo_worlds)), false), (57, .istore 5, 2, .inl (5, 0), false), (59, .iconst 0, 1, .inr (.inr 0), false), (60, .istore 6, 2, .inl (6, 0), false), (62, .iload 6, 2, .inl (6, 0), true), (64, .iload 5, 2, .inl (5, 0), false), (66, .if_icmp .ge 43, 3, .inl (109, 0), false), (69, .aload_n 0, 1, .inl (0, 0), false), (70, .iload 6, 2, .inl (6, 0), false), (72, .invokevirtual 143, 3, .inr (.inl (5, 1, mq_Mo_setWorld)), false), (75, .lload_n 3, 1, .inl (3, 0), false), (76, .aload_n 0, 1, .inl (0, 0), false), (77, .getfield 42, 3, .inl (5, 14), false), (80, .iload_n 1, 1, .inl (1, 0), false), (81, .iaload, 1, .inr (.inr 0), false), (82, .iload_n 2, 1, .inl (2, 0), false), (83, .if_icmp .ne 17, 3, .inl (100, 0), false), (86, .aload_n 0, 1, .inl (0, 0), false), (87, .invokevirtual 162, 3, .inr (.inl (5, 0, mq_Mo_comes)), false), (90, .ifCond .eq 10, 3, .inl (100, 0), false), (93, .aload_n 0, 1, .inl (0, 0), false), (94, .invokevirtual 146, 3, .inr (.inl (5, 0, mq_Mo_weightNow)), false), (97, .goto 4, 3, .inl (101, 0), false), (100, .lconst 0, 1, .inr (.inr 0), false), (101, .ladd, 1, .inr (.inr 0), false), (102, .lstore_n 3, 1, .inl (3, 0), false), (103, .iinc 6 1, 3, .inl (6, 0), false), (106, .goto (-44), 3, .inl (62, 0), false), (109, .aload_n 0, 1, .inl (0, 0), false), (110, .lload_n 3, 1, .inl (3, 0), false), (111, .aload_n 0, 1, .inl (0, 0), false), (112, .invokevirtual 175, 3, .inr (.inl (5, 0, mq_Mo_allWeights)), false), (115, .invokevirtual 178, 3, .inr (.inl (5, 2, mq_Mo_tell)), false), (118, .ireturn, 1, .inr (.inr 0), false)]
theorem tk_Mo_chance : sc_ok mq_Mo_chance tb_Mo_chance = true := by decide +kernel
theorem lk_Mo_chance_0 : sc_lk tb_Mo_chance 0 = some (.aload_n 0, 1, .inl (0, 0), false) := rfl
theorem lk_Mo_chance_1 : sc_lk tb_Mo_chance 1 = some (.iload_n 1, 1, .inl (1, 0), false) := rfl
theorem lk_Mo_chance_2 : sc_lk tb_Mo_chance 2 = some (.invokevirtual 99, 3, .inr (.inl (5, 1, mq_Mo_isNode)), false) := rfl
theorem lk_Mo_chance_5 : sc_lk tb_Mo_chance 5 = some (.ifCond .ne 5, 3, .inl (10, 0), false) := rfl
theorem lk_Mo_chance_8 : sc_lk tb_Mo_chance 8 = some (.iconst (-1), 1, .inr (.inr 0), false) := rfl
theorem lk_Mo_chance_9 : sc_lk tb_Mo_chance 9 = some (.ireturn, 1, .inr (.inr 0), false) := rfl
theorem lk_Mo_chance_10 : sc_lk tb_Mo_chance 10 = some (.aload_n 0, 1, .inl (0, 0), false) := rfl
theorem lk_Mo_chance_11 : sc_lk tb_Mo_chance 11 = some (.getfield 17, 3, .inl (5, 6), false) := rfl
theorem lk_Mo_chance_14 : sc_lk tb_Mo_chance 14 = some (.iload_n 1, 1, .inl (1, 0), false) := rfl
theorem lk_Mo_chance_15 : sc_lk tb_Mo_chance 15 = some (.iaload, 1, .inr (.inr 0), false) := rfl
theorem lk_Mo_chance_16 : sc_lk tb_Mo_chance 16 = some (.ifCond .ne 9, 3, .inl (25, 0), false) := rfl
theorem lk_Mo_chance_19 : sc_lk tb_Mo_chance 19 = some (.aload_n 0, 1, .inl (0, 0), false) := rfl
theorem lk_Mo_chance_20 : sc_lk tb_Mo_chance 20 = some (.iconst 3, 1, .inr (.inr 0), false) := rfl
theorem lk_Mo_chance_21 : sc_lk tb_Mo_chance 21 = some (.invokevirtual 103, 3, .inr (.inl (5, 1, mq_Mo_meets)), false) := rfl
theorem lk_Mo_chance_24 : sc_lk tb_Mo_chance 24 = some (.ireturn, 1, .inr (.inr 0), false) := rfl
theorem lk_Mo_chance_25 : sc_lk tb_Mo_chance 25 = some (.iload_n 2, 1, .inl (2, 0), false) := rfl
theorem lk_Mo_chance_26 : sc_lk tb_Mo_chance 26 = some (.iconst 0, 1, .inr (.inr 0), false) := rfl
theorem lk_Mo_chance_27 : sc_lk tb_Mo_chance 27 = some (.aload_n 0, 1, .inl (0, 0), false) := rfl
theorem lk_Mo_chance_28 : sc_lk tb_Mo_chance 28 = some (.getfield 20, 3, .inl (5, 7), false) := rfl
theorem lk_Mo_chance_31 : sc_lk tb_Mo_chance 31 = some (.iload_n 1, 1, .inl (1, 0), false) := rfl
theorem lk_Mo_chance_32 : sc_lk tb_Mo_chance 32 = some (.iaload, 1, .inr (.inr 0), false) := rfl
theorem lk_Mo_chance_33 : sc_lk tb_Mo_chance 33 = some (.iconst 1, 1, .inr (.inr 0), false) := rfl
theorem lk_Mo_chance_34 : sc_lk tb_Mo_chance 34 = some (.isub, 1, .inr (.inr 0), false) := rfl
theorem lk_Mo_chance_35 : sc_lk tb_Mo_chance 35 = some (.invokestatic 83, 3, .inr (.inl (100, 3, mq_Mo_in)), false) := rfl
theorem lk_Mo_chance_38 : sc_lk tb_Mo_chance 38 = some (.ifCond .ne 9, 3, .inl (47, 0), false) := rfl
theorem lk_Mo_chance_41 : sc_lk tb_Mo_chance 41 = some (.aload_n 0, 1, .inl (0, 0), false) := rfl
theorem lk_Mo_chance_42 : sc_lk tb_Mo_chance 42 = some (.iconst 2, 1, .inr (.inr 0), false) := rfl
theorem lk_Mo_chance_43 : sc_lk tb_Mo_chance 43 = some (.invokevirtual 103, 3, .inr (.inl (5, 1, mq_Mo_meets)), false) := rfl
theorem lk_Mo_chance_46 : sc_lk tb_Mo_chance 46 = some (.ireturn, 1, .inr (.inr 0), false) := rfl
theorem lk_Mo_chance_47 : sc_lk tb_Mo_chance 47 = some (.aload_n 0, 1, .inl (0, 0), false) := rfl
theorem lk_Mo_chance_48 : sc_lk tb_Mo_chance 48 = some (.invokevirtual 166, 3, .inr (.inl (5, 0, mq_Mo_setPlan)), false) := rfl
theorem lk_Mo_chance_51 : sc_lk tb_Mo_chance 51 = some (.lconst 0, 1, .inr (.inr 0), false) := rfl
theorem lk_Mo_chance_52 : sc_lk tb_Mo_chance 52 = some (.lstore_n 3, 1, .inl (3, 0), false) := rfl
theorem lk_Mo_chance_53 : sc_lk tb_Mo_chance 53 = some (.aload_n 0, 1, .inl (0, 0), false) := rfl
theorem lk_Mo_chance_54 : sc_lk tb_Mo_chance 54 = some (.invokevirtual 91, 3, .inr (.inl (5, 0, mq_Mo_worlds)), false) := rfl
theorem lk_Mo_chance_57 : sc_lk tb_Mo_chance 57 = some (.istore 5, 2, .inl (5, 0), false) := rfl
theorem lk_Mo_chance_59 : sc_lk tb_Mo_chance 59 = some (.iconst 0, 1, .inr (.inr 0), false) := rfl
theorem lk_Mo_chance_60 : sc_lk tb_Mo_chance 60 = some (.istore 6, 2, .inl (6, 0), false) := rfl
theorem lk_Mo_chance_62 : sc_lk tb_Mo_chance 62 = some (.iload 6, 2, .inl (6, 0), true) := rfl
theorem lk_Mo_chance_64 : sc_lk tb_Mo_chance 64 = some (.iload 5, 2, .inl (5, 0), false) := rfl
theorem lk_Mo_chance_66 : sc_lk tb_Mo_chance 66 = some (.if_icmp .ge 43, 3, .inl (109, 0), false) := rfl
theorem lk_Mo_chance_69 : sc_lk tb_Mo_chance 69 = some (.aload_n 0, 1, .inl (0, 0), false) := rfl
theorem lk_Mo_chance_70 : sc_lk tb_Mo_chance 70 = some (.iload 6, 2, .inl (6, 0), false) := rfl
theorem lk_Mo_chance_72 : sc_lk tb_Mo_chance 72 = some (.invokevirtual 143, 3, .inr (.inl (5, 1, mq_Mo_setWorld)), false) := rfl
theorem lk_Mo_chance_75 : sc_lk tb_Mo_chance 75 = some (.lload_n 3, 1, .inl (3, 0), false) := rfl
theorem lk_Mo_chance_76 : sc_lk tb_Mo_chance 76 = some (.aload_n 0, 1, .inl (0, 0), false) := rfl
theorem lk_Mo_chance_77 : sc_lk tb_Mo_chance 77 = some (.getfield 42, 3, .inl (5, 14), false) := rfl
theorem lk_Mo_chance_80 : sc_lk tb_Mo_chance 80 = some (.iload_n 1, 1, .inl (1, 0), false) := rfl
theorem lk_Mo_chance_81 : sc_lk tb_Mo_chance 81 = some (.iaload, 1, .inr (.inr 0), false) := rfl
theorem lk_Mo_chance_82 : sc_lk tb_Mo_chance 82 = some (.iload_n 2, 1, .inl (2, 0), false) := rfl
theorem lk_Mo_chance_83 : sc_lk tb_Mo_chance 83 = some (.if_icmp .ne 17, 3, .inl (100, 0), false) := rfl
theorem lk_Mo_chance_86 : sc_lk tb_Mo_chance 86 = some (.aload_n 0, 1, .inl (0, 0), false) := rfl
theorem lk_Mo_chance_87 : sc_lk tb_Mo_chance 87 = some (.invokevirtual 162, 3, .inr (.inl (5, 0, mq_Mo_comes)), false) := rfl
theorem lk_Mo_chance_90 : sc_lk tb_Mo_chance 90 = some (.ifCond .eq 10, 3, .inl (100, 0), false) := rfl
theorem lk_Mo_chance_93 : sc_lk tb_Mo_chance 93 = some (.aload_n 0, 1, .inl (0, 0), false) := rfl
theorem lk_Mo_chance_94 : sc_lk tb_Mo_chance 94 = some (.invokevirtual 146, 3, .inr (.inl (5, 0, mq_Mo_weightNow)), false) := rfl
theorem lk_Mo_chance_97 : sc_lk tb_Mo_chance 97 = some (.goto 4, 3, .inl (101, 0), false) := rfl
theorem lk_Mo_chance_100 : sc_lk tb_Mo_chance 100 = some (.lconst 0, 1, .inr (.inr 0), false) := rfl
theorem lk_Mo_chance_101 : sc_lk tb_Mo_chance 101 = some (.ladd, 1, .inr (.inr 0), false) := rfl
theorem lk_Mo_chance_102 : sc_lk tb_Mo_chance 102 = some (.lstore_n 3, 1, .inl (3, 0), false) := rfl
theorem lk_Mo_chance_103 : sc_lk tb_Mo_chance 103 = some (.iinc 6 1, 3, .inl (6, 0), false) := rfl
theorem lk_Mo_chance_106 : sc_lk tb_Mo_chance 106 = some (.goto (-44), 3, .inl (62, 0), false) := rfl
theorem lk_Mo_chance_109 : sc_lk tb_Mo_chance 109 = some (.aload_n 0, 1, .inl (0, 0), false) := rfl
theorem lk_Mo_chance_110 : sc_lk tb_Mo_chance 110 = some (.lload_n 3, 1, .inl (3, 0), false) := rfl
theorem lk_Mo_chance_111 : sc_lk tb_Mo_chance 111 = some (.aload_n 0, 1, .inl (0, 0), false) := rfl
theorem lk_Mo_chance_112 : sc_lk tb_Mo_chance 112 = some (.invokevirtual 175, 3, .inr (.inl (5, 0, mq_Mo_allWeights)), false) := rfl
theorem lk_Mo_chance_115 : sc_lk tb_Mo_chance 115 = some (.invokevirtual 178, 3, .inr (.inl (5, 2, mq_Mo_tell)), false) := rfl
theorem lk_Mo_chance_118 : sc_lk tb_Mo_chance 118 = some (.ireturn, 1, .inr (.inr 0), false) := rfl
def tb_Mo_end : sc_T := [(0, .aload_n 0, 1, .inl (0, 0), false), (1, .invokevirtual 166, 3, .inr (.inl (5, 0, mq_Mo_setPlan)), false), (4, .iconst 0, 1, .inr (.inr 0), false), (5, .istore_n 2, 1, .inl (2, 0), false), (6, .iconst 0, 1, .inr (.inr 0), false), (7, .istore_n 3, 1, .inl (3, 0), false), (8, .aload_n 0, 1, .inl (0, 0), false), (9, .invokevirtual 91, 3, .inr (.inl (5, 0, mq_Mo_worlds)), false), (12, .istore 4, 2, .inl (4, 0), false), (14, .iconst 0, 1, .inr (.inr 0), false), (15, .istore 5, 2, .inl (5, 0), false), (17, .iload 5, 2, .inl (5, 0), true), (19, .iload 4, 2, .inl (4, 0), false), (21, .if_icmp .ge 69, 3, .inl (90, 0), false), (24, .aload_n 0, 1, .inl (0, 0), false), (25, .iload 5, 2, .inl (5, 0), false), (27, .invokevirtual 143, 3, .inr (.inl (5, 1, mq_Mo_setWorld)), false), (30, .aload_n 0, 1, .inl (0, 0), false), (31, .invokevirtual 162, 3, .inr (.inl (5, 0, mq_Mo_comes)), false), (34, .ifCond .eq 50, 3, .inl (84, 0), false), (37, .aload_n 0, 1, .inl (0, 0), false), (38, .invokevirtual 146, 3, .inr (.inl (5, 0, mq_Mo_weightNow)), false), (41, .lconst 0, 1, .inr (.inr 0), false), (42, .lcmp, 1, .inr (.inr 0), false), (43, .ifCond .le 41, 3, .inl (84, 0), false), (46, .aload_n 0, 1, .inl (0, 0), false), (47, .invokevirtual 153, 3, .inr (.inl (5, 0, mq_Mo_worthNow)), false), (50, .istore 6, 2, .inl (6, 0), false), (52, .iload_n 2, 1, .inl (2, 0), false), (53, .ifCond .eq 22, 3, .inl (75, 0), false), (56, .iload_n 1, 1, .inl (1, 0), false), (57, .ifCond .eq 12, 3, .inl (69, 0), false), (60, .iload 6, 2, .inl (6, 0), false), (62, .iload_n 3, 1, .inl (3, 0), false), (63, .if_icmp .le 17, 3, .inl (80, 0), false), (66, .goto 9, 3, .inl (75, 0), false), (69, .iload 6, 2, .inl (6, 0), false), (71, .iload_n 3, 1, .inl (3, 0), false), (72, .if_icmp .ge 8, 3, .inl (80, 0), false), (75, .iload 6, 2, .inl (6, 0), false), (77, .goto 4, 3, .inl (81, 0), false), (80, .iload_n 3, 1, .inl (3, 0), false), (81, .istore_n 3, 1, .inl (3, 0), false), (82, .iconst 1, 1, .inr (.inr 0), false), (83, .istore_n 2, 1, .inl (2, 0), false), (84, .iinc 5 1, 3, .inl (5, 0), false), (87, .goto (-70), 3, .inl (17, 0), false), (90, .aload_n 0, 1, .inl (0, 0), false), (91, .iload_n 3, 1, .inl (3, 0), false), (92, .invokevirtual 126, 3, .inr (.inl (5, 1, mq_Mo_ask)), false), (95, .ireturn, 1, .inr (.inr 0), false)]
theorem tk_Mo_end : sc_ok mq_Mo_end tb_Mo_end = true := by decide +kernel
theorem lk_Mo_end_0 : sc_lk tb_Mo_end 0 = some (.aload_n 0, 1, .inl (0, 0), false) := rfl
theorem lk_Mo_end_1 : sc_lk tb_Mo_end 1 = some (.invokevirtual 166, 3, .inr (.inl (5, 0, mq_Mo_setPlan)), false) := rfl
theorem lk_Mo_end_4 : sc_lk tb_Mo_end 4 = some (.iconst 0, 1, .inr (.inr 0), false) := rfl
theorem lk_Mo_end_5 : sc_lk tb_Mo_end 5 = some (.istore_n 2, 1, .inl (2, 0), false) := rfl
theorem lk_Mo_end_6 : sc_lk tb_Mo_end 6 = some (.iconst 0, 1, .inr (.inr 0), false) := rfl
theorem lk_Mo_end_7 : sc_lk tb_Mo_end 7 = some (.istore_n 3, 1, .inl (3, 0), false) := rfl
theorem lk_Mo_end_8 : sc_lk tb_Mo_end 8 = some (.aload_n 0, 1, .inl (0, 0), false) := rfl
theorem lk_Mo_end_9 : sc_lk tb_Mo_end 9 = some (.invokevirtual 91, 3, .inr (.inl (5, 0, mq_Mo_worlds)), false) := rfl
theorem lk_Mo_end_12 : sc_lk tb_Mo_end 12 = some (.istore 4, 2, .inl (4, 0), false) := rfl
theorem lk_Mo_end_14 : sc_lk tb_Mo_end 14 = some (.iconst 0, 1, .inr (.inr 0), false) := rfl
theorem lk_Mo_end_15 : sc_lk tb_Mo_end 15 = some (.istore 5, 2, .inl (5, 0), false) := rfl
theorem lk_Mo_end_17 : sc_lk tb_Mo_end 17 = some (.iload 5, 2, .inl (5, 0), true) := rfl
theorem lk_Mo_end_19 : sc_lk tb_Mo_end 19 = some (.iload 4, 2, .inl (4, 0), false) := rfl
theorem lk_Mo_end_21 : sc_lk tb_Mo_end 21 = some (.if_icmp .ge 69, 3, .inl (90, 0), false) := rfl
theorem lk_Mo_end_24 : sc_lk tb_Mo_end 24 = some (.aload_n 0, 1, .inl (0, 0), false) := rfl
theorem lk_Mo_end_25 : sc_lk tb_Mo_end 25 = some (.iload 5, 2, .inl (5, 0), false) := rfl
theorem lk_Mo_end_27 : sc_lk tb_Mo_end 27 = some (.invokevirtual 143, 3, .inr (.inl (5, 1, mq_Mo_setWorld)), false) := rfl
theorem lk_Mo_end_30 : sc_lk tb_Mo_end 30 = some (.aload_n 0, 1, .inl (0, 0), false) := rfl
theorem lk_Mo_end_31 : sc_lk tb_Mo_end 31 = some (.invokevirtual 162, 3, .inr (.inl (5, 0, mq_Mo_comes)), false) := rfl
theorem lk_Mo_end_34 : sc_lk tb_Mo_end 34 = some (.ifCond .eq 50, 3, .inl (84, 0), false) := rfl
theorem lk_Mo_end_37 : sc_lk tb_Mo_end 37 = some (.aload_n 0, 1, .inl (0, 0), false) := rfl
theorem lk_Mo_end_38 : sc_lk tb_Mo_end 38 = some (.invokevirtual 146, 3, .inr (.inl (5, 0, mq_Mo_weightNow)), false) := rfl
theorem lk_Mo_end_41 : sc_lk tb_Mo_end 41 = some (.lconst 0, 1, .inr (.inr 0), false) := rfl
theorem lk_Mo_end_42 : sc_lk tb_Mo_end 42 = some (.lcmp, 1, .inr (.inr 0), false) := rfl
theorem lk_Mo_end_43 : sc_lk tb_Mo_end 43 = some (.ifCond .le 41, 3, .inl (84, 0), false) := rfl
theorem lk_Mo_end_46 : sc_lk tb_Mo_end 46 = some (.aload_n 0, 1, .inl (0, 0), false) := rfl
theorem lk_Mo_end_47 : sc_lk tb_Mo_end 47 = some (.invokevirtual 153, 3, .inr (.inl (5, 0, mq_Mo_worthNow)), false) := rfl
theorem lk_Mo_end_50 : sc_lk tb_Mo_end 50 = some (.istore 6, 2, .inl (6, 0), false) := rfl
theorem lk_Mo_end_52 : sc_lk tb_Mo_end 52 = some (.iload_n 2, 1, .inl (2, 0), false) := rfl
theorem lk_Mo_end_53 : sc_lk tb_Mo_end 53 = some (.ifCond .eq 22, 3, .inl (75, 0), false) := rfl
theorem lk_Mo_end_56 : sc_lk tb_Mo_end 56 = some (.iload_n 1, 1, .inl (1, 0), false) := rfl
theorem lk_Mo_end_57 : sc_lk tb_Mo_end 57 = some (.ifCond .eq 12, 3, .inl (69, 0), false) := rfl
theorem lk_Mo_end_60 : sc_lk tb_Mo_end 60 = some (.iload 6, 2, .inl (6, 0), false) := rfl
theorem lk_Mo_end_62 : sc_lk tb_Mo_end 62 = some (.iload_n 3, 1, .inl (3, 0), false) := rfl
theorem lk_Mo_end_63 : sc_lk tb_Mo_end 63 = some (.if_icmp .le 17, 3, .inl (80, 0), false) := rfl
theorem lk_Mo_end_66 : sc_lk tb_Mo_end 66 = some (.goto 9, 3, .inl (75, 0), false) := rfl
theorem lk_Mo_end_69 : sc_lk tb_Mo_end 69 = some (.iload 6, 2, .inl (6, 0), false) := rfl
theorem lk_Mo_end_71 : sc_lk tb_Mo_end 71 = some (.iload_n 3, 1, .inl (3, 0), false) := rfl
theorem lk_Mo_end_72 : sc_lk tb_Mo_end 72 = some (.if_icmp .ge 8, 3, .inl (80, 0), false) := rfl
theorem lk_Mo_end_75 : sc_lk tb_Mo_end 75 = some (.iload 6, 2, .inl (6, 0), false) := rfl
theorem lk_Mo_end_77 : sc_lk tb_Mo_end 77 = some (.goto 4, 3, .inl (81, 0), false) := rfl
theorem lk_Mo_end_80 : sc_lk tb_Mo_end 80 = some (.iload_n 3, 1, .inl (3, 0), false) := rfl
theorem lk_Mo_end_81 : sc_lk tb_Mo_end 81 = some (.istore_n 3, 1, .inl (3, 0), false) := rfl
theorem lk_Mo_end_82 : sc_lk tb_Mo_end 82 = some (.iconst 1, 1, .inr (.inr 0), false) := rfl
theorem lk_Mo_end_83 : sc_lk tb_Mo_end 83 = some (.istore_n 2, 1, .inl (2, 0), false) := rfl
theorem lk_Mo_end_84 : sc_lk tb_Mo_end 84 = some (.iinc 5 1, 3, .inl (5, 0), false) := rfl
theorem lk_Mo_end_87 : sc_lk tb_Mo_end 87 = some (.goto (-70), 3, .inl (17, 0), false) := rfl
theorem lk_Mo_end_90 : sc_lk tb_Mo_end 90 = some (.aload_n 0, 1, .inl (0, 0), false) := rfl
theorem lk_Mo_end_91 : sc_lk tb_Mo_end 91 = some (.iload_n 3, 1, .inl (3, 0), false) := rfl
theorem lk_Mo_end_92 : sc_lk tb_Mo_end 92 = some (.invokevirtual 126, 3, .inr (.inl (5, 1, mq_Mo_ask)), false) := rfl
theorem lk_Mo_end_95 : sc_lk tb_Mo_end 95 = some (.ireturn, 1, .inr (.inr 0), false) := rfl
def tb_Mo_row : sc_T := [(0, .iload_n 1, 1, .inl (1, 0), false), (1, .invokestatic 196, 3, .inr (.inl (100, 1, mq_Mo_isRow)), false), (4, .ifCond .eq 9, 3, .inl (13, 0), false), (7, .iload_n 2, 1, .inl (2, 0), false), (8, .bipush 27, 2, .inr (.inr 0), false), (10, .if_icmp .le 5, 3, .inl (15, 0), false), (13, .iconst (-1), 1, .inr (.inr 0), false), (14, .ireturn, 1, .inr (.inr 0), false), (15, .iload_n 2, 1, .inl (2, 0), false), (16, .ifCond .ge 9, 3, .inl (25, 0), false), (19, .aload_n 0, 1, .inl (0, 0), false), (20, .iconst 5, 1, .inr (.inr 0), false), (21, .invokevirtual 103, 3, .inr (.inl (5, 1, mq_Mo_meets)), false), (24, .ireturn, 1, .inr (.inr 0), false), (25, .aload_n 0, 1, .inl (0, 0), false), (26, .getfield 62, 3, .inl (5, 20), false), (29, .iload_n 1, 1, .inl (1, 0), false), (30, .iload_n 2, 1, .inl (2, 0), false), (31, .iastore, 1, .inr (.inr 0), false), (32, .iconst 0, 1, .inr (.inr 0), false), (33, .istore_n 3, 1, .inl (3, 0), false), (34, .iload_n 3, 1, .inl (3, 0), true), (35, .bipush 27, 2, .inr (.inr 0), false), (37, .if_icmp .ge 21, 3, .inl (58, 0), false), (40, .aload_n 0, 1, .inl (0, 0), false), (41, .getfield 65, 3, .inl (5, 21), false), (44, .bipush 27, 2, .inr (.inr 0), false), (46, .iload_n 1, 1, .inl (1, 0), false), (47, .imul, 1, .inr (.inr 0), false), (48, .iload_n 3, 1, .inl (3, 0), false), (49, .iadd, 1, .inr (.inr 0), false), (50, .iconst 0, 1, .inr (.inr 0), false), (51, .iastore, 1, .inr (.inr 0), false), (52, .iinc 3 1, 3, .inl (3, 0), false), (55, .goto (-21), 3, .inl (34, 0), false), (58, .iload_n 2, 1, .inl (2, 0), false), (59, .ireturn, 1, .inr (.inr 0), false)]
theorem tk_Mo_row : sc_ok mq_Mo_row tb_Mo_row = true := by decide +kernel
theorem lk_Mo_row_0 : sc_lk tb_Mo_row 0 = some (.iload_n 1, 1, .inl (1, 0), false) := rfl
theorem lk_Mo_row_1 : sc_lk tb_Mo_row 1 = some (.invokestatic 196, 3, .inr (.inl (100, 1, mq_Mo_isRow)), false) := rfl
theorem lk_Mo_row_4 : sc_lk tb_Mo_row 4 = some (.ifCond .eq 9, 3, .inl (13, 0), false) := rfl
theorem lk_Mo_row_7 : sc_lk tb_Mo_row 7 = some (.iload_n 2, 1, .inl (2, 0), false) := rfl
theorem lk_Mo_row_8 : sc_lk tb_Mo_row 8 = some (.bipush 27, 2, .inr (.inr 0), false) := rfl
theorem lk_Mo_row_10 : sc_lk tb_Mo_row 10 = some (.if_icmp .le 5, 3, .inl (15, 0), false) := rfl
theorem lk_Mo_row_13 : sc_lk tb_Mo_row 13 = some (.iconst (-1), 1, .inr (.inr 0), false) := rfl
theorem lk_Mo_row_14 : sc_lk tb_Mo_row 14 = some (.ireturn, 1, .inr (.inr 0), false) := rfl
theorem lk_Mo_row_15 : sc_lk tb_Mo_row 15 = some (.iload_n 2, 1, .inl (2, 0), false) := rfl
theorem lk_Mo_row_16 : sc_lk tb_Mo_row 16 = some (.ifCond .ge 9, 3, .inl (25, 0), false) := rfl
theorem lk_Mo_row_19 : sc_lk tb_Mo_row 19 = some (.aload_n 0, 1, .inl (0, 0), false) := rfl
theorem lk_Mo_row_20 : sc_lk tb_Mo_row 20 = some (.iconst 5, 1, .inr (.inr 0), false) := rfl
theorem lk_Mo_row_21 : sc_lk tb_Mo_row 21 = some (.invokevirtual 103, 3, .inr (.inl (5, 1, mq_Mo_meets)), false) := rfl
theorem lk_Mo_row_24 : sc_lk tb_Mo_row 24 = some (.ireturn, 1, .inr (.inr 0), false) := rfl
theorem lk_Mo_row_25 : sc_lk tb_Mo_row 25 = some (.aload_n 0, 1, .inl (0, 0), false) := rfl
theorem lk_Mo_row_26 : sc_lk tb_Mo_row 26 = some (.getfield 62, 3, .inl (5, 20), false) := rfl
theorem lk_Mo_row_29 : sc_lk tb_Mo_row 29 = some (.iload_n 1, 1, .inl (1, 0), false) := rfl
theorem lk_Mo_row_30 : sc_lk tb_Mo_row 30 = some (.iload_n 2, 1, .inl (2, 0), false) := rfl
theorem lk_Mo_row_31 : sc_lk tb_Mo_row 31 = some (.iastore, 1, .inr (.inr 0), false) := rfl
theorem lk_Mo_row_32 : sc_lk tb_Mo_row 32 = some (.iconst 0, 1, .inr (.inr 0), false) := rfl
theorem lk_Mo_row_33 : sc_lk tb_Mo_row 33 = some (.istore_n 3, 1, .inl (3, 0), false) := rfl
theorem lk_Mo_row_34 : sc_lk tb_Mo_row 34 = some (.iload_n 3, 1, .inl (3, 0), true) := rfl
theorem lk_Mo_row_35 : sc_lk tb_Mo_row 35 = some (.bipush 27, 2, .inr (.inr 0), false) := rfl
theorem lk_Mo_row_37 : sc_lk tb_Mo_row 37 = some (.if_icmp .ge 21, 3, .inl (58, 0), false) := rfl
theorem lk_Mo_row_40 : sc_lk tb_Mo_row 40 = some (.aload_n 0, 1, .inl (0, 0), false) := rfl
theorem lk_Mo_row_41 : sc_lk tb_Mo_row 41 = some (.getfield 65, 3, .inl (5, 21), false) := rfl
theorem lk_Mo_row_44 : sc_lk tb_Mo_row 44 = some (.bipush 27, 2, .inr (.inr 0), false) := rfl
theorem lk_Mo_row_46 : sc_lk tb_Mo_row 46 = some (.iload_n 1, 1, .inl (1, 0), false) := rfl
theorem lk_Mo_row_47 : sc_lk tb_Mo_row 47 = some (.imul, 1, .inr (.inr 0), false) := rfl
theorem lk_Mo_row_48 : sc_lk tb_Mo_row 48 = some (.iload_n 3, 1, .inl (3, 0), false) := rfl
theorem lk_Mo_row_49 : sc_lk tb_Mo_row 49 = some (.iadd, 1, .inr (.inr 0), false) := rfl
theorem lk_Mo_row_50 : sc_lk tb_Mo_row 50 = some (.iconst 0, 1, .inr (.inr 0), false) := rfl
theorem lk_Mo_row_51 : sc_lk tb_Mo_row 51 = some (.iastore, 1, .inr (.inr 0), false) := rfl
theorem lk_Mo_row_52 : sc_lk tb_Mo_row 52 = some (.iinc 3 1, 3, .inl (3, 0), false) := rfl
theorem lk_Mo_row_55 : sc_lk tb_Mo_row 55 = some (.goto (-21), 3, .inl (34, 0), false) := rfl
theorem lk_Mo_row_58 : sc_lk tb_Mo_row 58 = some (.iload_n 2, 1, .inl (2, 0), false) := rfl
theorem lk_Mo_row_59 : sc_lk tb_Mo_row 59 = some (.ireturn, 1, .inr (.inr 0), false) := rfl
def tb_Mo_isRow : sc_T := [(0, .iload_n 0, 1, .inl (0, 0), false), (1, .iconst 0, 1, .inr (.inr 0), false), (2, .iconst 3, 1, .inr (.inr 0), false), (3, .invokestatic 83, 3, .inr (.inl (100, 3, mq_Mo_in)), false), (6, .ireturn, 1, .inr (.inr 0), false)]
theorem tk_Mo_isRow : sc_ok mq_Mo_isRow tb_Mo_isRow = true := by decide +kernel
theorem lk_Mo_isRow_0 : sc_lk tb_Mo_isRow 0 = some (.iload_n 0, 1, .inl (0, 0), false) := rfl
theorem lk_Mo_isRow_1 : sc_lk tb_Mo_isRow 1 = some (.iconst 0, 1, .inr (.inr 0), false) := rfl
theorem lk_Mo_isRow_2 : sc_lk tb_Mo_isRow 2 = some (.iconst 3, 1, .inr (.inr 0), false) := rfl
theorem lk_Mo_isRow_3 : sc_lk tb_Mo_isRow 3 = some (.invokestatic 83, 3, .inr (.inl (100, 3, mq_Mo_in)), false) := rfl
theorem lk_Mo_isRow_6 : sc_lk tb_Mo_isRow 6 = some (.ireturn, 1, .inr (.inr 0), false) := rfl
def tb_Mo_lay : sc_T := [(0, .aload_n 0, 1, .inl (0, 0), false), (1, .iload_n 1, 1, .inl (1, 0), false), (2, .invokevirtual 199, 3, .inr (.inl (5, 1, mq_Mo_looked)), false), (5, .istore 4, 2, .inl (4, 0), false), (7, .iload 4, 2, .inl (4, 0), false), (9, .ifCond .ge 6, 3, .inl (15, 0), false), (12, .iload 4, 2, .inl (4, 0), false), (14, .ireturn, 1, .inr (.inr 0), false), (15, .iload_n 2, 1, .inl (2, 0), false), (16, .iconst 0, 1, .inr (.inr 0), false), (17, .aload_n 0, 1, .inl (0, 0), false), (18, .getfield 62, 3, .inl (5, 20), false), (21, .iload_n 1, 1, .inl (1, 0), false), (22, .iaload, 1, .inr (.inr 0), false), (23, .iconst 1, 1, .inr (.inr 0), false), (24, .isub, 1, .inr (.inr 0), false), (25, .invokestatic 83, 3, .inr (.inl (100, 3, mq_Mo_in)), false), (28, .ifCond .ne 9, 3, .inl (37, 0), false), (31, .aload_n 0, 1, .inl (0, 0), false), (32, .iconst 2, 1, .inr (.inr 0), false), (33, .invokevirtual 103, 3, .inr (.inl (5, 1, mq_Mo_meets)), false), (36, .ireturn, 1, .inr (.inr 0), false), (37, .aload_n 0, 1, .inl (0, 0), false), (38, .aload_n 0, 1, .inl (0, 0), false), (39, .getfield 65, 3, .inl (5, 21), false), (42, .bipush 27, 2, .inr (.inr 0), false), (44, .iload_n 1, 1, .inl (1, 0), false), (45, .imul, 1, .inr (.inr 0), false), (46, .iload_n 2, 1, .inl (2, 0), false), (47, .iadd, 1, .inr (.inr 0), false), (48, .iaload, 1, .inr (.inr 0), false), (49, .putfield 74, 3, .inl (5, 2), false), (52, .aload_n 0, 1, .inl (0, 0), false), (53, .getfield 65, 3, .inl (5, 21), false), (56, .bipush 27, 2, .inr (.inr 0), false), (58, .iload_n 1, 1, .inl (1, 0), false), (59, .imul, 1, .inr (.inr 0), false), (60, .iload_n 2, 1, .inl (2, 0), false), (61, .iadd, 1, .inr (.inr 0), false), (62, .iload_n 3, 1, .inl (3, 0), false), (63, .iastore, 1, .inr (.inr 0), false), (64, .iconst 1, 1, .inr (.inr 0), false), (65, .ireturn, 1, .inr (.inr 0), false)]
theorem tk_Mo_lay : sc_ok mq_Mo_lay tb_Mo_lay = true := by decide +kernel
theorem lk_Mo_lay_0 : sc_lk tb_Mo_lay 0 = some (.aload_n 0, 1, .inl (0, 0), false) := rfl
theorem lk_Mo_lay_1 : sc_lk tb_Mo_lay 1 = some (.iload_n 1, 1, .inl (1, 0), false) := rfl
theorem lk_Mo_lay_2 : sc_lk tb_Mo_lay 2 = some (.invokevirtual 199, 3, .inr (.inl (5, 1, mq_Mo_looked)), false) := rfl
theorem lk_Mo_lay_5 : sc_lk tb_Mo_lay 5 = some (.istore 4, 2, .inl (4, 0), false) := rfl
theorem lk_Mo_lay_7 : sc_lk tb_Mo_lay 7 = some (.iload 4, 2, .inl (4, 0), false) := rfl
theorem lk_Mo_lay_9 : sc_lk tb_Mo_lay 9 = some (.ifCond .ge 6, 3, .inl (15, 0), false) := rfl
theorem lk_Mo_lay_12 : sc_lk tb_Mo_lay 12 = some (.iload 4, 2, .inl (4, 0), false) := rfl
theorem lk_Mo_lay_14 : sc_lk tb_Mo_lay 14 = some (.ireturn, 1, .inr (.inr 0), false) := rfl
theorem lk_Mo_lay_15 : sc_lk tb_Mo_lay 15 = some (.iload_n 2, 1, .inl (2, 0), false) := rfl
theorem lk_Mo_lay_16 : sc_lk tb_Mo_lay 16 = some (.iconst 0, 1, .inr (.inr 0), false) := rfl
theorem lk_Mo_lay_17 : sc_lk tb_Mo_lay 17 = some (.aload_n 0, 1, .inl (0, 0), false) := rfl
theorem lk_Mo_lay_18 : sc_lk tb_Mo_lay 18 = some (.getfield 62, 3, .inl (5, 20), false) := rfl
theorem lk_Mo_lay_21 : sc_lk tb_Mo_lay 21 = some (.iload_n 1, 1, .inl (1, 0), false) := rfl
theorem lk_Mo_lay_22 : sc_lk tb_Mo_lay 22 = some (.iaload, 1, .inr (.inr 0), false) := rfl
theorem lk_Mo_lay_23 : sc_lk tb_Mo_lay 23 = some (.iconst 1, 1, .inr (.inr 0), false) := rfl
theorem lk_Mo_lay_24 : sc_lk tb_Mo_lay 24 = some (.isub, 1, .inr (.inr 0), false) := rfl
theorem lk_Mo_lay_25 : sc_lk tb_Mo_lay 25 = some (.invokestatic 83, 3, .inr (.inl (100, 3, mq_Mo_in)), false) := rfl
theorem lk_Mo_lay_28 : sc_lk tb_Mo_lay 28 = some (.ifCond .ne 9, 3, .inl (37, 0), false) := rfl
theorem lk_Mo_lay_31 : sc_lk tb_Mo_lay 31 = some (.aload_n 0, 1, .inl (0, 0), false) := rfl
theorem lk_Mo_lay_32 : sc_lk tb_Mo_lay 32 = some (.iconst 2, 1, .inr (.inr 0), false) := rfl
theorem lk_Mo_lay_33 : sc_lk tb_Mo_lay 33 = some (.invokevirtual 103, 3, .inr (.inl (5, 1, mq_Mo_meets)), false) := rfl
theorem lk_Mo_lay_36 : sc_lk tb_Mo_lay 36 = some (.ireturn, 1, .inr (.inr 0), false) := rfl
theorem lk_Mo_lay_37 : sc_lk tb_Mo_lay 37 = some (.aload_n 0, 1, .inl (0, 0), false) := rfl
theorem lk_Mo_lay_38 : sc_lk tb_Mo_lay 38 = some (.aload_n 0, 1, .inl (0, 0), false) := rfl
theorem lk_Mo_lay_39 : sc_lk tb_Mo_lay 39 = some (.getfield 65, 3, .inl (5, 21), false) := rfl
theorem lk_Mo_lay_42 : sc_lk tb_Mo_lay 42 = some (.bipush 27, 2, .inr (.inr 0), false) := rfl
theorem lk_Mo_lay_44 : sc_lk tb_Mo_lay 44 = some (.iload_n 1, 1, .inl (1, 0), false) := rfl
theorem lk_Mo_lay_45 : sc_lk tb_Mo_lay 45 = some (.imul, 1, .inr (.inr 0), false) := rfl
theorem lk_Mo_lay_46 : sc_lk tb_Mo_lay 46 = some (.iload_n 2, 1, .inl (2, 0), false) := rfl
theorem lk_Mo_lay_47 : sc_lk tb_Mo_lay 47 = some (.iadd, 1, .inr (.inr 0), false) := rfl
theorem lk_Mo_lay_48 : sc_lk tb_Mo_lay 48 = some (.iaload, 1, .inr (.inr 0), false) := rfl
theorem lk_Mo_lay_49 : sc_lk tb_Mo_lay 49 = some (.putfield 74, 3, .inl (5, 2), false) := rfl
theorem lk_Mo_lay_52 : sc_lk tb_Mo_lay 52 = some (.aload_n 0, 1, .inl (0, 0), false) := rfl
theorem lk_Mo_lay_53 : sc_lk tb_Mo_lay 53 = some (.getfield 65, 3, .inl (5, 21), false) := rfl
theorem lk_Mo_lay_56 : sc_lk tb_Mo_lay 56 = some (.bipush 27, 2, .inr (.inr 0), false) := rfl
theorem lk_Mo_lay_58 : sc_lk tb_Mo_lay 58 = some (.iload_n 1, 1, .inl (1, 0), false) := rfl
theorem lk_Mo_lay_59 : sc_lk tb_Mo_lay 59 = some (.imul, 1, .inr (.inr 0), false) := rfl
theorem lk_Mo_lay_60 : sc_lk tb_Mo_lay 60 = some (.iload_n 2, 1, .inl (2, 0), false) := rfl
theorem lk_Mo_lay_61 : sc_lk tb_Mo_lay 61 = some (.iadd, 1, .inr (.inr 0), false) := rfl
theorem lk_Mo_lay_62 : sc_lk tb_Mo_lay 62 = some (.iload_n 3, 1, .inl (3, 0), false) := rfl
theorem lk_Mo_lay_63 : sc_lk tb_Mo_lay 63 = some (.iastore, 1, .inr (.inr 0), false) := rfl
theorem lk_Mo_lay_64 : sc_lk tb_Mo_lay 64 = some (.iconst 1, 1, .inr (.inr 0), false) := rfl
theorem lk_Mo_lay_65 : sc_lk tb_Mo_lay 65 = some (.ireturn, 1, .inr (.inr 0), false) := rfl
def tb_Mo_looked : sc_T := [(0, .iload_n 1, 1, .inl (1, 0), false), (1, .invokestatic 196, 3, .inr (.inl (100, 1, mq_Mo_isRow)), false), (4, .ifCond .ne 7, 3, .inl (11, 0), false), (7, .iconst (-1), 1, .inr (.inr 0), false), (8, .goto 21, 3, .inl (29, 0), false), (11, .aload_n 0, 1, .inl (0, 0), false), (12, .getfield 62, 3, .inl (5, 20), false), (15, .iload_n 1, 1, .inl (1, 0), false), (16, .iaload, 1, .inr (.inr 0), false), (17, .ifCond .ge 11, 3, .inl (28, 0), false), (20, .aload_n 0, 1, .inl (0, 0), false), (21, .iconst 1, 1, .inr (.inr 0), false), (22, .invokevirtual 103, 3, .inr (.inl (5, 1, mq_Mo_meets)), false), (25, .goto 4, 3, .inl (29, 0), false), (28, .iconst 0, 1, .inr (.inr 0), false), (29, .ireturn, 1, .inr (.inr 0), false)]
theorem tk_Mo_looked : sc_ok mq_Mo_looked tb_Mo_looked = true := by decide +kernel
theorem lk_Mo_looked_0 : sc_lk tb_Mo_looked 0 = some (.iload_n 1, 1, .inl (1, 0), false) := rfl
theorem lk_Mo_looked_1 : sc_lk tb_Mo_looked 1 = some (.invokestatic 196, 3, .inr (.inl (100, 1, mq_Mo_isRow)), false) := rfl
theorem lk_Mo_looked_4 : sc_lk tb_Mo_looked 4 = some (.ifCond .ne 7, 3, .inl (11, 0), false) := rfl
theorem lk_Mo_looked_7 : sc_lk tb_Mo_looked 7 = some (.iconst (-1), 1, .inr (.inr 0), false) := rfl
theorem lk_Mo_looked_8 : sc_lk tb_Mo_looked 8 = some (.goto 21, 3, .inl (29, 0), false) := rfl
theorem lk_Mo_looked_11 : sc_lk tb_Mo_looked 11 = some (.aload_n 0, 1, .inl (0, 0), false) := rfl
theorem lk_Mo_looked_12 : sc_lk tb_Mo_looked 12 = some (.getfield 62, 3, .inl (5, 20), false) := rfl
theorem lk_Mo_looked_15 : sc_lk tb_Mo_looked 15 = some (.iload_n 1, 1, .inl (1, 0), false) := rfl
theorem lk_Mo_looked_16 : sc_lk tb_Mo_looked 16 = some (.iaload, 1, .inr (.inr 0), false) := rfl
theorem lk_Mo_looked_17 : sc_lk tb_Mo_looked 17 = some (.ifCond .ge 11, 3, .inl (28, 0), false) := rfl
theorem lk_Mo_looked_20 : sc_lk tb_Mo_looked 20 = some (.aload_n 0, 1, .inl (0, 0), false) := rfl
theorem lk_Mo_looked_21 : sc_lk tb_Mo_looked 21 = some (.iconst 1, 1, .inr (.inr 0), false) := rfl
theorem lk_Mo_looked_22 : sc_lk tb_Mo_looked 22 = some (.invokevirtual 103, 3, .inr (.inl (5, 1, mq_Mo_meets)), false) := rfl
theorem lk_Mo_looked_25 : sc_lk tb_Mo_looked 25 = some (.goto 4, 3, .inl (29, 0), false) := rfl
theorem lk_Mo_looked_28 : sc_lk tb_Mo_looked 28 = some (.iconst 0, 1, .inr (.inr 0), false) := rfl
theorem lk_Mo_looked_29 : sc_lk tb_Mo_looked 29 = some (.ireturn, 1, .inr (.inr 0), false) := rfl
def tb_Mo_tear : sc_T := [(0, .aload_n 0, 1, .inl (0, 0), false), (1, .iload_n 1, 1, .inl (1, 0), false), (2, .invokevirtual 199, 3, .inr (.inl (5, 1, mq_Mo_looked)), false), (5, .istore_n 2, 1, .inl (2, 0), false), (6, .iload_n 2, 1, .inl (2, 0), false), (7, .ifCond .ge 5, 3, .inl (12, 0), false), (10, .iload_n 2, 1, .inl (2, 0), false), (11, .ireturn, 1, .inr (.inr 0), false), (12, .aload_n 0, 1, .inl (0, 0), false), (13, .getfield 62, 3, .inl (5, 20), false), (16, .iload_n 1, 1, .inl (1, 0), false), (17, .bipush (-9), 2, .inr (.inr 0), false), (19, .iastore, 1, .inr (.inr 0), false), (20, .iconst 1, 1, .inr (.inr 0), false), (21, .ireturn, 1, .inr (.inr 0), false)]
theorem tk_Mo_tear : sc_ok mq_Mo_tear tb_Mo_tear = true := by decide +kernel
theorem lk_Mo_tear_0 : sc_lk tb_Mo_tear 0 = some (.aload_n 0, 1, .inl (0, 0), false) := rfl
theorem lk_Mo_tear_1 : sc_lk tb_Mo_tear 1 = some (.iload_n 1, 1, .inl (1, 0), false) := rfl
theorem lk_Mo_tear_2 : sc_lk tb_Mo_tear 2 = some (.invokevirtual 199, 3, .inr (.inl (5, 1, mq_Mo_looked)), false) := rfl
theorem lk_Mo_tear_5 : sc_lk tb_Mo_tear 5 = some (.istore_n 2, 1, .inl (2, 0), false) := rfl
theorem lk_Mo_tear_6 : sc_lk tb_Mo_tear 6 = some (.iload_n 2, 1, .inl (2, 0), false) := rfl
theorem lk_Mo_tear_7 : sc_lk tb_Mo_tear 7 = some (.ifCond .ge 5, 3, .inl (12, 0), false) := rfl
theorem lk_Mo_tear_10 : sc_lk tb_Mo_tear 10 = some (.iload_n 2, 1, .inl (2, 0), false) := rfl
theorem lk_Mo_tear_11 : sc_lk tb_Mo_tear 11 = some (.ireturn, 1, .inr (.inr 0), false) := rfl
theorem lk_Mo_tear_12 : sc_lk tb_Mo_tear 12 = some (.aload_n 0, 1, .inl (0, 0), false) := rfl
theorem lk_Mo_tear_13 : sc_lk tb_Mo_tear 13 = some (.getfield 62, 3, .inl (5, 20), false) := rfl
theorem lk_Mo_tear_16 : sc_lk tb_Mo_tear 16 = some (.iload_n 1, 1, .inl (1, 0), false) := rfl
theorem lk_Mo_tear_17 : sc_lk tb_Mo_tear 17 = some (.bipush (-9), 2, .inr (.inr 0), false) := rfl
theorem lk_Mo_tear_19 : sc_lk tb_Mo_tear 19 = some (.iastore, 1, .inr (.inr 0), false) := rfl
theorem lk_Mo_tear_20 : sc_lk tb_Mo_tear 20 = some (.iconst 1, 1, .inr (.inr 0), false) := rfl
theorem lk_Mo_tear_21 : sc_lk tb_Mo_tear 21 = some (.ireturn, 1, .inr (.inr 0), false) := rfl
def tb_Mo_copy : sc_T := [(0, .iload_n 1, 1, .inl (1, 0), false), (1, .invokestatic 196, 3, .inr (.inl (100, 1, mq_Mo_isRow)), false), (4, .ifCond .eq 10, 3, .inl (14, 0), false), (7, .iload_n 3, 1, .inl (3, 0), false), (8, .invokestatic 196, 3, .inr (.inl (100, 1, mq_Mo_isRow)), false), (11, .ifCond .ne 5, 3, .inl (16, 0), false), (14, .iconst (-1), 1, .inr (.inr 0), false), (15, .ireturn, 1, .inr (.inr 0), false), (16, .iload 5, 2, .inl (5, 0), false), (18, .ifCond .ge 9, 3, .inl (27, 0), false), (21, .aload_n 0, 1, .inl (0, 0), false), (22, .iconst 5, 1, .inr (.inr 0), false), (23, .invokevirtual 103, 3, .inr (.inl (5, 1, mq_Mo_meets)), false), (26, .ireturn, 1, .inr (.inr 0), false), (27, .aload_n 0, 1, .inl (0, 0), false), (28, .getfield 62, 3, .inl (5, 20), false), (31, .iload_n 1, 1, .inl (1, 0), false), (32, .iaload, 1, .inr (.inr 0), false), (33, .ifCond .lt 12, 3, .inl (45, 0), false), (36, .aload_n 0, 1, .inl (0, 0), false), (37, .getfield 62, 3, .inl (5, 20), false), (40, .iload_n 3, 1, .inl (3, 0), false), (41, .iaload, 1, .inr (.inr 0), false), (42, .ifCond .ge 9, 3, .inl (51, 0), false), (45, .aload_n 0, 1, .inl (0, 0), false), (46, .iconst 1, 1, .inr (.inr 0), false), (47, .invokevirtual 103, 3, .inr (.inl (5, 1, mq_Mo_meets)), false), (50, .ireturn, 1, .inr (.inr 0), false), (51, .iload_n 2, 1, .inl (2, 0), false), (52, .ifCond .lt 43, 3, .inl (95, 0), false), (55, .iload 4, 2, .inl (4, 0), false), (57, .ifCond .lt 38, 3, .inl (95, 0), false), (60, .iload_n 2, 1, .inl (2, 0), false), (61, .i2l, 1, .inr (.inr 0), false), (62, .iload 5, 2, .inl (5, 0), false), (64, .i2l, 1, .inr (.inr 0), false), (65, .ladd, 1, .inr (.inr 0), false), (66, .aload_n 0, 1, .inl (0, 0), false), (67, .getfield 62, 3, .inl (5, 20), false), (70, .iload_n 1, 1, .inl (1, 0), false), (71, .iaload, 1, .inr (.inr 0), false), (72, .i2l, 1, .inr (.inr 0), false), (73, .lcmp, 1, .inr (.inr 0), false), (74, .ifCond .gt 21, 3, .inl (95, 0), false), (77, .iload 4, 2, .inl (4, 0), false), (79, .i2l, 1, .inr (.inr 0), false), (80, .iload 5, 2, .inl (5, 0), false), (82, .i2l, 1, .inr (.inr 0), false), (83, .ladd, 1, .inr (.inr 0), false), (84, .aload_n 0, 1, .inl (0, 0), false), (85, .getfield 62, 3, .inl (5, 20), false), (88, .iload_n 3, 1, .inl (3, 0), false), (89, .iaload, 1, .inr (.inr 0), false), (90, .i2l, 1, .inr (.inr 0), false), (91, .lcmp, 1, .inr (.inr 0), false), (92, .ifCond .le 9, 3, .inl (101, 0), false), (95, .aload_n 0, 1, .inl (0, 0), false), (96, .iconst 2, 1, .inr (.inr 0), false), (97, .invokevirtual 103, 3, .inr (.inl (5, 1, mq_Mo_meets)), false), (100, .ireturn, 1, .inr (.inr 0), false), (101, .iconst 0, 1, .inr (.inr 0), false), (102, .istore 6, 2, .inl (6, 0), false), (104, .iload 6, 2, .inl (6, 0), true), (106, .iload 5, 2, .inl (5, 0), false), (108, .if_icmp .ge 30, 3, .inl (138, 0), false), (111, .aload_n 0, 1, .inl (0, 0), false), (112, .getfield 68, 3, .inl (5, 22), false), (115, .iload 6, 2, .inl (6, 0), false), (117, .aload_n 0, 1, .inl (0, 0), false), (118, .getfield 65, 3, .inl (5, 21), false), (121, .bipush 27, 2, .inr (.inr 0), false), (123, .iload_n 1, 1, .inl (1, 0), false), (124, .imul, 1, .inr (.inr 0), false), (125, .iload_n 2, 1, .inl (2, 0), false), (126, .iadd, 1, .inr (.inr 0), false), (127, .iload 6, 2, .inl (6, 0), false), (129, .iadd, 1, .inr (.inr 0), false), (130, .iaload, 1, .inr (.inr 0), false), (131, .iastore, 1, .inr (.inr 0), false), (132, .iinc 6 1, 3, .inl (6, 0), false), (135, .goto (-31), 3, .inl (104, 0), false), (138, .iconst 0, 1, .inr (.inr 0), false), (139, .istore 6, 2, .inl (6, 0), false), (141, .iload 6, 2, .inl (6, 0), true), (143, .iload 5, 2, .inl (5, 0), false), (145, .if_icmp .ge 31, 3, .inl (176, 0), false), (148, .aload_n 0, 1, .inl (0, 0), false), (149, .getfield 65, 3, .inl (5, 21), false), (152, .bipush 27, 2, .inr (.inr 0), false), (154, .iload_n 3, 1, .inl (3, 0), false), (155, .imul, 1, .inr (.inr 0), false), (156, .iload 4, 2, .inl (4, 0), false), (158, .iadd, 1, .inr (.inr 0), false), (159, .iload 6, 2, .inl (6, 0), false), (161, .iadd, 1, .inr (.inr 0), false), (162, .aload_n 0, 1, .inl (0, 0), false), (163, .getfield 68, 3, .inl (5, 22), false), (166, .iload 6, 2, .inl (6, 0), false), (168, .iaload, 1, .inr (.inr 0), false), (169, .iastore, 1, .inr (.inr 0), false), (170, .iinc 6 1, 3, .inl (6, 0), false), (173, .goto (-32), 3, .inl (141, 0), false), (176, .iconst 1, 1, .inr (.inr 0), false), (177, .ireturn, 1, .inr (.inr 0), false)]
theorem tk_Mo_copy : sc_ok mq_Mo_copy tb_Mo_copy = true := by decide +kernel
set_option maxRecDepth 20000 in
theorem lk_Mo_copy_0 : sc_lk tb_Mo_copy 0 = some (.iload_n 1, 1, .inl (1, 0), false) := rfl
set_option maxRecDepth 20000 in
theorem lk_Mo_copy_1 : sc_lk tb_Mo_copy 1 = some (.invokestatic 196, 3, .inr (.inl (100, 1, mq_Mo_isRow)), false) := rfl
set_option maxRecDepth 20000 in
theorem lk_Mo_copy_4 : sc_lk tb_Mo_copy 4 = some (.ifCond .eq 10, 3, .inl (14, 0), false) := rfl
set_option maxRecDepth 20000 in
theorem lk_Mo_copy_7 : sc_lk tb_Mo_copy 7 = some (.iload_n 3, 1, .inl (3, 0), false) := rfl
set_option maxRecDepth 20000 in
theorem lk_Mo_copy_8 : sc_lk tb_Mo_copy 8 = some (.invokestatic 196, 3, .inr (.inl (100, 1, mq_Mo_isRow)), false) := rfl
set_option maxRecDepth 20000 in
theorem lk_Mo_copy_11 : sc_lk tb_Mo_copy 11 = some (.ifCond .ne 5, 3, .inl (16, 0), false) := rfl
set_option maxRecDepth 20000 in
theorem lk_Mo_copy_14 : sc_lk tb_Mo_copy 14 = some (.iconst (-1), 1, .inr (.inr 0), false) := rfl
set_option maxRecDepth 20000 in
theorem lk_Mo_copy_15 : sc_lk tb_Mo_copy 15 = some (.ireturn, 1, .inr (.inr 0), false) := rfl
set_option maxRecDepth 20000 in
theorem lk_Mo_copy_16 : sc_lk tb_Mo_copy 16 = some (.iload 5, 2, .inl (5, 0), false) := rfl
set_option maxRecDepth 20000 in
theorem lk_Mo_copy_18 : sc_lk tb_Mo_copy 18 = some (.ifCond .ge 9, 3, .inl (27, 0), false) := rfl
set_option maxRecDepth 20000 in
theorem lk_Mo_copy_21 : sc_lk tb_Mo_copy 21 = some (.aload_n 0, 1, .inl (0, 0), false) := rfl
set_option maxRecDepth 20000 in
theorem lk_Mo_copy_22 : sc_lk tb_Mo_copy 22 = some (.iconst 5, 1, .inr (.inr 0), false) := rfl
set_option maxRecDepth 20000 in
theorem lk_Mo_copy_23 : sc_lk tb_Mo_copy 23 = some (.invokevirtual 103, 3, .inr (.inl (5, 1, mq_Mo_meets)), false) := rfl
set_option maxRecDepth 20000 in
theorem lk_Mo_copy_26 : sc_lk tb_Mo_copy 26 = some (.ireturn, 1, .inr (.inr 0), false) := rfl
set_option maxRecDepth 20000 in
theorem lk_Mo_copy_27 : sc_lk tb_Mo_copy 27 = some (.aload_n 0, 1, .inl (0, 0), false) := rfl
set_option maxRecDepth 20000 in
theorem lk_Mo_copy_28 : sc_lk tb_Mo_copy 28 = some (.getfield 62, 3, .inl (5, 20), false) := rfl
set_option maxRecDepth 20000 in
theorem lk_Mo_copy_31 : sc_lk tb_Mo_copy 31 = some (.iload_n 1, 1, .inl (1, 0), false) := rfl
set_option maxRecDepth 20000 in
theorem lk_Mo_copy_32 : sc_lk tb_Mo_copy 32 = some (.iaload, 1, .inr (.inr 0), false) := rfl
set_option maxRecDepth 20000 in
theorem lk_Mo_copy_33 : sc_lk tb_Mo_copy 33 = some (.ifCond .lt 12, 3, .inl (45, 0), false) := rfl
set_option maxRecDepth 20000 in
theorem lk_Mo_copy_36 : sc_lk tb_Mo_copy 36 = some (.aload_n 0, 1, .inl (0, 0), false) := rfl
set_option maxRecDepth 20000 in
theorem lk_Mo_copy_37 : sc_lk tb_Mo_copy 37 = some (.getfield 62, 3, .inl (5, 20), false) := rfl
set_option maxRecDepth 20000 in
theorem lk_Mo_copy_40 : sc_lk tb_Mo_copy 40 = some (.iload_n 3, 1, .inl (3, 0), false) := rfl
set_option maxRecDepth 20000 in
theorem lk_Mo_copy_41 : sc_lk tb_Mo_copy 41 = some (.iaload, 1, .inr (.inr 0), false) := rfl
set_option maxRecDepth 20000 in
theorem lk_Mo_copy_42 : sc_lk tb_Mo_copy 42 = some (.ifCond .ge 9, 3, .inl (51, 0), false) := rfl
set_option maxRecDepth 20000 in
theorem lk_Mo_copy_45 : sc_lk tb_Mo_copy 45 = some (.aload_n 0, 1, .inl (0, 0), false) := rfl
set_option maxRecDepth 20000 in
theorem lk_Mo_copy_46 : sc_lk tb_Mo_copy 46 = some (.iconst 1, 1, .inr (.inr 0), false) := rfl
set_option maxRecDepth 20000 in
theorem lk_Mo_copy_47 : sc_lk tb_Mo_copy 47 = some (.invokevirtual 103, 3, .inr (.inl (5, 1, mq_Mo_meets)), false) := rfl
set_option maxRecDepth 20000 in
theorem lk_Mo_copy_50 : sc_lk tb_Mo_copy 50 = some (.ireturn, 1, .inr (.inr 0), false) := rfl
set_option maxRecDepth 20000 in
theorem lk_Mo_copy_51 : sc_lk tb_Mo_copy 51 = some (.iload_n 2, 1, .inl (2, 0), false) := rfl
set_option maxRecDepth 20000 in
theorem lk_Mo_copy_52 : sc_lk tb_Mo_copy 52 = some (.ifCond .lt 43, 3, .inl (95, 0), false) := rfl
set_option maxRecDepth 20000 in
theorem lk_Mo_copy_55 : sc_lk tb_Mo_copy 55 = some (.iload 4, 2, .inl (4, 0), false) := rfl
set_option maxRecDepth 20000 in
theorem lk_Mo_copy_57 : sc_lk tb_Mo_copy 57 = some (.ifCond .lt 38, 3, .inl (95, 0), false) := rfl
set_option maxRecDepth 20000 in
theorem lk_Mo_copy_60 : sc_lk tb_Mo_copy 60 = some (.iload_n 2, 1, .inl (2, 0), false) := rfl
set_option maxRecDepth 20000 in
theorem lk_Mo_copy_61 : sc_lk tb_Mo_copy 61 = some (.i2l, 1, .inr (.inr 0), false) := rfl
set_option maxRecDepth 20000 in
theorem lk_Mo_copy_62 : sc_lk tb_Mo_copy 62 = some (.iload 5, 2, .inl (5, 0), false) := rfl
set_option maxRecDepth 20000 in
theorem lk_Mo_copy_64 : sc_lk tb_Mo_copy 64 = some (.i2l, 1, .inr (.inr 0), false) := rfl
set_option maxRecDepth 20000 in
theorem lk_Mo_copy_65 : sc_lk tb_Mo_copy 65 = some (.ladd, 1, .inr (.inr 0), false) := rfl
set_option maxRecDepth 20000 in
theorem lk_Mo_copy_66 : sc_lk tb_Mo_copy 66 = some (.aload_n 0, 1, .inl (0, 0), false) := rfl
set_option maxRecDepth 20000 in
theorem lk_Mo_copy_67 : sc_lk tb_Mo_copy 67 = some (.getfield 62, 3, .inl (5, 20), false) := rfl
set_option maxRecDepth 20000 in
theorem lk_Mo_copy_70 : sc_lk tb_Mo_copy 70 = some (.iload_n 1, 1, .inl (1, 0), false) := rfl
set_option maxRecDepth 20000 in
theorem lk_Mo_copy_71 : sc_lk tb_Mo_copy 71 = some (.iaload, 1, .inr (.inr 0), false) := rfl
set_option maxRecDepth 20000 in
theorem lk_Mo_copy_72 : sc_lk tb_Mo_copy 72 = some (.i2l, 1, .inr (.inr 0), false) := rfl
set_option maxRecDepth 20000 in
theorem lk_Mo_copy_73 : sc_lk tb_Mo_copy 73 = some (.lcmp, 1, .inr (.inr 0), false) := rfl
set_option maxRecDepth 20000 in
theorem lk_Mo_copy_74 : sc_lk tb_Mo_copy 74 = some (.ifCond .gt 21, 3, .inl (95, 0), false) := rfl
set_option maxRecDepth 20000 in
theorem lk_Mo_copy_77 : sc_lk tb_Mo_copy 77 = some (.iload 4, 2, .inl (4, 0), false) := rfl
set_option maxRecDepth 20000 in
theorem lk_Mo_copy_79 : sc_lk tb_Mo_copy 79 = some (.i2l, 1, .inr (.inr 0), false) := rfl
set_option maxRecDepth 20000 in
theorem lk_Mo_copy_80 : sc_lk tb_Mo_copy 80 = some (.iload 5, 2, .inl (5, 0), false) := rfl
set_option maxRecDepth 20000 in
theorem lk_Mo_copy_82 : sc_lk tb_Mo_copy 82 = some (.i2l, 1, .inr (.inr 0), false) := rfl
set_option maxRecDepth 20000 in
theorem lk_Mo_copy_83 : sc_lk tb_Mo_copy 83 = some (.ladd, 1, .inr (.inr 0), false) := rfl
set_option maxRecDepth 20000 in
theorem lk_Mo_copy_84 : sc_lk tb_Mo_copy 84 = some (.aload_n 0, 1, .inl (0, 0), false) := rfl
set_option maxRecDepth 20000 in
theorem lk_Mo_copy_85 : sc_lk tb_Mo_copy 85 = some (.getfield 62, 3, .inl (5, 20), false) := rfl
set_option maxRecDepth 20000 in
theorem lk_Mo_copy_88 : sc_lk tb_Mo_copy 88 = some (.iload_n 3, 1, .inl (3, 0), false) := rfl
set_option maxRecDepth 20000 in
theorem lk_Mo_copy_89 : sc_lk tb_Mo_copy 89 = some (.iaload, 1, .inr (.inr 0), false) := rfl
set_option maxRecDepth 20000 in
theorem lk_Mo_copy_90 : sc_lk tb_Mo_copy 90 = some (.i2l, 1, .inr (.inr 0), false) := rfl
set_option maxRecDepth 20000 in
theorem lk_Mo_copy_91 : sc_lk tb_Mo_copy 91 = some (.lcmp, 1, .inr (.inr 0), false) := rfl
set_option maxRecDepth 20000 in
theorem lk_Mo_copy_92 : sc_lk tb_Mo_copy 92 = some (.ifCond .le 9, 3, .inl (101, 0), false) := rfl
set_option maxRecDepth 20000 in
theorem lk_Mo_copy_95 : sc_lk tb_Mo_copy 95 = some (.aload_n 0, 1, .inl (0, 0), false) := rfl
set_option maxRecDepth 20000 in
theorem lk_Mo_copy_96 : sc_lk tb_Mo_copy 96 = some (.iconst 2, 1, .inr (.inr 0), false) := rfl
set_option maxRecDepth 20000 in
theorem lk_Mo_copy_97 : sc_lk tb_Mo_copy 97 = some (.invokevirtual 103, 3, .inr (.inl (5, 1, mq_Mo_meets)), false) := rfl
set_option maxRecDepth 20000 in
theorem lk_Mo_copy_100 : sc_lk tb_Mo_copy 100 = some (.ireturn, 1, .inr (.inr 0), false) := rfl
set_option maxRecDepth 20000 in
theorem lk_Mo_copy_101 : sc_lk tb_Mo_copy 101 = some (.iconst 0, 1, .inr (.inr 0), false) := rfl
set_option maxRecDepth 20000 in
theorem lk_Mo_copy_102 : sc_lk tb_Mo_copy 102 = some (.istore 6, 2, .inl (6, 0), false) := rfl
set_option maxRecDepth 20000 in
theorem lk_Mo_copy_104 : sc_lk tb_Mo_copy 104 = some (.iload 6, 2, .inl (6, 0), true) := rfl
set_option maxRecDepth 20000 in
theorem lk_Mo_copy_106 : sc_lk tb_Mo_copy 106 = some (.iload 5, 2, .inl (5, 0), false) := rfl
set_option maxRecDepth 20000 in
theorem lk_Mo_copy_108 : sc_lk tb_Mo_copy 108 = some (.if_icmp .ge 30, 3, .inl (138, 0), false) := rfl
set_option maxRecDepth 20000 in
theorem lk_Mo_copy_111 : sc_lk tb_Mo_copy 111 = some (.aload_n 0, 1, .inl (0, 0), false) := rfl
set_option maxRecDepth 20000 in
theorem lk_Mo_copy_112 : sc_lk tb_Mo_copy 112 = some (.getfield 68, 3, .inl (5, 22), false) := rfl
set_option maxRecDepth 20000 in
theorem lk_Mo_copy_115 : sc_lk tb_Mo_copy 115 = some (.iload 6, 2, .inl (6, 0), false) := rfl
set_option maxRecDepth 20000 in
theorem lk_Mo_copy_117 : sc_lk tb_Mo_copy 117 = some (.aload_n 0, 1, .inl (0, 0), false) := rfl
set_option maxRecDepth 20000 in
theorem lk_Mo_copy_118 : sc_lk tb_Mo_copy 118 = some (.getfield 65, 3, .inl (5, 21), false) := rfl
set_option maxRecDepth 20000 in
theorem lk_Mo_copy_121 : sc_lk tb_Mo_copy 121 = some (.bipush 27, 2, .inr (.inr 0), false) := rfl
set_option maxRecDepth 20000 in
theorem lk_Mo_copy_123 : sc_lk tb_Mo_copy 123 = some (.iload_n 1, 1, .inl (1, 0), false) := rfl
set_option maxRecDepth 20000 in
theorem lk_Mo_copy_124 : sc_lk tb_Mo_copy 124 = some (.imul, 1, .inr (.inr 0), false) := rfl
set_option maxRecDepth 20000 in
theorem lk_Mo_copy_125 : sc_lk tb_Mo_copy 125 = some (.iload_n 2, 1, .inl (2, 0), false) := rfl
set_option maxRecDepth 20000 in
theorem lk_Mo_copy_126 : sc_lk tb_Mo_copy 126 = some (.iadd, 1, .inr (.inr 0), false) := rfl
set_option maxRecDepth 20000 in
theorem lk_Mo_copy_127 : sc_lk tb_Mo_copy 127 = some (.iload 6, 2, .inl (6, 0), false) := rfl
set_option maxRecDepth 20000 in
theorem lk_Mo_copy_129 : sc_lk tb_Mo_copy 129 = some (.iadd, 1, .inr (.inr 0), false) := rfl
set_option maxRecDepth 20000 in
theorem lk_Mo_copy_130 : sc_lk tb_Mo_copy 130 = some (.iaload, 1, .inr (.inr 0), false) := rfl
set_option maxRecDepth 20000 in
theorem lk_Mo_copy_131 : sc_lk tb_Mo_copy 131 = some (.iastore, 1, .inr (.inr 0), false) := rfl
set_option maxRecDepth 20000 in
theorem lk_Mo_copy_132 : sc_lk tb_Mo_copy 132 = some (.iinc 6 1, 3, .inl (6, 0), false) := rfl
set_option maxRecDepth 20000 in
theorem lk_Mo_copy_135 : sc_lk tb_Mo_copy 135 = some (.goto (-31), 3, .inl (104, 0), false) := rfl
set_option maxRecDepth 20000 in
theorem lk_Mo_copy_138 : sc_lk tb_Mo_copy 138 = some (.iconst 0, 1, .inr (.inr 0), false) := rfl
set_option maxRecDepth 20000 in
theorem lk_Mo_copy_139 : sc_lk tb_Mo_copy 139 = some (.istore 6, 2, .inl (6, 0), false) := rfl
set_option maxRecDepth 20000 in
theorem lk_Mo_copy_141 : sc_lk tb_Mo_copy 141 = some (.iload 6, 2, .inl (6, 0), true) := rfl
set_option maxRecDepth 20000 in
theorem lk_Mo_copy_143 : sc_lk tb_Mo_copy 143 = some (.iload 5, 2, .inl (5, 0), false) := rfl
set_option maxRecDepth 20000 in
theorem lk_Mo_copy_145 : sc_lk tb_Mo_copy 145 = some (.if_icmp .ge 31, 3, .inl (176, 0), false) := rfl
set_option maxRecDepth 20000 in
theorem lk_Mo_copy_148 : sc_lk tb_Mo_copy 148 = some (.aload_n 0, 1, .inl (0, 0), false) := rfl
set_option maxRecDepth 20000 in
theorem lk_Mo_copy_149 : sc_lk tb_Mo_copy 149 = some (.getfield 65, 3, .inl (5, 21), false) := rfl
set_option maxRecDepth 20000 in
theorem lk_Mo_copy_152 : sc_lk tb_Mo_copy 152 = some (.bipush 27, 2, .inr (.inr 0), false) := rfl
set_option maxRecDepth 20000 in
theorem lk_Mo_copy_154 : sc_lk tb_Mo_copy 154 = some (.iload_n 3, 1, .inl (3, 0), false) := rfl
set_option maxRecDepth 20000 in
theorem lk_Mo_copy_155 : sc_lk tb_Mo_copy 155 = some (.imul, 1, .inr (.inr 0), false) := rfl
set_option maxRecDepth 20000 in
theorem lk_Mo_copy_156 : sc_lk tb_Mo_copy 156 = some (.iload 4, 2, .inl (4, 0), false) := rfl
set_option maxRecDepth 20000 in
theorem lk_Mo_copy_158 : sc_lk tb_Mo_copy 158 = some (.iadd, 1, .inr (.inr 0), false) := rfl
set_option maxRecDepth 20000 in
theorem lk_Mo_copy_159 : sc_lk tb_Mo_copy 159 = some (.iload 6, 2, .inl (6, 0), false) := rfl
set_option maxRecDepth 20000 in
theorem lk_Mo_copy_161 : sc_lk tb_Mo_copy 161 = some (.iadd, 1, .inr (.inr 0), false) := rfl
set_option maxRecDepth 20000 in
theorem lk_Mo_copy_162 : sc_lk tb_Mo_copy 162 = some (.aload_n 0, 1, .inl (0, 0), false) := rfl
set_option maxRecDepth 20000 in
theorem lk_Mo_copy_163 : sc_lk tb_Mo_copy 163 = some (.getfield 68, 3, .inl (5, 22), false) := rfl
set_option maxRecDepth 20000 in
theorem lk_Mo_copy_166 : sc_lk tb_Mo_copy 166 = some (.iload 6, 2, .inl (6, 0), false) := rfl
set_option maxRecDepth 20000 in
theorem lk_Mo_copy_168 : sc_lk tb_Mo_copy 168 = some (.iaload, 1, .inr (.inr 0), false) := rfl
set_option maxRecDepth 20000 in
theorem lk_Mo_copy_169 : sc_lk tb_Mo_copy 169 = some (.iastore, 1, .inr (.inr 0), false) := rfl
set_option maxRecDepth 20000 in
theorem lk_Mo_copy_170 : sc_lk tb_Mo_copy 170 = some (.iinc 6 1, 3, .inl (6, 0), false) := rfl
set_option maxRecDepth 20000 in
theorem lk_Mo_copy_173 : sc_lk tb_Mo_copy 173 = some (.goto (-32), 3, .inl (141, 0), false) := rfl
set_option maxRecDepth 20000 in
theorem lk_Mo_copy_176 : sc_lk tb_Mo_copy 176 = some (.iconst 1, 1, .inr (.inr 0), false) := rfl
set_option maxRecDepth 20000 in
theorem lk_Mo_copy_177 : sc_lk tb_Mo_copy 177 = some (.ireturn, 1, .inr (.inr 0), false) := rfl
def tb_Mo_fill : sc_T := [(0, .aload_n 0, 1, .inl (0, 0), false), (1, .iload_n 1, 1, .inl (1, 0), false), (2, .invokevirtual 99, 3, .inr (.inl (5, 1, mq_Mo_isNode)), false), (5, .ifCond .eq 10, 3, .inl (15, 0), false), (8, .iload_n 2, 1, .inl (2, 0), false), (9, .invokestatic 196, 3, .inr (.inl (100, 1, mq_Mo_isRow)), false), (12, .ifCond .ne 5, 3, .inl (17, 0), false), (15, .iconst (-1), 1, .inr (.inr 0), false), (16, .ireturn, 1, .inr (.inr 0), false), (17, .aload_n 0, 1, .inl (0, 0), false), (18, .getfield 17, 3, .inl (5, 6), false), (21, .iload_n 1, 1, .inl (1, 0), false), (22, .iaload, 1, .inr (.inr 0), false), (23, .ifCond .eq 9, 3, .inl (32, 0), false), (26, .aload_n 0, 1, .inl (0, 0), false), (27, .iconst 3, 1, .inr (.inr 0), false), (28, .invokevirtual 103, 3, .inr (.inl (5, 1, mq_Mo_meets)), false), (31, .ireturn, 1, .inr (.inr 0), false), (32, .aload_n 0, 1, .inl (0, 0), false), (33, .getfield 62, 3, .inl (5, 20), false), (36, .iload_n 2, 1, .inl (2, 0), false), (37, .iaload, 1, .inr (.inr 0), false), (38, .ifCond .ge 9, 3, .inl (47, 0), false), (41, .aload_n 0, 1, .inl (0, 0), false), (42, .iconst 1, 1, .inr (.inr 0), false), (43, .invokevirtual 103, 3, .inr (.inl (5, 1, mq_Mo_meets)), false), (46, .ireturn, 1, .inr (.inr 0), false), (47, .aload_n 0, 1, .inl (0, 0), false), (48, .iload_n 1, 1, .inl (1, 0), false), (49, .invokevirtual 87, 3, .inr (.inl (5, 1, mq_Mo_rowsOf)), false), (52, .aload_n 0, 1, .inl (0, 0), false), (53, .getfield 62, 3, .inl (5, 20), false), (56, .iload_n 2, 1, .inl (2, 0), false), (57, .iaload, 1, .inr (.inr 0), false), (58, .if_icmp .ge 11, 3, .inl (69, 0), false), (61, .aload_n 0, 1, .inl (0, 0), false), (62, .iload_n 1, 1, .inl (1, 0), false), (63, .invokevirtual 87, 3, .inr (.inl (5, 1, mq_Mo_rowsOf)), false), (66, .goto 9, 3, .inl (75, 0), false), (69, .aload_n 0, 1, .inl (0, 0), false), (70, .getfield 62, 3, .inl (5, 20), false), (73, .iload_n 2, 1, .inl (2, 0), false), (74, .iaload, 1, .inr (.inr 0), false), (75, .istore_n 3, 1, .inl (3, 0), false), (76, .iconst 0, 1, .inr (.inr 0), false), (77, .istore 4, 2, .inl (4, 0), false), (79, .iload 4, 2, .inl (4, 0), true), (81, .iload_n 3, 1, .inl (3, 0), false), (82, .if_icmp .ge 61, 3, .inl (143, 0), false), (85, .aload_n 0, 1, .inl (0, 0), false), (86, .getfield 65, 3, .inl (5, 21), false), (89, .bipush 27, 2, .inr (.inr 0), false), (91, .iload_n 2, 1, .inl (2, 0), false), (92, .imul, 1, .inr (.inr 0), false), (93, .iload 4, 2, .inl (4, 0), false), (95, .iadd, 1, .inr (.inr 0), false), (96, .iaload, 1, .inr (.inr 0), false), (97, .istore 5, 2, .inl (5, 0), false), (99, .aload_n 0, 1, .inl (0, 0), false), (100, .getfield 35, 3, .inl (5, 12), false), (103, .bipush 27, 2, .inr (.inr 0), false), (105, .iload_n 1, 1, .inl (1, 0), false), (106, .imul, 1, .inr (.inr 0), false), (107, .iload 4, 2, .inl (4, 0), false), (109, .iadd, 1, .inr (.inr 0), false), (110, .iload 5, 2, .inl (5, 0), false), (112, .bipush (-100), 2, .inr (.inr 0), false), (114, .if_icmp .ge 8, 3, .inl (122, 0), false), (117, .bipush (-100), 2, .inr (.inr 0), false), (119, .goto 17, 3, .inl (136, 0), false), (122, .iload 5, 2, .inl (5, 0), false), (124, .bipush 100, 2, .inr (.inr 0), false), (126, .if_icmp .le 8, 3, .inl (134, 0), false), (129, .bipush 100, 2, .inr (.inr 0), false), (131, .goto 5, 3, .inl (136, 0), false), (134, .iload 5, 2, .inl (5, 0), false), (136, .iastore, 1, .inr (.inr 0), false), (137, .iinc 4 1, 3, .inl (4, 0), false), (140, .goto (-61), 3, .inl (79, 0), false), (143, .iload_n 3, 1, .inl (3, 0), false), (144, .ireturn, 1, .inr (.inr 0), false)]
theorem tk_Mo_fill : sc_ok mq_Mo_fill tb_Mo_fill = true := by decide +kernel
theorem lk_Mo_fill_0 : sc_lk tb_Mo_fill 0 = some (.aload_n 0, 1, .inl (0, 0), false) := rfl
theorem lk_Mo_fill_1 : sc_lk tb_Mo_fill 1 = some (.iload_n 1, 1, .inl (1, 0), false) := rfl
theorem lk_Mo_fill_2 : sc_lk tb_Mo_fill 2 = some (.invokevirtual 99, 3, .inr (.inl (5, 1, mq_Mo_isNode)), false) := rfl
theorem lk_Mo_fill_5 : sc_lk tb_Mo_fill 5 = some (.ifCond .eq 10, 3, .inl (15, 0), false) := rfl
theorem lk_Mo_fill_8 : sc_lk tb_Mo_fill 8 = some (.iload_n 2, 1, .inl (2, 0), false) := rfl
theorem lk_Mo_fill_9 : sc_lk tb_Mo_fill 9 = some (.invokestatic 196, 3, .inr (.inl (100, 1, mq_Mo_isRow)), false) := rfl
theorem lk_Mo_fill_12 : sc_lk tb_Mo_fill 12 = some (.ifCond .ne 5, 3, .inl (17, 0), false) := rfl
theorem lk_Mo_fill_15 : sc_lk tb_Mo_fill 15 = some (.iconst (-1), 1, .inr (.inr 0), false) := rfl
theorem lk_Mo_fill_16 : sc_lk tb_Mo_fill 16 = some (.ireturn, 1, .inr (.inr 0), false) := rfl
theorem lk_Mo_fill_17 : sc_lk tb_Mo_fill 17 = some (.aload_n 0, 1, .inl (0, 0), false) := rfl
theorem lk_Mo_fill_18 : sc_lk tb_Mo_fill 18 = some (.getfield 17, 3, .inl (5, 6), false) := rfl
theorem lk_Mo_fill_21 : sc_lk tb_Mo_fill 21 = some (.iload_n 1, 1, .inl (1, 0), false) := rfl
theorem lk_Mo_fill_22 : sc_lk tb_Mo_fill 22 = some (.iaload, 1, .inr (.inr 0), false) := rfl
theorem lk_Mo_fill_23 : sc_lk tb_Mo_fill 23 = some (.ifCond .eq 9, 3, .inl (32, 0), false) := rfl
theorem lk_Mo_fill_26 : sc_lk tb_Mo_fill 26 = some (.aload_n 0, 1, .inl (0, 0), false) := rfl
theorem lk_Mo_fill_27 : sc_lk tb_Mo_fill 27 = some (.iconst 3, 1, .inr (.inr 0), false) := rfl
theorem lk_Mo_fill_28 : sc_lk tb_Mo_fill 28 = some (.invokevirtual 103, 3, .inr (.inl (5, 1, mq_Mo_meets)), false) := rfl
theorem lk_Mo_fill_31 : sc_lk tb_Mo_fill 31 = some (.ireturn, 1, .inr (.inr 0), false) := rfl
theorem lk_Mo_fill_32 : sc_lk tb_Mo_fill 32 = some (.aload_n 0, 1, .inl (0, 0), false) := rfl
theorem lk_Mo_fill_33 : sc_lk tb_Mo_fill 33 = some (.getfield 62, 3, .inl (5, 20), false) := rfl
theorem lk_Mo_fill_36 : sc_lk tb_Mo_fill 36 = some (.iload_n 2, 1, .inl (2, 0), false) := rfl
theorem lk_Mo_fill_37 : sc_lk tb_Mo_fill 37 = some (.iaload, 1, .inr (.inr 0), false) := rfl
theorem lk_Mo_fill_38 : sc_lk tb_Mo_fill 38 = some (.ifCond .ge 9, 3, .inl (47, 0), false) := rfl
theorem lk_Mo_fill_41 : sc_lk tb_Mo_fill 41 = some (.aload_n 0, 1, .inl (0, 0), false) := rfl
theorem lk_Mo_fill_42 : sc_lk tb_Mo_fill 42 = some (.iconst 1, 1, .inr (.inr 0), false) := rfl
theorem lk_Mo_fill_43 : sc_lk tb_Mo_fill 43 = some (.invokevirtual 103, 3, .inr (.inl (5, 1, mq_Mo_meets)), false) := rfl
theorem lk_Mo_fill_46 : sc_lk tb_Mo_fill 46 = some (.ireturn, 1, .inr (.inr 0), false) := rfl
theorem lk_Mo_fill_47 : sc_lk tb_Mo_fill 47 = some (.aload_n 0, 1, .inl (0, 0), false) := rfl
theorem lk_Mo_fill_48 : sc_lk tb_Mo_fill 48 = some (.iload_n 1, 1, .inl (1, 0), false) := rfl
theorem lk_Mo_fill_49 : sc_lk tb_Mo_fill 49 = some (.invokevirtual 87, 3, .inr (.inl (5, 1, mq_Mo_rowsOf)), false) := rfl
theorem lk_Mo_fill_52 : sc_lk tb_Mo_fill 52 = some (.aload_n 0, 1, .inl (0, 0), false) := rfl
theorem lk_Mo_fill_53 : sc_lk tb_Mo_fill 53 = some (.getfield 62, 3, .inl (5, 20), false) := rfl
theorem lk_Mo_fill_56 : sc_lk tb_Mo_fill 56 = some (.iload_n 2, 1, .inl (2, 0), false) := rfl
theorem lk_Mo_fill_57 : sc_lk tb_Mo_fill 57 = some (.iaload, 1, .inr (.inr 0), false) := rfl
theorem lk_Mo_fill_58 : sc_lk tb_Mo_fill 58 = some (.if_icmp .ge 11, 3, .inl (69, 0), false) := rfl
theorem lk_Mo_fill_61 : sc_lk tb_Mo_fill 61 = some (.aload_n 0, 1, .inl (0, 0), false) := rfl
theorem lk_Mo_fill_62 : sc_lk tb_Mo_fill 62 = some (.iload_n 1, 1, .inl (1, 0), false) := rfl
theorem lk_Mo_fill_63 : sc_lk tb_Mo_fill 63 = some (.invokevirtual 87, 3, .inr (.inl (5, 1, mq_Mo_rowsOf)), false) := rfl
theorem lk_Mo_fill_66 : sc_lk tb_Mo_fill 66 = some (.goto 9, 3, .inl (75, 0), false) := rfl
theorem lk_Mo_fill_69 : sc_lk tb_Mo_fill 69 = some (.aload_n 0, 1, .inl (0, 0), false) := rfl
theorem lk_Mo_fill_70 : sc_lk tb_Mo_fill 70 = some (.getfield 62, 3, .inl (5, 20), false) := rfl
theorem lk_Mo_fill_73 : sc_lk tb_Mo_fill 73 = some (.iload_n 2, 1, .inl (2, 0), false) := rfl
theorem lk_Mo_fill_74 : sc_lk tb_Mo_fill 74 = some (.iaload, 1, .inr (.inr 0), false) := rfl
theorem lk_Mo_fill_75 : sc_lk tb_Mo_fill 75 = some (.istore_n 3, 1, .inl (3, 0), false) := rfl
theorem lk_Mo_fill_76 : sc_lk tb_Mo_fill 76 = some (.iconst 0, 1, .inr (.inr 0), false) := rfl
theorem lk_Mo_fill_77 : sc_lk tb_Mo_fill 77 = some (.istore 4, 2, .inl (4, 0), false) := rfl
theorem lk_Mo_fill_79 : sc_lk tb_Mo_fill 79 = some (.iload 4, 2, .inl (4, 0), true) := rfl
theorem lk_Mo_fill_81 : sc_lk tb_Mo_fill 81 = some (.iload_n 3, 1, .inl (3, 0), false) := rfl
theorem lk_Mo_fill_82 : sc_lk tb_Mo_fill 82 = some (.if_icmp .ge 61, 3, .inl (143, 0), false) := rfl
theorem lk_Mo_fill_85 : sc_lk tb_Mo_fill 85 = some (.aload_n 0, 1, .inl (0, 0), false) := rfl
theorem lk_Mo_fill_86 : sc_lk tb_Mo_fill 86 = some (.getfield 65, 3, .inl (5, 21), false) := rfl
theorem lk_Mo_fill_89 : sc_lk tb_Mo_fill 89 = some (.bipush 27, 2, .inr (.inr 0), false) := rfl
theorem lk_Mo_fill_91 : sc_lk tb_Mo_fill 91 = some (.iload_n 2, 1, .inl (2, 0), false) := rfl
theorem lk_Mo_fill_92 : sc_lk tb_Mo_fill 92 = some (.imul, 1, .inr (.inr 0), false) := rfl
theorem lk_Mo_fill_93 : sc_lk tb_Mo_fill 93 = some (.iload 4, 2, .inl (4, 0), false) := rfl
theorem lk_Mo_fill_95 : sc_lk tb_Mo_fill 95 = some (.iadd, 1, .inr (.inr 0), false) := rfl
theorem lk_Mo_fill_96 : sc_lk tb_Mo_fill 96 = some (.iaload, 1, .inr (.inr 0), false) := rfl
theorem lk_Mo_fill_97 : sc_lk tb_Mo_fill 97 = some (.istore 5, 2, .inl (5, 0), false) := rfl
theorem lk_Mo_fill_99 : sc_lk tb_Mo_fill 99 = some (.aload_n 0, 1, .inl (0, 0), false) := rfl
theorem lk_Mo_fill_100 : sc_lk tb_Mo_fill 100 = some (.getfield 35, 3, .inl (5, 12), false) := rfl
theorem lk_Mo_fill_103 : sc_lk tb_Mo_fill 103 = some (.bipush 27, 2, .inr (.inr 0), false) := rfl
theorem lk_Mo_fill_105 : sc_lk tb_Mo_fill 105 = some (.iload_n 1, 1, .inl (1, 0), false) := rfl
theorem lk_Mo_fill_106 : sc_lk tb_Mo_fill 106 = some (.imul, 1, .inr (.inr 0), false) := rfl
theorem lk_Mo_fill_107 : sc_lk tb_Mo_fill 107 = some (.iload 4, 2, .inl (4, 0), false) := rfl
theorem lk_Mo_fill_109 : sc_lk tb_Mo_fill 109 = some (.iadd, 1, .inr (.inr 0), false) := rfl
theorem lk_Mo_fill_110 : sc_lk tb_Mo_fill 110 = some (.iload 5, 2, .inl (5, 0), false) := rfl
theorem lk_Mo_fill_112 : sc_lk tb_Mo_fill 112 = some (.bipush (-100), 2, .inr (.inr 0), false) := rfl
theorem lk_Mo_fill_114 : sc_lk tb_Mo_fill 114 = some (.if_icmp .ge 8, 3, .inl (122, 0), false) := rfl
theorem lk_Mo_fill_117 : sc_lk tb_Mo_fill 117 = some (.bipush (-100), 2, .inr (.inr 0), false) := rfl
theorem lk_Mo_fill_119 : sc_lk tb_Mo_fill 119 = some (.goto 17, 3, .inl (136, 0), false) := rfl
theorem lk_Mo_fill_122 : sc_lk tb_Mo_fill 122 = some (.iload 5, 2, .inl (5, 0), false) := rfl
theorem lk_Mo_fill_124 : sc_lk tb_Mo_fill 124 = some (.bipush 100, 2, .inr (.inr 0), false) := rfl
theorem lk_Mo_fill_126 : sc_lk tb_Mo_fill 126 = some (.if_icmp .le 8, 3, .inl (134, 0), false) := rfl
theorem lk_Mo_fill_129 : sc_lk tb_Mo_fill 129 = some (.bipush 100, 2, .inr (.inr 0), false) := rfl
theorem lk_Mo_fill_131 : sc_lk tb_Mo_fill 131 = some (.goto 5, 3, .inl (136, 0), false) := rfl
theorem lk_Mo_fill_134 : sc_lk tb_Mo_fill 134 = some (.iload 5, 2, .inl (5, 0), false) := rfl
theorem lk_Mo_fill_136 : sc_lk tb_Mo_fill 136 = some (.iastore, 1, .inr (.inr 0), false) := rfl
theorem lk_Mo_fill_137 : sc_lk tb_Mo_fill 137 = some (.iinc 4 1, 3, .inl (4, 0), false) := rfl
theorem lk_Mo_fill_140 : sc_lk tb_Mo_fill 140 = some (.goto (-61), 3, .inl (79, 0), false) := rfl
theorem lk_Mo_fill_143 : sc_lk tb_Mo_fill 143 = some (.iload_n 3, 1, .inl (3, 0), false) := rfl
theorem lk_Mo_fill_144 : sc_lk tb_Mo_fill 144 = some (.ireturn, 1, .inr (.inr 0), false) := rfl
def tb_Mo_asked : sc_T := [(0, .aload_n 0, 1, .inl (0, 0), false), (1, .getfield 74, 3, .inl (5, 2), false), (4, .ireturn, 1, .inr (.inr 0), false)]
theorem tk_Mo_asked : sc_ok mq_Mo_asked tb_Mo_asked = true := by decide +kernel
theorem lk_Mo_asked_0 : sc_lk tb_Mo_asked 0 = some (.aload_n 0, 1, .inl (0, 0), false) := rfl
theorem lk_Mo_asked_1 : sc_lk tb_Mo_asked 1 = some (.getfield 74, 3, .inl (5, 2), false) := rfl
theorem lk_Mo_asked_4 : sc_lk tb_Mo_asked 4 = some (.ireturn, 1, .inr (.inr 0), false) := rfl
def tb_Mo_upper : sc_T := [(0, .aload_n 0, 1, .inl (0, 0), false), (1, .getfield 77, 3, .inl (5, 3), false), (4, .lreturn, 1, .inr (.inr 0), false)]
theorem tk_Mo_upper : sc_ok mq_Mo_upper tb_Mo_upper = true := by decide +kernel
theorem lk_Mo_upper_0 : sc_lk tb_Mo_upper 0 = some (.aload_n 0, 1, .inl (0, 0), false) := rfl
theorem lk_Mo_upper_1 : sc_lk tb_Mo_upper 1 = some (.getfield 77, 3, .inl (5, 3), false) := rfl
theorem lk_Mo_upper_4 : sc_lk tb_Mo_upper 4 = some (.lreturn, 1, .inr (.inr 0), false) := rfl
def tb_Mo_lower : sc_T := [(0, .aload_n 0, 1, .inl (0, 0), false), (1, .getfield 13, 3, .inl (5, 4), false), (4, .lreturn, 1, .inr (.inr 0), false)]
theorem tk_Mo_lower : sc_ok mq_Mo_lower tb_Mo_lower = true := by decide +kernel
theorem lk_Mo_lower_0 : sc_lk tb_Mo_lower 0 = some (.aload_n 0, 1, .inl (0, 0), false) := rfl
theorem lk_Mo_lower_1 : sc_lk tb_Mo_lower 1 = some (.getfield 13, 3, .inl (5, 4), false) := rfl
theorem lk_Mo_lower_4 : sc_lk tb_Mo_lower 4 = some (.lreturn, 1, .inr (.inr 0), false) := rfl
def tb_Mo_count : sc_T := [(0, .iconst 0, 1, .inr (.inr 0), false), (1, .istore_n 2, 1, .inl (2, 0), false), (2, .iconst 0, 1, .inr (.inr 0), false), (3, .istore_n 3, 1, .inl (3, 0), false), (4, .iload_n 3, 1, .inl (3, 0), true), (5, .aload_n 0, 1, .inl (0, 0), false), (6, .getfield 80, 3, .inl (5, 5), false), (9, .if_icmp .ge 61, 3, .inl (70, 0), false), (12, .iload_n 2, 1, .inl (2, 0), false), (13, .iload_n 1, 1, .inl (1, 0), false), (14, .iconst 1, 1, .inr (.inr 0), false), (15, .if_icmp .ne 13, 3, .inl (28, 0), false), (18, .aload_n 0, 1, .inl (0, 0), false), (19, .getfield 17, 3, .inl (5, 6), false), (22, .iload_n 3, 1, .inl (3, 0), false), (23, .iaload, 1, .inr (.inr 0), false), (24, .iconst 1, 1, .inr (.inr 0), false), (25, .if_icmp .eq 32, 3, .inl (57, 0), false), (28, .iload_n 1, 1, .inl (1, 0), false), (29, .iconst 2, 1, .inr (.inr 0), false), (30, .if_icmp .ne 13, 3, .inl (43, 0), false), (33, .aload_n 0, 1, .inl (0, 0), false), (34, .getfield 17, 3, .inl (5, 6), false), (37, .iload_n 3, 1, .inl (3, 0), false), (38, .iaload, 1, .inr (.inr 0), false), (39, .iconst 2, 1, .inr (.inr 0), false), (40, .if_icmp .eq 17, 3, .inl (57, 0), false), (43, .iload_n 1, 1, .inl (1, 0), false), (44, .iconst 3, 1, .inr (.inr 0), false), (45, .if_icmp .ne 16, 3, .inl (61, 0), false), (48, .aload_n 0, 1, .inl (0, 0), false), (49, .getfield 17, 3, .inl (5, 6), false), (52, .iload_n 3, 1, .inl (3, 0), false), (53, .iaload, 1, .inr (.inr 0), false), (54, .ifCond .ne 7, 3, .inl (61, 0), false), (57, .iconst 1, 1, .inr (.inr 0), false), (58, .goto 4, 3, .inl (62, 0), false), (61, .iconst 0, 1, .inr (.inr 0), false), (62, .iadd, 1, .inr (.inr 0), false), (63, .istore_n 2, 1, .inl (2, 0), false), (64, .iinc 3 1, 3, .inl (3, 0), false), (67, .goto (-63), 3, .inl (4, 0), false), (70, .iload_n 1, 1, .inl (1, 0), false), (71, .ifCond .ne 10, 3, .inl (81, 0), false), (74, .aload_n 0, 1, .inl (0, 0), false), (75, .getfield 80, 3, .inl (5, 5), false), (78, .goto 29, 3, .inl (107, 0), false), (81, .iload_n 1, 1, .inl (1, 0), false), (82, .iconst 4, 1, .inr (.inr 0), false), (83, .if_icmp .ne 10, 3, .inl (93, 0), false), (86, .aload_n 0, 1, .inl (0, 0), false), (87, .invokevirtual 91, 3, .inr (.inl (5, 0, mq_Mo_worlds)), false), (90, .goto 17, 3, .inl (107, 0), false), (93, .iload_n 1, 1, .inl (1, 0), false), (94, .iconst 1, 1, .inr (.inr 0), false), (95, .iconst 3, 1, .inr (.inr 0), false), (96, .invokestatic 83, 3, .inr (.inl (100, 3, mq_Mo_in)), false), (99, .ifCond .eq 7, 3, .inl (106, 0), false), (102, .iload_n 2, 1, .inl (2, 0), false), (103, .goto 4, 3, .inl (107, 0), false), (106, .iconst (-1), 1, .inr (.inr 0), false), (107, .ireturn, 1, .inr (.inr 0), false)]
theorem tk_Mo_count : sc_ok mq_Mo_count tb_Mo_count = true := by decide +kernel
theorem lk_Mo_count_0 : sc_lk tb_Mo_count 0 = some (.iconst 0, 1, .inr (.inr 0), false) := rfl
theorem lk_Mo_count_1 : sc_lk tb_Mo_count 1 = some (.istore_n 2, 1, .inl (2, 0), false) := rfl
theorem lk_Mo_count_2 : sc_lk tb_Mo_count 2 = some (.iconst 0, 1, .inr (.inr 0), false) := rfl
theorem lk_Mo_count_3 : sc_lk tb_Mo_count 3 = some (.istore_n 3, 1, .inl (3, 0), false) := rfl
theorem lk_Mo_count_4 : sc_lk tb_Mo_count 4 = some (.iload_n 3, 1, .inl (3, 0), true) := rfl
theorem lk_Mo_count_5 : sc_lk tb_Mo_count 5 = some (.aload_n 0, 1, .inl (0, 0), false) := rfl
theorem lk_Mo_count_6 : sc_lk tb_Mo_count 6 = some (.getfield 80, 3, .inl (5, 5), false) := rfl
theorem lk_Mo_count_9 : sc_lk tb_Mo_count 9 = some (.if_icmp .ge 61, 3, .inl (70, 0), false) := rfl
theorem lk_Mo_count_12 : sc_lk tb_Mo_count 12 = some (.iload_n 2, 1, .inl (2, 0), false) := rfl
theorem lk_Mo_count_13 : sc_lk tb_Mo_count 13 = some (.iload_n 1, 1, .inl (1, 0), false) := rfl
theorem lk_Mo_count_14 : sc_lk tb_Mo_count 14 = some (.iconst 1, 1, .inr (.inr 0), false) := rfl
theorem lk_Mo_count_15 : sc_lk tb_Mo_count 15 = some (.if_icmp .ne 13, 3, .inl (28, 0), false) := rfl
theorem lk_Mo_count_18 : sc_lk tb_Mo_count 18 = some (.aload_n 0, 1, .inl (0, 0), false) := rfl
theorem lk_Mo_count_19 : sc_lk tb_Mo_count 19 = some (.getfield 17, 3, .inl (5, 6), false) := rfl
theorem lk_Mo_count_22 : sc_lk tb_Mo_count 22 = some (.iload_n 3, 1, .inl (3, 0), false) := rfl
theorem lk_Mo_count_23 : sc_lk tb_Mo_count 23 = some (.iaload, 1, .inr (.inr 0), false) := rfl
theorem lk_Mo_count_24 : sc_lk tb_Mo_count 24 = some (.iconst 1, 1, .inr (.inr 0), false) := rfl
theorem lk_Mo_count_25 : sc_lk tb_Mo_count 25 = some (.if_icmp .eq 32, 3, .inl (57, 0), false) := rfl
theorem lk_Mo_count_28 : sc_lk tb_Mo_count 28 = some (.iload_n 1, 1, .inl (1, 0), false) := rfl
theorem lk_Mo_count_29 : sc_lk tb_Mo_count 29 = some (.iconst 2, 1, .inr (.inr 0), false) := rfl
theorem lk_Mo_count_30 : sc_lk tb_Mo_count 30 = some (.if_icmp .ne 13, 3, .inl (43, 0), false) := rfl
theorem lk_Mo_count_33 : sc_lk tb_Mo_count 33 = some (.aload_n 0, 1, .inl (0, 0), false) := rfl
theorem lk_Mo_count_34 : sc_lk tb_Mo_count 34 = some (.getfield 17, 3, .inl (5, 6), false) := rfl
theorem lk_Mo_count_37 : sc_lk tb_Mo_count 37 = some (.iload_n 3, 1, .inl (3, 0), false) := rfl
theorem lk_Mo_count_38 : sc_lk tb_Mo_count 38 = some (.iaload, 1, .inr (.inr 0), false) := rfl
theorem lk_Mo_count_39 : sc_lk tb_Mo_count 39 = some (.iconst 2, 1, .inr (.inr 0), false) := rfl
theorem lk_Mo_count_40 : sc_lk tb_Mo_count 40 = some (.if_icmp .eq 17, 3, .inl (57, 0), false) := rfl
theorem lk_Mo_count_43 : sc_lk tb_Mo_count 43 = some (.iload_n 1, 1, .inl (1, 0), false) := rfl
theorem lk_Mo_count_44 : sc_lk tb_Mo_count 44 = some (.iconst 3, 1, .inr (.inr 0), false) := rfl
theorem lk_Mo_count_45 : sc_lk tb_Mo_count 45 = some (.if_icmp .ne 16, 3, .inl (61, 0), false) := rfl
theorem lk_Mo_count_48 : sc_lk tb_Mo_count 48 = some (.aload_n 0, 1, .inl (0, 0), false) := rfl
theorem lk_Mo_count_49 : sc_lk tb_Mo_count 49 = some (.getfield 17, 3, .inl (5, 6), false) := rfl
theorem lk_Mo_count_52 : sc_lk tb_Mo_count 52 = some (.iload_n 3, 1, .inl (3, 0), false) := rfl
theorem lk_Mo_count_53 : sc_lk tb_Mo_count 53 = some (.iaload, 1, .inr (.inr 0), false) := rfl
theorem lk_Mo_count_54 : sc_lk tb_Mo_count 54 = some (.ifCond .ne 7, 3, .inl (61, 0), false) := rfl
theorem lk_Mo_count_57 : sc_lk tb_Mo_count 57 = some (.iconst 1, 1, .inr (.inr 0), false) := rfl
theorem lk_Mo_count_58 : sc_lk tb_Mo_count 58 = some (.goto 4, 3, .inl (62, 0), false) := rfl
theorem lk_Mo_count_61 : sc_lk tb_Mo_count 61 = some (.iconst 0, 1, .inr (.inr 0), false) := rfl
theorem lk_Mo_count_62 : sc_lk tb_Mo_count 62 = some (.iadd, 1, .inr (.inr 0), false) := rfl
theorem lk_Mo_count_63 : sc_lk tb_Mo_count 63 = some (.istore_n 2, 1, .inl (2, 0), false) := rfl
theorem lk_Mo_count_64 : sc_lk tb_Mo_count 64 = some (.iinc 3 1, 3, .inl (3, 0), false) := rfl
theorem lk_Mo_count_67 : sc_lk tb_Mo_count 67 = some (.goto (-63), 3, .inl (4, 0), false) := rfl
theorem lk_Mo_count_70 : sc_lk tb_Mo_count 70 = some (.iload_n 1, 1, .inl (1, 0), false) := rfl
theorem lk_Mo_count_71 : sc_lk tb_Mo_count 71 = some (.ifCond .ne 10, 3, .inl (81, 0), false) := rfl
theorem lk_Mo_count_74 : sc_lk tb_Mo_count 74 = some (.aload_n 0, 1, .inl (0, 0), false) := rfl
theorem lk_Mo_count_75 : sc_lk tb_Mo_count 75 = some (.getfield 80, 3, .inl (5, 5), false) := rfl
theorem lk_Mo_count_78 : sc_lk tb_Mo_count 78 = some (.goto 29, 3, .inl (107, 0), false) := rfl
theorem lk_Mo_count_81 : sc_lk tb_Mo_count 81 = some (.iload_n 1, 1, .inl (1, 0), false) := rfl
theorem lk_Mo_count_82 : sc_lk tb_Mo_count 82 = some (.iconst 4, 1, .inr (.inr 0), false) := rfl
theorem lk_Mo_count_83 : sc_lk tb_Mo_count 83 = some (.if_icmp .ne 10, 3, .inl (93, 0), false) := rfl
theorem lk_Mo_count_86 : sc_lk tb_Mo_count 86 = some (.aload_n 0, 1, .inl (0, 0), false) := rfl
theorem lk_Mo_count_87 : sc_lk tb_Mo_count 87 = some (.invokevirtual 91, 3, .inr (.inl (5, 0, mq_Mo_worlds)), false) := rfl
theorem lk_Mo_count_90 : sc_lk tb_Mo_count 90 = some (.goto 17, 3, .inl (107, 0), false) := rfl
theorem lk_Mo_count_93 : sc_lk tb_Mo_count 93 = some (.iload_n 1, 1, .inl (1, 0), false) := rfl
theorem lk_Mo_count_94 : sc_lk tb_Mo_count 94 = some (.iconst 1, 1, .inr (.inr 0), false) := rfl
theorem lk_Mo_count_95 : sc_lk tb_Mo_count 95 = some (.iconst 3, 1, .inr (.inr 0), false) := rfl
theorem lk_Mo_count_96 : sc_lk tb_Mo_count 96 = some (.invokestatic 83, 3, .inr (.inl (100, 3, mq_Mo_in)), false) := rfl
theorem lk_Mo_count_99 : sc_lk tb_Mo_count 99 = some (.ifCond .eq 7, 3, .inl (106, 0), false) := rfl
theorem lk_Mo_count_102 : sc_lk tb_Mo_count 102 = some (.iload_n 2, 1, .inl (2, 0), false) := rfl
theorem lk_Mo_count_103 : sc_lk tb_Mo_count 103 = some (.goto 4, 3, .inl (107, 0), false) := rfl
theorem lk_Mo_count_106 : sc_lk tb_Mo_count 106 = some (.iconst (-1), 1, .inr (.inr 0), false) := rfl
theorem lk_Mo_count_107 : sc_lk tb_Mo_count 107 = some (.ireturn, 1, .inr (.inr 0), false) := rfl
def tb_Mo_finding : sc_T := [(0, .aload_n 0, 1, .inl (0, 0), false), (1, .getfield 71, 3, .inl (5, 0), false), (4, .ireturn, 1, .inr (.inr 0), false)]
theorem tk_Mo_finding : sc_ok mq_Mo_finding tb_Mo_finding = true := by decide +kernel
theorem lk_Mo_finding_0 : sc_lk tb_Mo_finding 0 = some (.aload_n 0, 1, .inl (0, 0), false) := rfl
theorem lk_Mo_finding_1 : sc_lk tb_Mo_finding 1 = some (.getfield 71, 3, .inl (5, 0), false) := rfl
theorem lk_Mo_finding_4 : sc_lk tb_Mo_finding 4 = some (.ireturn, 1, .inr (.inr 0), false) := rfl
def tb_Mo_findings : sc_T := [(0, .iload_n 1, 1, .inl (1, 0), false), (1, .iconst 1, 1, .inr (.inr 0), false), (2, .iconst 5, 1, .inr (.inr 0), false), (3, .invokestatic 83, 3, .inr (.inl (100, 3, mq_Mo_in)), false), (6, .ifCond .eq 12, 3, .inl (18, 0), false), (9, .aload_n 0, 1, .inl (0, 0), false), (10, .getfield 7, 3, .inl (5, 1), false), (13, .iload_n 1, 1, .inl (1, 0), false), (14, .iaload, 1, .inr (.inr 0), false), (15, .goto 4, 3, .inl (19, 0), false), (18, .iconst (-1), 1, .inr (.inr 0), false), (19, .ireturn, 1, .inr (.inr 0), false)]
theorem tk_Mo_findings : sc_ok mq_Mo_findings tb_Mo_findings = true := by decide +kernel
theorem lk_Mo_findings_0 : sc_lk tb_Mo_findings 0 = some (.iload_n 1, 1, .inl (1, 0), false) := rfl
theorem lk_Mo_findings_1 : sc_lk tb_Mo_findings 1 = some (.iconst 1, 1, .inr (.inr 0), false) := rfl
theorem lk_Mo_findings_2 : sc_lk tb_Mo_findings 2 = some (.iconst 5, 1, .inr (.inr 0), false) := rfl
theorem lk_Mo_findings_3 : sc_lk tb_Mo_findings 3 = some (.invokestatic 83, 3, .inr (.inl (100, 3, mq_Mo_in)), false) := rfl
theorem lk_Mo_findings_6 : sc_lk tb_Mo_findings 6 = some (.ifCond .eq 12, 3, .inl (18, 0), false) := rfl
theorem lk_Mo_findings_9 : sc_lk tb_Mo_findings 9 = some (.aload_n 0, 1, .inl (0, 0), false) := rfl
theorem lk_Mo_findings_10 : sc_lk tb_Mo_findings 10 = some (.getfield 7, 3, .inl (5, 1), false) := rfl
theorem lk_Mo_findings_13 : sc_lk tb_Mo_findings 13 = some (.iload_n 1, 1, .inl (1, 0), false) := rfl
theorem lk_Mo_findings_14 : sc_lk tb_Mo_findings 14 = some (.iaload, 1, .inr (.inr 0), false) := rfl
theorem lk_Mo_findings_15 : sc_lk tb_Mo_findings 15 = some (.goto 4, 3, .inl (19, 0), false) := rfl
theorem lk_Mo_findings_18 : sc_lk tb_Mo_findings 18 = some (.iconst (-1), 1, .inr (.inr 0), false) := rfl
theorem lk_Mo_findings_19 : sc_lk tb_Mo_findings 19 = some (.ireturn, 1, .inr (.inr 0), false) := rfl
def tb_Mo_digest : sc_T := [(0, .ldc2_w 202, 3, .inr (.inr (17)), false), (3, .lstore_n 1, 1, .inl (1, 0), false), (4, .iconst 0, 1, .inr (.inr 0), false), (5, .istore_n 3, 1, .inl (3, 0), false), (6, .iload_n 3, 1, .inl (3, 0), true), (7, .aload_n 0, 1, .inl (0, 0), false), (8, .getfield 80, 3, .inl (5, 5), false), (11, .if_icmp .ge 216, 3, .inl (227, 0), false), (14, .iconst 0, 1, .inr (.inr 0), false), (15, .istore 4, 2, .inl (4, 0), false), (17, .iload 4, 2, .inl (4, 0), true), (19, .iconst 4, 1, .inr (.inr 0), false), (20, .if_icmp .gt 24, 3, .inl (44, 0), false), (23, .ldc2_w 204, 3, .inr (.inr (31)), false), (26, .lload_n 1, 1, .inl (1, 0), false), (27, .lmul, 1, .inr (.inr 0), false), (28, .aload_n 0, 1, .inl (0, 0), false), (29, .iload_n 3, 1, .inl (3, 0), false), (30, .iload 4, 2, .inl (4, 0), false), (32, .invokevirtual 123, 3, .inr (.inl (5, 2, mq_Mo_tells)), false), (35, .i2l, 1, .inr (.inr 0), false), (36, .ladd, 1, .inr (.inr 0), false), (37, .lstore_n 1, 1, .inl (1, 0), false), (38, .iinc 4 1, 3, .inl (4, 0), false), (41, .goto (-24), 3, .inl (17, 0), false), (44, .iconst 0, 1, .inr (.inr 0), false), (45, .istore 4, 2, .inl (4, 0), false), (47, .iload 4, 2, .inl (4, 0), true), (49, .aload_n 0, 1, .inl (0, 0), false), (50, .getfield 23, 3, .inl (5, 8), false), (53, .iload_n 3, 1, .inl (3, 0), false), (54, .iaload, 1, .inr (.inr 0), false), (55, .if_icmp .ge 28, 3, .inl (83, 0), false), (58, .ldc2_w 204, 3, .inr (.inr (31)), false), (61, .lload_n 1, 1, .inl (1, 0), false), (62, .lmul, 1, .inr (.inr 0), false), (63, .aload_n 0, 1, .inl (0, 0), false), (64, .getfield 26, 3, .inl (5, 9), false), (67, .iconst 3, 1, .inr (.inr 0), false), (68, .iload_n 3, 1, .inl (3, 0), false), (69, .imul, 1, .inr (.inr 0), false), (70, .iload 4, 2, .inl (4, 0), false), (72, .iadd, 1, .inr (.inr 0), false), (73, .iaload, 1, .inr (.inr 0), false), (74, .i2l, 1, .inr (.inr 0), false), (75, .ladd, 1, .inr (.inr 0), false), (76, .lstore_n 1, 1, .inl (1, 0), false), (77, .iinc 4 1, 3, .inl (4, 0), false), (80, .goto (-33), 3, .inl (47, 0), false), (83, .ldc2_w 204, 3, .inr (.inr (31)), false), (86, .lload_n 1, 1, .inl (1, 0), false), (87, .lmul, 1, .inr (.inr 0), false), (88, .aload_n 0, 1, .inl (0, 0), false), (89, .getfield 29, 3, .inl (5, 10), false), (92, .iload_n 3, 1, .inl (3, 0), false), (93, .iaload, 1, .inr (.inr 0), false), (94, .i2l, 1, .inr (.inr 0), false), (95, .ladd, 1, .inr (.inr 0), false), (96, .lstore_n 1, 1, .inl (1, 0), false), (97, .iconst 0, 1, .inr (.inr 0), false), (98, .istore 4, 2, .inl (4, 0), false), (100, .iload 4, 2, .inl (4, 0), true), (102, .aload_n 0, 1, .inl (0, 0), false), (103, .iload_n 3, 1, .inl (3, 0), false), (104, .invokevirtual 120, 3, .inr (.inl (5, 1, mq_Mo_placesOf)), false), (107, .if_icmp .ge 87, 3, .inl (194, 0), false), (110, .aload_n 0, 1, .inl (0, 0), false), (111, .getfield 17, 3, .inl (5, 6), false), (114, .iload_n 3, 1, .inl (3, 0), false), (115, .iaload, 1, .inr (.inr 0), false), (116, .iconst 1, 1, .inr (.inr 0), false), (117, .if_icmp .ne 12, 3, .inl (129, 0), false), (120, .aload_n 0, 1, .inl (0, 0), false), (121, .getfield 20, 3, .inl (5, 7), false), (124, .iload_n 3, 1, .inl (3, 0), false), (125, .iaload, 1, .inr (.inr 0), false), (126, .goto 4, 3, .inl (130, 0), false), (129, .iconst 1, 1, .inr (.inr 0), false), (130, .istore 5, 2, .inl (5, 0), false), (132, .iconst 0, 1, .inr (.inr 0), false), (133, .istore 6, 2, .inl (6, 0), false), (135, .iload 6, 2, .inl (6, 0), true), (137, .iload 5, 2, .inl (5, 0), false), (139, .if_icmp .ge 49, 3, .inl (188, 0), false), (142, .ldc2_w 204, 3, .inr (.inr (31)), false), (145, .lload_n 1, 1, .inl (1, 0), false), (146, .lmul, 1, .inr (.inr 0), false), (147, .aload_n 0, 1, .inl (0, 0), false), (148, .getfield 35, 3, .inl (5, 12), false), (151, .bipush 27, 2, .inr (.inr 0), false), (153, .iload_n 3, 1, .inl (3, 0), false), (154, .imul, 1, .inr (.inr 0), false), (155, .aload_n 0, 1, .inl (0, 0), false), (156, .getfield 17, 3, .inl (5, 6), false), (159, .iload_n 3, 1, .inl (3, 0), false), (160, .iaload, 1, .inr (.inr 0), false), (161, .iconst 1, 1, .inr (.inr 0), false), (162, .if_icmp .ne 13, 3, .inl (175, 0), false), (165, .iconst 3, 1, .inr (.inr 0), false), (166, .iload 4, 2, .inl (4, 0), false), (168, .imul, 1, .inr (.inr 0), false), (169, .iload 6, 2, .inl (6, 0), false), (171, .iadd, 1, .inr (.inr 0), false), (172, .goto 5, 3, .inl (177, 0), false), (175, .iload 4, 2, .inl (4, 0), false), (177, .iadd, 1, .inr (.inr 0), false), (178, .iaload, 1, .inr (.inr 0), false), (179, .i2l, 1, .inr (.inr 0), false), (180, .ladd, 1, .inr (.inr 0), false), (181, .lstore_n 1, 1, .inl (1, 0), false), (182, .iinc 6 1, 3, .inl (6, 0), false), (185, .goto (-50), 3, .inl (135, 0), false), (188, .iinc 4 1, 3, .inl (4, 0), false), (191, .goto (-91), 3, .inl (100, 0), false), (194, .aload_n 0, 1, .inl (0, 0), false), (195, .getfield 32, 3, .inl (5, 11), false), (198, .iload_n 3, 1, .inl (3, 0), false), (199, .iaload, 1, .inr (.inr 0), false), (200, .ifCond .lt 19, 3, .inl (219, 0), false), (203, .ldc2_w 204, 3, .inr (.inr (31)), false), (206, .lload_n 1, 1, .inl (1, 0), false), (207, .lmul, 1, .inr (.inr 0), false), (208, .aload_n 0, 1, .inl (0, 0), false), (209, .getfield 32, 3, .inl (5, 11), false), (212, .iload_n 3, 1, .inl (3, 0), false), (213, .iaload, 1, .inr (.inr 0), false), (214, .i2l, 1, .inr (.inr 0), false), (215, .ladd, 1, .inr (.inr 0), false), (216, .goto 4, 3, .inl (220, 0), false), (219, .lload_n 1, 1, .inl (1, 0), false), (220, .lstore_n 1, 1, .inl (1, 0), false), (221, .iinc 3 1, 3, .inl (3, 0), false), (224, .goto (-218), 3, .inl (6, 0), false), (227, .iconst 0, 1, .inr (.inr 0), false), (228, .istore_n 3, 1, .inl (3, 0), false), (229, .iload_n 3, 1, .inl (3, 0), true), (230, .iconst 4, 1, .inr (.inr 0), false), (231, .if_icmp .ge 76, 3, .inl (307, 0), false), (234, .ldc2_w 204, 3, .inr (.inr (31)), false), (237, .lload_n 1, 1, .inl (1, 0), false), (238, .lmul, 1, .inr (.inr 0), false), (239, .aload_n 0, 1, .inl (0, 0), false), (240, .getfield 62, 3, .inl (5, 20), false), (243, .iload_n 3, 1, .inl (3, 0), false), (244, .iaload, 1, .inr (.inr 0), false), (245, .ifCond .ge 7, 3, .inl (252, 0), false), (248, .iconst (-1), 1, .inr (.inr 0), false), (249, .goto 9, 3, .inl (258, 0), false), (252, .aload_n 0, 1, .inl (0, 0), false), (253, .getfield 62, 3, .inl (5, 20), false), (256, .iload_n 3, 1, .inl (3, 0), false), (257, .iaload, 1, .inr (.inr 0), false), (258, .i2l, 1, .inr (.inr 0), false), (259, .ladd, 1, .inr (.inr 0), false), (260, .lstore_n 1, 1, .inl (1, 0), false), (261, .iconst 0, 1, .inr (.inr 0), false), (262, .istore 4, 2, .inl (4, 0), false), (264, .iload 4, 2, .inl (4, 0), true), (266, .aload_n 0, 1, .inl (0, 0), false), (267, .getfield 62, 3, .inl (5, 20), false), (270, .iload_n 3, 1, .inl (3, 0), false), (271, .iaload, 1, .inr (.inr 0), false), (272, .if_icmp .ge 29, 3, .inl (301, 0), false), (275, .ldc2_w 204, 3, .inr (.inr (31)), false), (278, .lload_n 1, 1, .inl (1, 0), false), (279, .lmul, 1, .inr (.inr 0), false), (280, .aload_n 0, 1, .inl (0, 0), false), (281, .getfield 65, 3, .inl (5, 21), false), (284, .bipush 27, 2, .inr (.inr 0), false), (286, .iload_n 3, 1, .inl (3, 0), false), (287, .imul, 1, .inr (.inr 0), false), (288, .iload 4, 2, .inl (4, 0), false), (290, .iadd, 1, .inr (.inr 0), false), (291, .iaload, 1, .inr (.inr 0), false), (292, .i2l, 1, .inr (.inr 0), false), (293, .ladd, 1, .inr (.inr 0), false), (294, .lstore_n 1, 1, .inl (1, 0), false), (295, .iinc 4 1, 3, .inl (4, 0), false), (298, .goto (-34), 3, .inl (264, 0), false), (301, .iinc 3 1, 3, .inl (3, 0), false), (304, .goto (-75), 3, .inl (229, 0), false), (307, .lload_n 1, 1, .inl (1, 0), false), (308, .lreturn, 1, .inr (.inr 0), false)]
theorem tk_Mo_digest : sc_ok mq_Mo_digest tb_Mo_digest = true := by decide +kernel
set_option maxRecDepth 20000 in
theorem lk_Mo_digest_0 : sc_lk tb_Mo_digest 0 = some (.ldc2_w 202, 3, .inr (.inr (17)), false) := rfl
set_option maxRecDepth 20000 in
theorem lk_Mo_digest_3 : sc_lk tb_Mo_digest 3 = some (.lstore_n 1, 1, .inl (1, 0), false) := rfl
set_option maxRecDepth 20000 in
theorem lk_Mo_digest_4 : sc_lk tb_Mo_digest 4 = some (.iconst 0, 1, .inr (.inr 0), false) := rfl
set_option maxRecDepth 20000 in
theorem lk_Mo_digest_5 : sc_lk tb_Mo_digest 5 = some (.istore_n 3, 1, .inl (3, 0), false) := rfl
set_option maxRecDepth 20000 in
theorem lk_Mo_digest_6 : sc_lk tb_Mo_digest 6 = some (.iload_n 3, 1, .inl (3, 0), true) := rfl
set_option maxRecDepth 20000 in
theorem lk_Mo_digest_7 : sc_lk tb_Mo_digest 7 = some (.aload_n 0, 1, .inl (0, 0), false) := rfl
set_option maxRecDepth 20000 in
theorem lk_Mo_digest_8 : sc_lk tb_Mo_digest 8 = some (.getfield 80, 3, .inl (5, 5), false) := rfl
set_option maxRecDepth 20000 in
theorem lk_Mo_digest_11 : sc_lk tb_Mo_digest 11 = some (.if_icmp .ge 216, 3, .inl (227, 0), false) := rfl
set_option maxRecDepth 20000 in
theorem lk_Mo_digest_14 : sc_lk tb_Mo_digest 14 = some (.iconst 0, 1, .inr (.inr 0), false) := rfl
set_option maxRecDepth 20000 in
theorem lk_Mo_digest_15 : sc_lk tb_Mo_digest 15 = some (.istore 4, 2, .inl (4, 0), false) := rfl
set_option maxRecDepth 20000 in
theorem lk_Mo_digest_17 : sc_lk tb_Mo_digest 17 = some (.iload 4, 2, .inl (4, 0), true) := rfl
set_option maxRecDepth 20000 in
theorem lk_Mo_digest_19 : sc_lk tb_Mo_digest 19 = some (.iconst 4, 1, .inr (.inr 0), false) := rfl
set_option maxRecDepth 20000 in
theorem lk_Mo_digest_20 : sc_lk tb_Mo_digest 20 = some (.if_icmp .gt 24, 3, .inl (44, 0), false) := rfl
set_option maxRecDepth 20000 in
theorem lk_Mo_digest_23 : sc_lk tb_Mo_digest 23 = some (.ldc2_w 204, 3, .inr (.inr (31)), false) := rfl
set_option maxRecDepth 20000 in
theorem lk_Mo_digest_26 : sc_lk tb_Mo_digest 26 = some (.lload_n 1, 1, .inl (1, 0), false) := rfl
set_option maxRecDepth 20000 in
theorem lk_Mo_digest_27 : sc_lk tb_Mo_digest 27 = some (.lmul, 1, .inr (.inr 0), false) := rfl
set_option maxRecDepth 20000 in
theorem lk_Mo_digest_28 : sc_lk tb_Mo_digest 28 = some (.aload_n 0, 1, .inl (0, 0), false) := rfl
set_option maxRecDepth 20000 in
theorem lk_Mo_digest_29 : sc_lk tb_Mo_digest 29 = some (.iload_n 3, 1, .inl (3, 0), false) := rfl
set_option maxRecDepth 20000 in
theorem lk_Mo_digest_30 : sc_lk tb_Mo_digest 30 = some (.iload 4, 2, .inl (4, 0), false) := rfl
set_option maxRecDepth 20000 in
theorem lk_Mo_digest_32 : sc_lk tb_Mo_digest 32 = some (.invokevirtual 123, 3, .inr (.inl (5, 2, mq_Mo_tells)), false) := rfl
set_option maxRecDepth 20000 in
theorem lk_Mo_digest_35 : sc_lk tb_Mo_digest 35 = some (.i2l, 1, .inr (.inr 0), false) := rfl
set_option maxRecDepth 20000 in
theorem lk_Mo_digest_36 : sc_lk tb_Mo_digest 36 = some (.ladd, 1, .inr (.inr 0), false) := rfl
set_option maxRecDepth 20000 in
theorem lk_Mo_digest_37 : sc_lk tb_Mo_digest 37 = some (.lstore_n 1, 1, .inl (1, 0), false) := rfl
set_option maxRecDepth 20000 in
theorem lk_Mo_digest_38 : sc_lk tb_Mo_digest 38 = some (.iinc 4 1, 3, .inl (4, 0), false) := rfl
set_option maxRecDepth 20000 in
theorem lk_Mo_digest_41 : sc_lk tb_Mo_digest 41 = some (.goto (-24), 3, .inl (17, 0), false) := rfl
set_option maxRecDepth 20000 in
theorem lk_Mo_digest_44 : sc_lk tb_Mo_digest 44 = some (.iconst 0, 1, .inr (.inr 0), false) := rfl
set_option maxRecDepth 20000 in
theorem lk_Mo_digest_45 : sc_lk tb_Mo_digest 45 = some (.istore 4, 2, .inl (4, 0), false) := rfl
set_option maxRecDepth 20000 in
theorem lk_Mo_digest_47 : sc_lk tb_Mo_digest 47 = some (.iload 4, 2, .inl (4, 0), true) := rfl
set_option maxRecDepth 20000 in
theorem lk_Mo_digest_49 : sc_lk tb_Mo_digest 49 = some (.aload_n 0, 1, .inl (0, 0), false) := rfl
set_option maxRecDepth 20000 in
theorem lk_Mo_digest_50 : sc_lk tb_Mo_digest 50 = some (.getfield 23, 3, .inl (5, 8), false) := rfl
set_option maxRecDepth 20000 in
theorem lk_Mo_digest_53 : sc_lk tb_Mo_digest 53 = some (.iload_n 3, 1, .inl (3, 0), false) := rfl
set_option maxRecDepth 20000 in
theorem lk_Mo_digest_54 : sc_lk tb_Mo_digest 54 = some (.iaload, 1, .inr (.inr 0), false) := rfl
set_option maxRecDepth 20000 in
theorem lk_Mo_digest_55 : sc_lk tb_Mo_digest 55 = some (.if_icmp .ge 28, 3, .inl (83, 0), false) := rfl
set_option maxRecDepth 20000 in
theorem lk_Mo_digest_58 : sc_lk tb_Mo_digest 58 = some (.ldc2_w 204, 3, .inr (.inr (31)), false) := rfl
set_option maxRecDepth 20000 in
theorem lk_Mo_digest_61 : sc_lk tb_Mo_digest 61 = some (.lload_n 1, 1, .inl (1, 0), false) := rfl
set_option maxRecDepth 20000 in
theorem lk_Mo_digest_62 : sc_lk tb_Mo_digest 62 = some (.lmul, 1, .inr (.inr 0), false) := rfl
set_option maxRecDepth 20000 in
theorem lk_Mo_digest_63 : sc_lk tb_Mo_digest 63 = some (.aload_n 0, 1, .inl (0, 0), false) := rfl
set_option maxRecDepth 20000 in
theorem lk_Mo_digest_64 : sc_lk tb_Mo_digest 64 = some (.getfield 26, 3, .inl (5, 9), false) := rfl
set_option maxRecDepth 20000 in
theorem lk_Mo_digest_67 : sc_lk tb_Mo_digest 67 = some (.iconst 3, 1, .inr (.inr 0), false) := rfl
set_option maxRecDepth 20000 in
theorem lk_Mo_digest_68 : sc_lk tb_Mo_digest 68 = some (.iload_n 3, 1, .inl (3, 0), false) := rfl
set_option maxRecDepth 20000 in
theorem lk_Mo_digest_69 : sc_lk tb_Mo_digest 69 = some (.imul, 1, .inr (.inr 0), false) := rfl
set_option maxRecDepth 20000 in
theorem lk_Mo_digest_70 : sc_lk tb_Mo_digest 70 = some (.iload 4, 2, .inl (4, 0), false) := rfl
set_option maxRecDepth 20000 in
theorem lk_Mo_digest_72 : sc_lk tb_Mo_digest 72 = some (.iadd, 1, .inr (.inr 0), false) := rfl
set_option maxRecDepth 20000 in
theorem lk_Mo_digest_73 : sc_lk tb_Mo_digest 73 = some (.iaload, 1, .inr (.inr 0), false) := rfl
set_option maxRecDepth 20000 in
theorem lk_Mo_digest_74 : sc_lk tb_Mo_digest 74 = some (.i2l, 1, .inr (.inr 0), false) := rfl
set_option maxRecDepth 20000 in
theorem lk_Mo_digest_75 : sc_lk tb_Mo_digest 75 = some (.ladd, 1, .inr (.inr 0), false) := rfl
set_option maxRecDepth 20000 in
theorem lk_Mo_digest_76 : sc_lk tb_Mo_digest 76 = some (.lstore_n 1, 1, .inl (1, 0), false) := rfl
set_option maxRecDepth 20000 in
theorem lk_Mo_digest_77 : sc_lk tb_Mo_digest 77 = some (.iinc 4 1, 3, .inl (4, 0), false) := rfl
set_option maxRecDepth 20000 in
theorem lk_Mo_digest_80 : sc_lk tb_Mo_digest 80 = some (.goto (-33), 3, .inl (47, 0), false) := rfl
set_option maxRecDepth 20000 in
theorem lk_Mo_digest_83 : sc_lk tb_Mo_digest 83 = some (.ldc2_w 204, 3, .inr (.inr (31)), false) := rfl
set_option maxRecDepth 20000 in
theorem lk_Mo_digest_86 : sc_lk tb_Mo_digest 86 = some (.lload_n 1, 1, .inl (1, 0), false) := rfl
set_option maxRecDepth 20000 in
theorem lk_Mo_digest_87 : sc_lk tb_Mo_digest 87 = some (.lmul, 1, .inr (.inr 0), false) := rfl
set_option maxRecDepth 20000 in
theorem lk_Mo_digest_88 : sc_lk tb_Mo_digest 88 = some (.aload_n 0, 1, .inl (0, 0), false) := rfl
set_option maxRecDepth 20000 in
theorem lk_Mo_digest_89 : sc_lk tb_Mo_digest 89 = some (.getfield 29, 3, .inl (5, 10), false) := rfl
set_option maxRecDepth 20000 in
theorem lk_Mo_digest_92 : sc_lk tb_Mo_digest 92 = some (.iload_n 3, 1, .inl (3, 0), false) := rfl
set_option maxRecDepth 20000 in
theorem lk_Mo_digest_93 : sc_lk tb_Mo_digest 93 = some (.iaload, 1, .inr (.inr 0), false) := rfl
set_option maxRecDepth 20000 in
theorem lk_Mo_digest_94 : sc_lk tb_Mo_digest 94 = some (.i2l, 1, .inr (.inr 0), false) := rfl
set_option maxRecDepth 20000 in
theorem lk_Mo_digest_95 : sc_lk tb_Mo_digest 95 = some (.ladd, 1, .inr (.inr 0), false) := rfl
set_option maxRecDepth 20000 in
theorem lk_Mo_digest_96 : sc_lk tb_Mo_digest 96 = some (.lstore_n 1, 1, .inl (1, 0), false) := rfl
set_option maxRecDepth 20000 in
theorem lk_Mo_digest_97 : sc_lk tb_Mo_digest 97 = some (.iconst 0, 1, .inr (.inr 0), false) := rfl
set_option maxRecDepth 20000 in
theorem lk_Mo_digest_98 : sc_lk tb_Mo_digest 98 = some (.istore 4, 2, .inl (4, 0), false) := rfl
set_option maxRecDepth 20000 in
theorem lk_Mo_digest_100 : sc_lk tb_Mo_digest 100 = some (.iload 4, 2, .inl (4, 0), true) := rfl
set_option maxRecDepth 20000 in
theorem lk_Mo_digest_102 : sc_lk tb_Mo_digest 102 = some (.aload_n 0, 1, .inl (0, 0), false) := rfl
set_option maxRecDepth 20000 in
theorem lk_Mo_digest_103 : sc_lk tb_Mo_digest 103 = some (.iload_n 3, 1, .inl (3, 0), false) := rfl
set_option maxRecDepth 20000 in
theorem lk_Mo_digest_104 : sc_lk tb_Mo_digest 104 = some (.invokevirtual 120, 3, .inr (.inl (5, 1, mq_Mo_placesOf)), false) := rfl
set_option maxRecDepth 20000 in
theorem lk_Mo_digest_107 : sc_lk tb_Mo_digest 107 = some (.if_icmp .ge 87, 3, .inl (194, 0), false) := rfl
set_option maxRecDepth 20000 in
theorem lk_Mo_digest_110 : sc_lk tb_Mo_digest 110 = some (.aload_n 0, 1, .inl (0, 0), false) := rfl
set_option maxRecDepth 20000 in
theorem lk_Mo_digest_111 : sc_lk tb_Mo_digest 111 = some (.getfield 17, 3, .inl (5, 6), false) := rfl
set_option maxRecDepth 20000 in
theorem lk_Mo_digest_114 : sc_lk tb_Mo_digest 114 = some (.iload_n 3, 1, .inl (3, 0), false) := rfl
set_option maxRecDepth 20000 in
theorem lk_Mo_digest_115 : sc_lk tb_Mo_digest 115 = some (.iaload, 1, .inr (.inr 0), false) := rfl
set_option maxRecDepth 20000 in
theorem lk_Mo_digest_116 : sc_lk tb_Mo_digest 116 = some (.iconst 1, 1, .inr (.inr 0), false) := rfl
set_option maxRecDepth 20000 in
theorem lk_Mo_digest_117 : sc_lk tb_Mo_digest 117 = some (.if_icmp .ne 12, 3, .inl (129, 0), false) := rfl
set_option maxRecDepth 20000 in
theorem lk_Mo_digest_120 : sc_lk tb_Mo_digest 120 = some (.aload_n 0, 1, .inl (0, 0), false) := rfl
set_option maxRecDepth 20000 in
theorem lk_Mo_digest_121 : sc_lk tb_Mo_digest 121 = some (.getfield 20, 3, .inl (5, 7), false) := rfl
set_option maxRecDepth 20000 in
theorem lk_Mo_digest_124 : sc_lk tb_Mo_digest 124 = some (.iload_n 3, 1, .inl (3, 0), false) := rfl
set_option maxRecDepth 20000 in
theorem lk_Mo_digest_125 : sc_lk tb_Mo_digest 125 = some (.iaload, 1, .inr (.inr 0), false) := rfl
set_option maxRecDepth 20000 in
theorem lk_Mo_digest_126 : sc_lk tb_Mo_digest 126 = some (.goto 4, 3, .inl (130, 0), false) := rfl
set_option maxRecDepth 20000 in
theorem lk_Mo_digest_129 : sc_lk tb_Mo_digest 129 = some (.iconst 1, 1, .inr (.inr 0), false) := rfl
set_option maxRecDepth 20000 in
theorem lk_Mo_digest_130 : sc_lk tb_Mo_digest 130 = some (.istore 5, 2, .inl (5, 0), false) := rfl
set_option maxRecDepth 20000 in
theorem lk_Mo_digest_132 : sc_lk tb_Mo_digest 132 = some (.iconst 0, 1, .inr (.inr 0), false) := rfl
set_option maxRecDepth 20000 in
theorem lk_Mo_digest_133 : sc_lk tb_Mo_digest 133 = some (.istore 6, 2, .inl (6, 0), false) := rfl
set_option maxRecDepth 20000 in
theorem lk_Mo_digest_135 : sc_lk tb_Mo_digest 135 = some (.iload 6, 2, .inl (6, 0), true) := rfl
set_option maxRecDepth 20000 in
theorem lk_Mo_digest_137 : sc_lk tb_Mo_digest 137 = some (.iload 5, 2, .inl (5, 0), false) := rfl
set_option maxRecDepth 20000 in
theorem lk_Mo_digest_139 : sc_lk tb_Mo_digest 139 = some (.if_icmp .ge 49, 3, .inl (188, 0), false) := rfl
set_option maxRecDepth 20000 in
theorem lk_Mo_digest_142 : sc_lk tb_Mo_digest 142 = some (.ldc2_w 204, 3, .inr (.inr (31)), false) := rfl
set_option maxRecDepth 20000 in
theorem lk_Mo_digest_145 : sc_lk tb_Mo_digest 145 = some (.lload_n 1, 1, .inl (1, 0), false) := rfl
set_option maxRecDepth 20000 in
theorem lk_Mo_digest_146 : sc_lk tb_Mo_digest 146 = some (.lmul, 1, .inr (.inr 0), false) := rfl
set_option maxRecDepth 20000 in
theorem lk_Mo_digest_147 : sc_lk tb_Mo_digest 147 = some (.aload_n 0, 1, .inl (0, 0), false) := rfl
set_option maxRecDepth 20000 in
theorem lk_Mo_digest_148 : sc_lk tb_Mo_digest 148 = some (.getfield 35, 3, .inl (5, 12), false) := rfl
set_option maxRecDepth 20000 in
theorem lk_Mo_digest_151 : sc_lk tb_Mo_digest 151 = some (.bipush 27, 2, .inr (.inr 0), false) := rfl
set_option maxRecDepth 20000 in
theorem lk_Mo_digest_153 : sc_lk tb_Mo_digest 153 = some (.iload_n 3, 1, .inl (3, 0), false) := rfl
set_option maxRecDepth 20000 in
theorem lk_Mo_digest_154 : sc_lk tb_Mo_digest 154 = some (.imul, 1, .inr (.inr 0), false) := rfl
set_option maxRecDepth 20000 in
theorem lk_Mo_digest_155 : sc_lk tb_Mo_digest 155 = some (.aload_n 0, 1, .inl (0, 0), false) := rfl
set_option maxRecDepth 20000 in
theorem lk_Mo_digest_156 : sc_lk tb_Mo_digest 156 = some (.getfield 17, 3, .inl (5, 6), false) := rfl
set_option maxRecDepth 20000 in
theorem lk_Mo_digest_159 : sc_lk tb_Mo_digest 159 = some (.iload_n 3, 1, .inl (3, 0), false) := rfl
set_option maxRecDepth 20000 in
theorem lk_Mo_digest_160 : sc_lk tb_Mo_digest 160 = some (.iaload, 1, .inr (.inr 0), false) := rfl
set_option maxRecDepth 20000 in
theorem lk_Mo_digest_161 : sc_lk tb_Mo_digest 161 = some (.iconst 1, 1, .inr (.inr 0), false) := rfl
set_option maxRecDepth 20000 in
theorem lk_Mo_digest_162 : sc_lk tb_Mo_digest 162 = some (.if_icmp .ne 13, 3, .inl (175, 0), false) := rfl
set_option maxRecDepth 20000 in
theorem lk_Mo_digest_165 : sc_lk tb_Mo_digest 165 = some (.iconst 3, 1, .inr (.inr 0), false) := rfl
set_option maxRecDepth 20000 in
theorem lk_Mo_digest_166 : sc_lk tb_Mo_digest 166 = some (.iload 4, 2, .inl (4, 0), false) := rfl
set_option maxRecDepth 20000 in
theorem lk_Mo_digest_168 : sc_lk tb_Mo_digest 168 = some (.imul, 1, .inr (.inr 0), false) := rfl
set_option maxRecDepth 20000 in
theorem lk_Mo_digest_169 : sc_lk tb_Mo_digest 169 = some (.iload 6, 2, .inl (6, 0), false) := rfl
set_option maxRecDepth 20000 in
theorem lk_Mo_digest_171 : sc_lk tb_Mo_digest 171 = some (.iadd, 1, .inr (.inr 0), false) := rfl
set_option maxRecDepth 20000 in
theorem lk_Mo_digest_172 : sc_lk tb_Mo_digest 172 = some (.goto 5, 3, .inl (177, 0), false) := rfl
set_option maxRecDepth 20000 in
theorem lk_Mo_digest_175 : sc_lk tb_Mo_digest 175 = some (.iload 4, 2, .inl (4, 0), false) := rfl
set_option maxRecDepth 20000 in
theorem lk_Mo_digest_177 : sc_lk tb_Mo_digest 177 = some (.iadd, 1, .inr (.inr 0), false) := rfl
set_option maxRecDepth 20000 in
theorem lk_Mo_digest_178 : sc_lk tb_Mo_digest 178 = some (.iaload, 1, .inr (.inr 0), false) := rfl
set_option maxRecDepth 20000 in
theorem lk_Mo_digest_179 : sc_lk tb_Mo_digest 179 = some (.i2l, 1, .inr (.inr 0), false) := rfl
set_option maxRecDepth 20000 in
theorem lk_Mo_digest_180 : sc_lk tb_Mo_digest 180 = some (.ladd, 1, .inr (.inr 0), false) := rfl
set_option maxRecDepth 20000 in
theorem lk_Mo_digest_181 : sc_lk tb_Mo_digest 181 = some (.lstore_n 1, 1, .inl (1, 0), false) := rfl
set_option maxRecDepth 20000 in
theorem lk_Mo_digest_182 : sc_lk tb_Mo_digest 182 = some (.iinc 6 1, 3, .inl (6, 0), false) := rfl
set_option maxRecDepth 20000 in
theorem lk_Mo_digest_185 : sc_lk tb_Mo_digest 185 = some (.goto (-50), 3, .inl (135, 0), false) := rfl
set_option maxRecDepth 20000 in
theorem lk_Mo_digest_188 : sc_lk tb_Mo_digest 188 = some (.iinc 4 1, 3, .inl (4, 0), false) := rfl
set_option maxRecDepth 20000 in
theorem lk_Mo_digest_191 : sc_lk tb_Mo_digest 191 = some (.goto (-91), 3, .inl (100, 0), false) := rfl
set_option maxRecDepth 20000 in
theorem lk_Mo_digest_194 : sc_lk tb_Mo_digest 194 = some (.aload_n 0, 1, .inl (0, 0), false) := rfl
set_option maxRecDepth 20000 in
theorem lk_Mo_digest_195 : sc_lk tb_Mo_digest 195 = some (.getfield 32, 3, .inl (5, 11), false) := rfl
set_option maxRecDepth 20000 in
theorem lk_Mo_digest_198 : sc_lk tb_Mo_digest 198 = some (.iload_n 3, 1, .inl (3, 0), false) := rfl
set_option maxRecDepth 20000 in
theorem lk_Mo_digest_199 : sc_lk tb_Mo_digest 199 = some (.iaload, 1, .inr (.inr 0), false) := rfl
set_option maxRecDepth 20000 in
theorem lk_Mo_digest_200 : sc_lk tb_Mo_digest 200 = some (.ifCond .lt 19, 3, .inl (219, 0), false) := rfl
set_option maxRecDepth 20000 in
theorem lk_Mo_digest_203 : sc_lk tb_Mo_digest 203 = some (.ldc2_w 204, 3, .inr (.inr (31)), false) := rfl
set_option maxRecDepth 20000 in
theorem lk_Mo_digest_206 : sc_lk tb_Mo_digest 206 = some (.lload_n 1, 1, .inl (1, 0), false) := rfl
set_option maxRecDepth 20000 in
theorem lk_Mo_digest_207 : sc_lk tb_Mo_digest 207 = some (.lmul, 1, .inr (.inr 0), false) := rfl
set_option maxRecDepth 20000 in
theorem lk_Mo_digest_208 : sc_lk tb_Mo_digest 208 = some (.aload_n 0, 1, .inl (0, 0), false) := rfl
set_option maxRecDepth 20000 in
theorem lk_Mo_digest_209 : sc_lk tb_Mo_digest 209 = some (.getfield 32, 3, .inl (5, 11), false) := rfl
set_option maxRecDepth 20000 in
theorem lk_Mo_digest_212 : sc_lk tb_Mo_digest 212 = some (.iload_n 3, 1, .inl (3, 0), false) := rfl
set_option maxRecDepth 20000 in
theorem lk_Mo_digest_213 : sc_lk tb_Mo_digest 213 = some (.iaload, 1, .inr (.inr 0), false) := rfl
set_option maxRecDepth 20000 in
theorem lk_Mo_digest_214 : sc_lk tb_Mo_digest 214 = some (.i2l, 1, .inr (.inr 0), false) := rfl
set_option maxRecDepth 20000 in
theorem lk_Mo_digest_215 : sc_lk tb_Mo_digest 215 = some (.ladd, 1, .inr (.inr 0), false) := rfl
set_option maxRecDepth 20000 in
theorem lk_Mo_digest_216 : sc_lk tb_Mo_digest 216 = some (.goto 4, 3, .inl (220, 0), false) := rfl
set_option maxRecDepth 20000 in
theorem lk_Mo_digest_219 : sc_lk tb_Mo_digest 219 = some (.lload_n 1, 1, .inl (1, 0), false) := rfl
set_option maxRecDepth 20000 in
theorem lk_Mo_digest_220 : sc_lk tb_Mo_digest 220 = some (.lstore_n 1, 1, .inl (1, 0), false) := rfl
set_option maxRecDepth 20000 in
theorem lk_Mo_digest_221 : sc_lk tb_Mo_digest 221 = some (.iinc 3 1, 3, .inl (3, 0), false) := rfl
set_option maxRecDepth 20000 in
theorem lk_Mo_digest_224 : sc_lk tb_Mo_digest 224 = some (.goto (-218), 3, .inl (6, 0), false) := rfl
set_option maxRecDepth 20000 in
theorem lk_Mo_digest_227 : sc_lk tb_Mo_digest 227 = some (.iconst 0, 1, .inr (.inr 0), false) := rfl
set_option maxRecDepth 20000 in
theorem lk_Mo_digest_228 : sc_lk tb_Mo_digest 228 = some (.istore_n 3, 1, .inl (3, 0), false) := rfl
set_option maxRecDepth 20000 in
theorem lk_Mo_digest_229 : sc_lk tb_Mo_digest 229 = some (.iload_n 3, 1, .inl (3, 0), true) := rfl
set_option maxRecDepth 20000 in
theorem lk_Mo_digest_230 : sc_lk tb_Mo_digest 230 = some (.iconst 4, 1, .inr (.inr 0), false) := rfl
set_option maxRecDepth 20000 in
theorem lk_Mo_digest_231 : sc_lk tb_Mo_digest 231 = some (.if_icmp .ge 76, 3, .inl (307, 0), false) := rfl
set_option maxRecDepth 20000 in
theorem lk_Mo_digest_234 : sc_lk tb_Mo_digest 234 = some (.ldc2_w 204, 3, .inr (.inr (31)), false) := rfl
set_option maxRecDepth 20000 in
theorem lk_Mo_digest_237 : sc_lk tb_Mo_digest 237 = some (.lload_n 1, 1, .inl (1, 0), false) := rfl
set_option maxRecDepth 20000 in
theorem lk_Mo_digest_238 : sc_lk tb_Mo_digest 238 = some (.lmul, 1, .inr (.inr 0), false) := rfl
set_option maxRecDepth 20000 in
theorem lk_Mo_digest_239 : sc_lk tb_Mo_digest 239 = some (.aload_n 0, 1, .inl (0, 0), false) := rfl
set_option maxRecDepth 20000 in
theorem lk_Mo_digest_240 : sc_lk tb_Mo_digest 240 = some (.getfield 62, 3, .inl (5, 20), false) := rfl
set_option maxRecDepth 20000 in
theorem lk_Mo_digest_243 : sc_lk tb_Mo_digest 243 = some (.iload_n 3, 1, .inl (3, 0), false) := rfl
set_option maxRecDepth 20000 in
theorem lk_Mo_digest_244 : sc_lk tb_Mo_digest 244 = some (.iaload, 1, .inr (.inr 0), false) := rfl
set_option maxRecDepth 20000 in
theorem lk_Mo_digest_245 : sc_lk tb_Mo_digest 245 = some (.ifCond .ge 7, 3, .inl (252, 0), false) := rfl
set_option maxRecDepth 20000 in
theorem lk_Mo_digest_248 : sc_lk tb_Mo_digest 248 = some (.iconst (-1), 1, .inr (.inr 0), false) := rfl
set_option maxRecDepth 20000 in
theorem lk_Mo_digest_249 : sc_lk tb_Mo_digest 249 = some (.goto 9, 3, .inl (258, 0), false) := rfl
set_option maxRecDepth 20000 in
theorem lk_Mo_digest_252 : sc_lk tb_Mo_digest 252 = some (.aload_n 0, 1, .inl (0, 0), false) := rfl
set_option maxRecDepth 20000 in
theorem lk_Mo_digest_253 : sc_lk tb_Mo_digest 253 = some (.getfield 62, 3, .inl (5, 20), false) := rfl
set_option maxRecDepth 20000 in
theorem lk_Mo_digest_256 : sc_lk tb_Mo_digest 256 = some (.iload_n 3, 1, .inl (3, 0), false) := rfl
set_option maxRecDepth 20000 in
theorem lk_Mo_digest_257 : sc_lk tb_Mo_digest 257 = some (.iaload, 1, .inr (.inr 0), false) := rfl
set_option maxRecDepth 20000 in
theorem lk_Mo_digest_258 : sc_lk tb_Mo_digest 258 = some (.i2l, 1, .inr (.inr 0), false) := rfl
set_option maxRecDepth 20000 in
theorem lk_Mo_digest_259 : sc_lk tb_Mo_digest 259 = some (.ladd, 1, .inr (.inr 0), false) := rfl
set_option maxRecDepth 20000 in
theorem lk_Mo_digest_260 : sc_lk tb_Mo_digest 260 = some (.lstore_n 1, 1, .inl (1, 0), false) := rfl
set_option maxRecDepth 20000 in
theorem lk_Mo_digest_261 : sc_lk tb_Mo_digest 261 = some (.iconst 0, 1, .inr (.inr 0), false) := rfl
set_option maxRecDepth 20000 in
theorem lk_Mo_digest_262 : sc_lk tb_Mo_digest 262 = some (.istore 4, 2, .inl (4, 0), false) := rfl
set_option maxRecDepth 20000 in
theorem lk_Mo_digest_264 : sc_lk tb_Mo_digest 264 = some (.iload 4, 2, .inl (4, 0), true) := rfl
set_option maxRecDepth 20000 in
theorem lk_Mo_digest_266 : sc_lk tb_Mo_digest 266 = some (.aload_n 0, 1, .inl (0, 0), false) := rfl
set_option maxRecDepth 20000 in
theorem lk_Mo_digest_267 : sc_lk tb_Mo_digest 267 = some (.getfield 62, 3, .inl (5, 20), false) := rfl
set_option maxRecDepth 20000 in
theorem lk_Mo_digest_270 : sc_lk tb_Mo_digest 270 = some (.iload_n 3, 1, .inl (3, 0), false) := rfl
set_option maxRecDepth 20000 in
theorem lk_Mo_digest_271 : sc_lk tb_Mo_digest 271 = some (.iaload, 1, .inr (.inr 0), false) := rfl
set_option maxRecDepth 20000 in
theorem lk_Mo_digest_272 : sc_lk tb_Mo_digest 272 = some (.if_icmp .ge 29, 3, .inl (301, 0), false) := rfl
set_option maxRecDepth 20000 in
theorem lk_Mo_digest_275 : sc_lk tb_Mo_digest 275 = some (.ldc2_w 204, 3, .inr (.inr (31)), false) := rfl
set_option maxRecDepth 20000 in
theorem lk_Mo_digest_278 : sc_lk tb_Mo_digest 278 = some (.lload_n 1, 1, .inl (1, 0), false) := rfl
set_option maxRecDepth 20000 in
theorem lk_Mo_digest_279 : sc_lk tb_Mo_digest 279 = some (.lmul, 1, .inr (.inr 0), false) := rfl
set_option maxRecDepth 20000 in
theorem lk_Mo_digest_280 : sc_lk tb_Mo_digest 280 = some (.aload_n 0, 1, .inl (0, 0), false) := rfl
set_option maxRecDepth 20000 in
theorem lk_Mo_digest_281 : sc_lk tb_Mo_digest 281 = some (.getfield 65, 3, .inl (5, 21), false) := rfl
set_option maxRecDepth 20000 in
theorem lk_Mo_digest_284 : sc_lk tb_Mo_digest 284 = some (.bipush 27, 2, .inr (.inr 0), false) := rfl
set_option maxRecDepth 20000 in
theorem lk_Mo_digest_286 : sc_lk tb_Mo_digest 286 = some (.iload_n 3, 1, .inl (3, 0), false) := rfl
set_option maxRecDepth 20000 in
theorem lk_Mo_digest_287 : sc_lk tb_Mo_digest 287 = some (.imul, 1, .inr (.inr 0), false) := rfl
set_option maxRecDepth 20000 in
theorem lk_Mo_digest_288 : sc_lk tb_Mo_digest 288 = some (.iload 4, 2, .inl (4, 0), false) := rfl
set_option maxRecDepth 20000 in
theorem lk_Mo_digest_290 : sc_lk tb_Mo_digest 290 = some (.iadd, 1, .inr (.inr 0), false) := rfl
set_option maxRecDepth 20000 in
theorem lk_Mo_digest_291 : sc_lk tb_Mo_digest 291 = some (.iaload, 1, .inr (.inr 0), false) := rfl
set_option maxRecDepth 20000 in
theorem lk_Mo_digest_292 : sc_lk tb_Mo_digest 292 = some (.i2l, 1, .inr (.inr 0), false) := rfl
set_option maxRecDepth 20000 in
theorem lk_Mo_digest_293 : sc_lk tb_Mo_digest 293 = some (.ladd, 1, .inr (.inr 0), false) := rfl
set_option maxRecDepth 20000 in
theorem lk_Mo_digest_294 : sc_lk tb_Mo_digest 294 = some (.lstore_n 1, 1, .inl (1, 0), false) := rfl
set_option maxRecDepth 20000 in
theorem lk_Mo_digest_295 : sc_lk tb_Mo_digest 295 = some (.iinc 4 1, 3, .inl (4, 0), false) := rfl
set_option maxRecDepth 20000 in
theorem lk_Mo_digest_298 : sc_lk tb_Mo_digest 298 = some (.goto (-34), 3, .inl (264, 0), false) := rfl
set_option maxRecDepth 20000 in
theorem lk_Mo_digest_301 : sc_lk tb_Mo_digest 301 = some (.iinc 3 1, 3, .inl (3, 0), false) := rfl
set_option maxRecDepth 20000 in
theorem lk_Mo_digest_304 : sc_lk tb_Mo_digest 304 = some (.goto (-75), 3, .inl (229, 0), false) := rfl
set_option maxRecDepth 20000 in
theorem lk_Mo_digest_307 : sc_lk tb_Mo_digest 307 = some (.lload_n 1, 1, .inl (1, 0), false) := rfl
set_option maxRecDepth 20000 in
theorem lk_Mo_digest_308 : sc_lk tb_Mo_digest 308 = some (.lreturn, 1, .inr (.inr 0), false) := rfl
