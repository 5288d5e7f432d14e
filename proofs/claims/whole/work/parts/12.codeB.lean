def tb_Wo_takeChart : sc_T := [(0, .aload_n 0, 1, .inl (0, 0), false), (1, .bipush (-9), 2, .inr (.inr 0), false), (3, .putfield 44, 3, .inl (3, 11), false), (6, .iconst 0, 1, .inr (.inr 0), false), (7, .istore_n 1, 1, .inl (1, 0), false), (8, .iload_n 1, 1, .inl (1, 0), true), (9, .bipush 10, 2, .inr (.inr 0), false), (11, .if_icmp .ge 27, 3, .inl (38, 0), false), (14, .aload_n 0, 1, .inl (0, 0), false), (15, .getfield 18, 3, .inl (3, 1), false), (18, .iload_n 1, 1, .inl (1, 0), false), (19, .aload_n 0, 1, .inl (0, 0), false), (20, .getfield 12, 3, .inl (3, 0), false), (23, .getfield 48, 3, .inl (0, 0), false), (26, .iload_n 1, 1, .inl (1, 0), false), (27, .aaload, 1, .inr (.inr 0), false), (28, .getfield 52, 3, .inl (2, 4), false), (31, .iastore, 1, .inr (.inr 0), false), (32, .iinc 1 1, 3, .inl (1, 0), false), (35, .goto (-27), 3, .inl (8, 0), false), (38, .return_, 1, .inr (.inr 0), false)]
theorem tk_Wo_takeChart : sc_ok mq_Wo_takeChart tb_Wo_takeChart = true := by decide +kernel
theorem lk_Wo_takeChart_0 : sc_lk tb_Wo_takeChart 0 = some (.aload_n 0, 1, .inl (0, 0), false) := rfl
theorem lk_Wo_takeChart_1 : sc_lk tb_Wo_takeChart 1 = some (.bipush (-9), 2, .inr (.inr 0), false) := rfl
theorem lk_Wo_takeChart_3 : sc_lk tb_Wo_takeChart 3 = some (.putfield 44, 3, .inl (3, 11), false) := rfl
theorem lk_Wo_takeChart_6 : sc_lk tb_Wo_takeChart 6 = some (.iconst 0, 1, .inr (.inr 0), false) := rfl
theorem lk_Wo_takeChart_7 : sc_lk tb_Wo_takeChart 7 = some (.istore_n 1, 1, .inl (1, 0), false) := rfl
theorem lk_Wo_takeChart_8 : sc_lk tb_Wo_takeChart 8 = some (.iload_n 1, 1, .inl (1, 0), true) := rfl
theorem lk_Wo_takeChart_9 : sc_lk tb_Wo_takeChart 9 = some (.bipush 10, 2, .inr (.inr 0), false) := rfl
theorem lk_Wo_takeChart_11 : sc_lk tb_Wo_takeChart 11 = some (.if_icmp .ge 27, 3, .inl (38, 0), false) := rfl
theorem lk_Wo_takeChart_14 : sc_lk tb_Wo_takeChart 14 = some (.aload_n 0, 1, .inl (0, 0), false) := rfl
theorem lk_Wo_takeChart_15 : sc_lk tb_Wo_takeChart 15 = some (.getfield 18, 3, .inl (3, 1), false) := rfl
theorem lk_Wo_takeChart_18 : sc_lk tb_Wo_takeChart 18 = some (.iload_n 1, 1, .inl (1, 0), false) := rfl
theorem lk_Wo_takeChart_19 : sc_lk tb_Wo_takeChart 19 = some (.aload_n 0, 1, .inl (0, 0), false) := rfl
theorem lk_Wo_takeChart_20 : sc_lk tb_Wo_takeChart 20 = some (.getfield 12, 3, .inl (3, 0), false) := rfl
theorem lk_Wo_takeChart_23 : sc_lk tb_Wo_takeChart 23 = some (.getfield 48, 3, .inl (0, 0), false) := rfl
theorem lk_Wo_takeChart_26 : sc_lk tb_Wo_takeChart 26 = some (.iload_n 1, 1, .inl (1, 0), false) := rfl
theorem lk_Wo_takeChart_27 : sc_lk tb_Wo_takeChart 27 = some (.aaload, 1, .inr (.inr 0), false) := rfl
theorem lk_Wo_takeChart_28 : sc_lk tb_Wo_takeChart 28 = some (.getfield 52, 3, .inl (2, 4), false) := rfl
theorem lk_Wo_takeChart_31 : sc_lk tb_Wo_takeChart 31 = some (.iastore, 1, .inr (.inr 0), false) := rfl
theorem lk_Wo_takeChart_32 : sc_lk tb_Wo_takeChart 32 = some (.iinc 1 1, 3, .inl (1, 0), false) := rfl
theorem lk_Wo_takeChart_35 : sc_lk tb_Wo_takeChart 35 = some (.goto (-27), 3, .inl (8, 0), false) := rfl
theorem lk_Wo_takeChart_38 : sc_lk tb_Wo_takeChart 38 = some (.return_, 1, .inr (.inr 0), false) := rfl
def tb_Wo_greatest : sc_T := [(0, .aload_n 0, 1, .inl (0, 0), false), (1, .invokevirtual 113, 3, .inr (.inl (3, 0, mq_Wo_layOut)), false), (4, .aload_n 0, 1, .inl (0, 0), false), (5, .iconst (-1), 1, .inr (.inr 0), false), (6, .invokevirtual 116, 3, .inr (.inl (3, 1, mq_Wo_settleBehind)), false), (9, .lconst 0, 1, .inr (.inr 0), false), (10, .lstore_n 1, 1, .inl (1, 0), false), (11, .iconst 0, 1, .inr (.inr 0), false), (12, .istore_n 3, 1, .inl (3, 0), false), (13, .iload_n 3, 1, .inl (3, 0), true), (14, .aload_n 0, 1, .inl (0, 0), false), (15, .getfield 82, 3, .inl (3, 10), false), (18, .if_icmp .ge 27, 3, .inl (45, 0), false), (21, .lload_n 1, 1, .inl (1, 0), false), (22, .aload_n 0, 1, .inl (0, 0), false), (23, .getfield 25, 3, .inl (3, 3), false), (26, .iload_n 3, 1, .inl (3, 0), false), (27, .iaload, 1, .inr (.inr 0), false), (28, .i2l, 1, .inr (.inr 0), false), (29, .aload_n 0, 1, .inl (0, 0), false), (30, .getfield 28, 3, .inl (3, 4), false), (33, .iload_n 3, 1, .inl (3, 0), false), (34, .iaload, 1, .inr (.inr 0), false), (35, .i2l, 1, .inr (.inr 0), false), (36, .lmul, 1, .inr (.inr 0), false), (37, .ladd, 1, .inr (.inr 0), false), (38, .lstore_n 1, 1, .inl (1, 0), false), (39, .iinc 3 1, 3, .inl (3, 0), false), (42, .goto (-29), 3, .inl (13, 0), false), (45, .lload_n 1, 1, .inl (1, 0), false), (46, .lreturn, 1, .inr (.inr 0), false)]
theorem tk_Wo_greatest : sc_ok mq_Wo_greatest tb_Wo_greatest = true := by decide +kernel
theorem lk_Wo_greatest_0 : sc_lk tb_Wo_greatest 0 = some (.aload_n 0, 1, .inl (0, 0), false) := rfl
theorem lk_Wo_greatest_1 : sc_lk tb_Wo_greatest 1 = some (.invokevirtual 113, 3, .inr (.inl (3, 0, mq_Wo_layOut)), false) := rfl
theorem lk_Wo_greatest_4 : sc_lk tb_Wo_greatest 4 = some (.aload_n 0, 1, .inl (0, 0), false) := rfl
theorem lk_Wo_greatest_5 : sc_lk tb_Wo_greatest 5 = some (.iconst (-1), 1, .inr (.inr 0), false) := rfl
theorem lk_Wo_greatest_6 : sc_lk tb_Wo_greatest 6 = some (.invokevirtual 116, 3, .inr (.inl (3, 1, mq_Wo_settleBehind)), false) := rfl
theorem lk_Wo_greatest_9 : sc_lk tb_Wo_greatest 9 = some (.lconst 0, 1, .inr (.inr 0), false) := rfl
theorem lk_Wo_greatest_10 : sc_lk tb_Wo_greatest 10 = some (.lstore_n 1, 1, .inl (1, 0), false) := rfl
theorem lk_Wo_greatest_11 : sc_lk tb_Wo_greatest 11 = some (.iconst 0, 1, .inr (.inr 0), false) := rfl
theorem lk_Wo_greatest_12 : sc_lk tb_Wo_greatest 12 = some (.istore_n 3, 1, .inl (3, 0), false) := rfl
theorem lk_Wo_greatest_13 : sc_lk tb_Wo_greatest 13 = some (.iload_n 3, 1, .inl (3, 0), true) := rfl
theorem lk_Wo_greatest_14 : sc_lk tb_Wo_greatest 14 = some (.aload_n 0, 1, .inl (0, 0), false) := rfl
theorem lk_Wo_greatest_15 : sc_lk tb_Wo_greatest 15 = some (.getfield 82, 3, .inl (3, 10), false) := rfl
theorem lk_Wo_greatest_18 : sc_lk tb_Wo_greatest 18 = some (.if_icmp .ge 27, 3, .inl (45, 0), false) := rfl
theorem lk_Wo_greatest_21 : sc_lk tb_Wo_greatest 21 = some (.lload_n 1, 1, .inl (1, 0), false) := rfl
theorem lk_Wo_greatest_22 : sc_lk tb_Wo_greatest 22 = some (.aload_n 0, 1, .inl (0, 0), false) := rfl
theorem lk_Wo_greatest_23 : sc_lk tb_Wo_greatest 23 = some (.getfield 25, 3, .inl (3, 3), false) := rfl
theorem lk_Wo_greatest_26 : sc_lk tb_Wo_greatest 26 = some (.iload_n 3, 1, .inl (3, 0), false) := rfl
theorem lk_Wo_greatest_27 : sc_lk tb_Wo_greatest 27 = some (.iaload, 1, .inr (.inr 0), false) := rfl
theorem lk_Wo_greatest_28 : sc_lk tb_Wo_greatest 28 = some (.i2l, 1, .inr (.inr 0), false) := rfl
theorem lk_Wo_greatest_29 : sc_lk tb_Wo_greatest 29 = some (.aload_n 0, 1, .inl (0, 0), false) := rfl
theorem lk_Wo_greatest_30 : sc_lk tb_Wo_greatest 30 = some (.getfield 28, 3, .inl (3, 4), false) := rfl
theorem lk_Wo_greatest_33 : sc_lk tb_Wo_greatest 33 = some (.iload_n 3, 1, .inl (3, 0), false) := rfl
theorem lk_Wo_greatest_34 : sc_lk tb_Wo_greatest 34 = some (.iaload, 1, .inr (.inr 0), false) := rfl
theorem lk_Wo_greatest_35 : sc_lk tb_Wo_greatest 35 = some (.i2l, 1, .inr (.inr 0), false) := rfl
theorem lk_Wo_greatest_36 : sc_lk tb_Wo_greatest 36 = some (.lmul, 1, .inr (.inr 0), false) := rfl
theorem lk_Wo_greatest_37 : sc_lk tb_Wo_greatest 37 = some (.ladd, 1, .inr (.inr 0), false) := rfl
theorem lk_Wo_greatest_38 : sc_lk tb_Wo_greatest 38 = some (.lstore_n 1, 1, .inl (1, 0), false) := rfl
theorem lk_Wo_greatest_39 : sc_lk tb_Wo_greatest 39 = some (.iinc 3 1, 3, .inl (3, 0), false) := rfl
theorem lk_Wo_greatest_42 : sc_lk tb_Wo_greatest 42 = some (.goto (-29), 3, .inl (13, 0), false) := rfl
theorem lk_Wo_greatest_45 : sc_lk tb_Wo_greatest 45 = some (.lload_n 1, 1, .inl (1, 0), false) := rfl
theorem lk_Wo_greatest_46 : sc_lk tb_Wo_greatest 46 = some (.lreturn, 1, .inr (.inr 0), false) := rfl
def tb_Wo_layOut : sc_T := [(0, .aload_n 0, 1, .inl (0, 0), false), (1, .invokevirtual 73, 3, .inr (.inl (3, 0, mq_Wo_layKnown)), false), (4, .aload_n 0, 1, .inl (0, 0), false), (5, .invokevirtual 76, 3, .inr (.inl (3, 0, mq_Wo_layWeights)), false), (8, .aload_n 0, 1, .inl (0, 0), false), (9, .invokevirtual 79, 3, .inr (.inl (3, 0, mq_Wo_layWorths)), false), (12, .return_, 1, .inr (.inr 0), false)]
theorem tk_Wo_layOut : sc_ok mq_Wo_layOut tb_Wo_layOut = true := by decide +kernel
theorem lk_Wo_layOut_0 : sc_lk tb_Wo_layOut 0 = some (.aload_n 0, 1, .inl (0, 0), false) := rfl
theorem lk_Wo_layOut_1 : sc_lk tb_Wo_layOut 1 = some (.invokevirtual 73, 3, .inr (.inl (3, 0, mq_Wo_layKnown)), false) := rfl
theorem lk_Wo_layOut_4 : sc_lk tb_Wo_layOut 4 = some (.aload_n 0, 1, .inl (0, 0), false) := rfl
theorem lk_Wo_layOut_5 : sc_lk tb_Wo_layOut 5 = some (.invokevirtual 76, 3, .inr (.inl (3, 0, mq_Wo_layWeights)), false) := rfl
theorem lk_Wo_layOut_8 : sc_lk tb_Wo_layOut 8 = some (.aload_n 0, 1, .inl (0, 0), false) := rfl
theorem lk_Wo_layOut_9 : sc_lk tb_Wo_layOut 9 = some (.invokevirtual 79, 3, .inr (.inl (3, 0, mq_Wo_layWorths)), false) := rfl
theorem lk_Wo_layOut_12 : sc_lk tb_Wo_layOut 12 = some (.return_, 1, .inr (.inr 0), false) := rfl
def tb_Wo_layKnown : sc_T := [(0, .iconst 0, 1, .inr (.inr 0), false), (1, .istore_n 1, 1, .inl (1, 0), false), (2, .iconst 0, 1, .inr (.inr 0), false), (3, .istore_n 2, 1, .inl (2, 0), false), (4, .iload_n 2, 1, .inl (2, 0), true), (5, .aload_n 0, 1, .inl (0, 0), false), (6, .getfield 12, 3, .inl (3, 0), false), (9, .getfield 60, 3, .inl (0, 1), false), (12, .if_icmp .ge 68, 3, .inl (80, 0), false), (15, .aload_n 0, 1, .inl (0, 0), false), (16, .getfield 22, 3, .inl (3, 2), false), (19, .iload_n 2, 1, .inl (2, 0), false), (20, .iconst 0, 1, .inr (.inr 0), false), (21, .iastore, 1, .inr (.inr 0), false), (22, .iload_n 2, 1, .inl (2, 0), false), (23, .aload_n 0, 1, .inl (0, 0), false), (24, .getfield 44, 3, .inl (3, 11), false), (27, .if_icmp .eq 22, 3, .inl (49, 0), false), (30, .aload_n 0, 1, .inl (0, 0), false), (31, .getfield 12, 3, .inl (3, 0), false), (34, .getfield 48, 3, .inl (0, 0), false), (37, .iload_n 2, 1, .inl (2, 0), false), (38, .aaload, 1, .inr (.inr 0), false), (39, .getfield 63, 3, .inl (2, 0), false), (42, .iconst 2, 1, .inr (.inr 0), false), (43, .if_icmp .eq 6, 3, .inl (49, 0), false), (46, .goto 28, 3, .inl (74, 0), false), (49, .aload_n 0, 1, .inl (0, 0), false), (50, .getfield 22, 3, .inl (3, 2), false), (53, .iload_n 2, 1, .inl (2, 0), false), (54, .iload_n 1, 1, .inl (1, 0), false), (55, .aload_n 0, 1, .inl (0, 0), false), (56, .getfield 18, 3, .inl (3, 1), false), (59, .iload_n 2, 1, .inl (2, 0), false), (60, .iaload, 1, .inr (.inr 0), false), (61, .ior, 1, .inr (.inr 0), false), (62, .iastore, 1, .inr (.inr 0), false), (63, .aload_n 0, 1, .inl (0, 0), false), (64, .getfield 22, 3, .inl (3, 2), false), (67, .iload_n 2, 1, .inl (2, 0), false), (68, .iaload, 1, .inr (.inr 0), false), (69, .iconst 1, 1, .inr (.inr 0), false), (70, .iload_n 2, 1, .inl (2, 0), false), (71, .ishl, 1, .inr (.inr 0), false), (72, .ior, 1, .inr (.inr 0), false), (73, .istore_n 1, 1, .inl (1, 0), false), (74, .iinc 2 1, 3, .inl (2, 0), false), (77, .goto (-73), 3, .inl (4, 0), false), (80, .return_, 1, .inr (.inr 0), false)]
theorem tk_Wo_layKnown : sc_ok mq_Wo_layKnown tb_Wo_layKnown = true := by decide +kernel
theorem lk_Wo_layKnown_0 : sc_lk tb_Wo_layKnown 0 = some (.iconst 0, 1, .inr (.inr 0), false) := rfl
theorem lk_Wo_layKnown_1 : sc_lk tb_Wo_layKnown 1 = some (.istore_n 1, 1, .inl (1, 0), false) := rfl
theorem lk_Wo_layKnown_2 : sc_lk tb_Wo_layKnown 2 = some (.iconst 0, 1, .inr (.inr 0), false) := rfl
theorem lk_Wo_layKnown_3 : sc_lk tb_Wo_layKnown 3 = some (.istore_n 2, 1, .inl (2, 0), false) := rfl
theorem lk_Wo_layKnown_4 : sc_lk tb_Wo_layKnown 4 = some (.iload_n 2, 1, .inl (2, 0), true) := rfl
theorem lk_Wo_layKnown_5 : sc_lk tb_Wo_layKnown 5 = some (.aload_n 0, 1, .inl (0, 0), false) := rfl
theorem lk_Wo_layKnown_6 : sc_lk tb_Wo_layKnown 6 = some (.getfield 12, 3, .inl (3, 0), false) := rfl
theorem lk_Wo_layKnown_9 : sc_lk tb_Wo_layKnown 9 = some (.getfield 60, 3, .inl (0, 1), false) := rfl
theorem lk_Wo_layKnown_12 : sc_lk tb_Wo_layKnown 12 = some (.if_icmp .ge 68, 3, .inl (80, 0), false) := rfl
theorem lk_Wo_layKnown_15 : sc_lk tb_Wo_layKnown 15 = some (.aload_n 0, 1, .inl (0, 0), false) := rfl
theorem lk_Wo_layKnown_16 : sc_lk tb_Wo_layKnown 16 = some (.getfield 22, 3, .inl (3, 2), false) := rfl
theorem lk_Wo_layKnown_19 : sc_lk tb_Wo_layKnown 19 = some (.iload_n 2, 1, .inl (2, 0), false) := rfl
theorem lk_Wo_layKnown_20 : sc_lk tb_Wo_layKnown 20 = some (.iconst 0, 1, .inr (.inr 0), false) := rfl
theorem lk_Wo_layKnown_21 : sc_lk tb_Wo_layKnown 21 = some (.iastore, 1, .inr (.inr 0), false) := rfl
theorem lk_Wo_layKnown_22 : sc_lk tb_Wo_layKnown 22 = some (.iload_n 2, 1, .inl (2, 0), false) := rfl
theorem lk_Wo_layKnown_23 : sc_lk tb_Wo_layKnown 23 = some (.aload_n 0, 1, .inl (0, 0), false) := rfl
theorem lk_Wo_layKnown_24 : sc_lk tb_Wo_layKnown 24 = some (.getfield 44, 3, .inl (3, 11), false) := rfl
theorem lk_Wo_layKnown_27 : sc_lk tb_Wo_layKnown 27 = some (.if_icmp .eq 22, 3, .inl (49, 0), false) := rfl
theorem lk_Wo_layKnown_30 : sc_lk tb_Wo_layKnown 30 = some (.aload_n 0, 1, .inl (0, 0), false) := rfl
theorem lk_Wo_layKnown_31 : sc_lk tb_Wo_layKnown 31 = some (.getfield 12, 3, .inl (3, 0), false) := rfl
theorem lk_Wo_layKnown_34 : sc_lk tb_Wo_layKnown 34 = some (.getfield 48, 3, .inl (0, 0), false) := rfl
theorem lk_Wo_layKnown_37 : sc_lk tb_Wo_layKnown 37 = some (.iload_n 2, 1, .inl (2, 0), false) := rfl
theorem lk_Wo_layKnown_38 : sc_lk tb_Wo_layKnown 38 = some (.aaload, 1, .inr (.inr 0), false) := rfl
theorem lk_Wo_layKnown_39 : sc_lk tb_Wo_layKnown 39 = some (.getfield 63, 3, .inl (2, 0), false) := rfl
theorem lk_Wo_layKnown_42 : sc_lk tb_Wo_layKnown 42 = some (.iconst 2, 1, .inr (.inr 0), false) := rfl
theorem lk_Wo_layKnown_43 : sc_lk tb_Wo_layKnown 43 = some (.if_icmp .eq 6, 3, .inl (49, 0), false) := rfl
theorem lk_Wo_layKnown_46 : sc_lk tb_Wo_layKnown 46 = some (.goto 28, 3, .inl (74, 0), false) := rfl
theorem lk_Wo_layKnown_49 : sc_lk tb_Wo_layKnown 49 = some (.aload_n 0, 1, .inl (0, 0), false) := rfl
theorem lk_Wo_layKnown_50 : sc_lk tb_Wo_layKnown 50 = some (.getfield 22, 3, .inl (3, 2), false) := rfl
theorem lk_Wo_layKnown_53 : sc_lk tb_Wo_layKnown 53 = some (.iload_n 2, 1, .inl (2, 0), false) := rfl
theorem lk_Wo_layKnown_54 : sc_lk tb_Wo_layKnown 54 = some (.iload_n 1, 1, .inl (1, 0), false) := rfl
theorem lk_Wo_layKnown_55 : sc_lk tb_Wo_layKnown 55 = some (.aload_n 0, 1, .inl (0, 0), false) := rfl
theorem lk_Wo_layKnown_56 : sc_lk tb_Wo_layKnown 56 = some (.getfield 18, 3, .inl (3, 1), false) := rfl
theorem lk_Wo_layKnown_59 : sc_lk tb_Wo_layKnown 59 = some (.iload_n 2, 1, .inl (2, 0), false) := rfl
theorem lk_Wo_layKnown_60 : sc_lk tb_Wo_layKnown 60 = some (.iaload, 1, .inr (.inr 0), false) := rfl
theorem lk_Wo_layKnown_61 : sc_lk tb_Wo_layKnown 61 = some (.ior, 1, .inr (.inr 0), false) := rfl
theorem lk_Wo_layKnown_62 : sc_lk tb_Wo_layKnown 62 = some (.iastore, 1, .inr (.inr 0), false) := rfl
theorem lk_Wo_layKnown_63 : sc_lk tb_Wo_layKnown 63 = some (.aload_n 0, 1, .inl (0, 0), false) := rfl
theorem lk_Wo_layKnown_64 : sc_lk tb_Wo_layKnown 64 = some (.getfield 22, 3, .inl (3, 2), false) := rfl
theorem lk_Wo_layKnown_67 : sc_lk tb_Wo_layKnown 67 = some (.iload_n 2, 1, .inl (2, 0), false) := rfl
theorem lk_Wo_layKnown_68 : sc_lk tb_Wo_layKnown 68 = some (.iaload, 1, .inr (.inr 0), false) := rfl
theorem lk_Wo_layKnown_69 : sc_lk tb_Wo_layKnown 69 = some (.iconst 1, 1, .inr (.inr 0), false) := rfl
theorem lk_Wo_layKnown_70 : sc_lk tb_Wo_layKnown 70 = some (.iload_n 2, 1, .inl (2, 0), false) := rfl
theorem lk_Wo_layKnown_71 : sc_lk tb_Wo_layKnown 71 = some (.ishl, 1, .inr (.inr 0), false) := rfl
theorem lk_Wo_layKnown_72 : sc_lk tb_Wo_layKnown 72 = some (.ior, 1, .inr (.inr 0), false) := rfl
theorem lk_Wo_layKnown_73 : sc_lk tb_Wo_layKnown 73 = some (.istore_n 1, 1, .inl (1, 0), false) := rfl
theorem lk_Wo_layKnown_74 : sc_lk tb_Wo_layKnown 74 = some (.iinc 2 1, 3, .inl (2, 0), false) := rfl
theorem lk_Wo_layKnown_77 : sc_lk tb_Wo_layKnown 77 = some (.goto (-73), 3, .inl (4, 0), false) := rfl
theorem lk_Wo_layKnown_80 : sc_lk tb_Wo_layKnown 80 = some (.return_, 1, .inr (.inr 0), false) := rfl
def tb_Wo_layWeights : sc_T := [(0, .aload_n 0, 1, .inl (0, 0), false), (1, .iconst 1, 1, .inr (.inr 0), false), (2, .putfield 82, 3, .inl (3, 10), false), (5, .aload_n 0, 1, .inl (0, 0), false), (6, .getfield 25, 3, .inl (3, 3), false), (9, .iconst 0, 1, .inr (.inr 0), false), (10, .iconst 1, 1, .inr (.inr 0), false), (11, .iastore, 1, .inr (.inr 0), false), (12, .iconst 0, 1, .inr (.inr 0), false), (13, .istore_n 1, 1, .inl (1, 0), false), (14, .iload_n 1, 1, .inl (1, 0), true), (15, .aload_n 0, 1, .inl (0, 0), false), (16, .getfield 12, 3, .inl (3, 0), false), (19, .getfield 60, 3, .inl (0, 1), false), (22, .if_icmp .ge 47, 3, .inl (69, 0), false), (25, .aload_n 0, 1, .inl (0, 0), false), (26, .getfield 12, 3, .inl (3, 0), false), (29, .getfield 48, 3, .inl (0, 0), false), (32, .iload_n 1, 1, .inl (1, 0), false), (33, .aaload, 1, .inr (.inr 0), false), (34, .astore_n 2, 1, .inl (2, 0), false), (35, .aload_n 2, 1, .inl (2, 0), false), (36, .getfield 85, 3, .inl (2, 1), false), (39, .ifCond .le 24, 3, .inl (63, 0), false), (42, .aload_n 0, 1, .inl (0, 0), false), (43, .getfield 82, 3, .inl (3, 10), false), (46, .aload_n 2, 1, .inl (2, 0), false), (47, .getfield 85, 3, .inl (2, 1), false), (50, .imul, 1, .inr (.inr 0), false), (51, .sipush 243, 3, .inr (.inr 0), false), (54, .if_icmp .gt 9, 3, .inl (63, 0), false), (57, .aload_n 0, 1, .inl (0, 0), false), (58, .iload_n 1, 1, .inl (1, 0), false), (59, .aload_n 2, 1, .inl (2, 0), false), (60, .invokevirtual 88, 3, .inr (.inl (3, 2, mq_Wo_spreadWeights)), false), (63, .iinc 1 1, 3, .inl (1, 0), false), (66, .goto (-52), 3, .inl (14, 0), false), (69, .return_, 1, .inr (.inr 0), false)]
theorem tk_Wo_layWeights : sc_ok mq_Wo_layWeights tb_Wo_layWeights = true := by decide +kernel
theorem lk_Wo_layWeights_0 : sc_lk tb_Wo_layWeights 0 = some (.aload_n 0, 1, .inl (0, 0), false) := rfl
theorem lk_Wo_layWeights_1 : sc_lk tb_Wo_layWeights 1 = some (.iconst 1, 1, .inr (.inr 0), false) := rfl
theorem lk_Wo_layWeights_2 : sc_lk tb_Wo_layWeights 2 = some (.putfield 82, 3, .inl (3, 10), false) := rfl
theorem lk_Wo_layWeights_5 : sc_lk tb_Wo_layWeights 5 = some (.aload_n 0, 1, .inl (0, 0), false) := rfl
theorem lk_Wo_layWeights_6 : sc_lk tb_Wo_layWeights 6 = some (.getfield 25, 3, .inl (3, 3), false) := rfl
theorem lk_Wo_layWeights_9 : sc_lk tb_Wo_layWeights 9 = some (.iconst 0, 1, .inr (.inr 0), false) := rfl
theorem lk_Wo_layWeights_10 : sc_lk tb_Wo_layWeights 10 = some (.iconst 1, 1, .inr (.inr 0), false) := rfl
theorem lk_Wo_layWeights_11 : sc_lk tb_Wo_layWeights 11 = some (.iastore, 1, .inr (.inr 0), false) := rfl
theorem lk_Wo_layWeights_12 : sc_lk tb_Wo_layWeights 12 = some (.iconst 0, 1, .inr (.inr 0), false) := rfl
theorem lk_Wo_layWeights_13 : sc_lk tb_Wo_layWeights 13 = some (.istore_n 1, 1, .inl (1, 0), false) := rfl
theorem lk_Wo_layWeights_14 : sc_lk tb_Wo_layWeights 14 = some (.iload_n 1, 1, .inl (1, 0), true) := rfl
theorem lk_Wo_layWeights_15 : sc_lk tb_Wo_layWeights 15 = some (.aload_n 0, 1, .inl (0, 0), false) := rfl
theorem lk_Wo_layWeights_16 : sc_lk tb_Wo_layWeights 16 = some (.getfield 12, 3, .inl (3, 0), false) := rfl
theorem lk_Wo_layWeights_19 : sc_lk tb_Wo_layWeights 19 = some (.getfield 60, 3, .inl (0, 1), false) := rfl
theorem lk_Wo_layWeights_22 : sc_lk tb_Wo_layWeights 22 = some (.if_icmp .ge 47, 3, .inl (69, 0), false) := rfl
theorem lk_Wo_layWeights_25 : sc_lk tb_Wo_layWeights 25 = some (.aload_n 0, 1, .inl (0, 0), false) := rfl
theorem lk_Wo_layWeights_26 : sc_lk tb_Wo_layWeights 26 = some (.getfield 12, 3, .inl (3, 0), false) := rfl
theorem lk_Wo_layWeights_29 : sc_lk tb_Wo_layWeights 29 = some (.getfield 48, 3, .inl (0, 0), false) := rfl
theorem lk_Wo_layWeights_32 : sc_lk tb_Wo_layWeights 32 = some (.iload_n 1, 1, .inl (1, 0), false) := rfl
theorem lk_Wo_layWeights_33 : sc_lk tb_Wo_layWeights 33 = some (.aaload, 1, .inr (.inr 0), false) := rfl
theorem lk_Wo_layWeights_34 : sc_lk tb_Wo_layWeights 34 = some (.astore_n 2, 1, .inl (2, 0), false) := rfl
theorem lk_Wo_layWeights_35 : sc_lk tb_Wo_layWeights 35 = some (.aload_n 2, 1, .inl (2, 0), false) := rfl
theorem lk_Wo_layWeights_36 : sc_lk tb_Wo_layWeights 36 = some (.getfield 85, 3, .inl (2, 1), false) := rfl
theorem lk_Wo_layWeights_39 : sc_lk tb_Wo_layWeights 39 = some (.ifCond .le 24, 3, .inl (63, 0), false) := rfl
theorem lk_Wo_layWeights_42 : sc_lk tb_Wo_layWeights 42 = some (.aload_n 0, 1, .inl (0, 0), false) := rfl
theorem lk_Wo_layWeights_43 : sc_lk tb_Wo_layWeights 43 = some (.getfield 82, 3, .inl (3, 10), false) := rfl
theorem lk_Wo_layWeights_46 : sc_lk tb_Wo_layWeights 46 = some (.aload_n 2, 1, .inl (2, 0), false) := rfl
theorem lk_Wo_layWeights_47 : sc_lk tb_Wo_layWeights 47 = some (.getfield 85, 3, .inl (2, 1), false) := rfl
theorem lk_Wo_layWeights_50 : sc_lk tb_Wo_layWeights 50 = some (.imul, 1, .inr (.inr 0), false) := rfl
theorem lk_Wo_layWeights_51 : sc_lk tb_Wo_layWeights 51 = some (.sipush 243, 3, .inr (.inr 0), false) := rfl
theorem lk_Wo_layWeights_54 : sc_lk tb_Wo_layWeights 54 = some (.if_icmp .gt 9, 3, .inl (63, 0), false) := rfl
theorem lk_Wo_layWeights_57 : sc_lk tb_Wo_layWeights 57 = some (.aload_n 0, 1, .inl (0, 0), false) := rfl
theorem lk_Wo_layWeights_58 : sc_lk tb_Wo_layWeights 58 = some (.iload_n 1, 1, .inl (1, 0), false) := rfl
theorem lk_Wo_layWeights_59 : sc_lk tb_Wo_layWeights 59 = some (.aload_n 2, 1, .inl (2, 0), false) := rfl
theorem lk_Wo_layWeights_60 : sc_lk tb_Wo_layWeights 60 = some (.invokevirtual 88, 3, .inr (.inl (3, 2, mq_Wo_spreadWeights)), false) := rfl
theorem lk_Wo_layWeights_63 : sc_lk tb_Wo_layWeights 63 = some (.iinc 1 1, 3, .inl (1, 0), false) := rfl
theorem lk_Wo_layWeights_66 : sc_lk tb_Wo_layWeights 66 = some (.goto (-52), 3, .inl (14, 0), false) := rfl
theorem lk_Wo_layWeights_69 : sc_lk tb_Wo_layWeights 69 = some (.return_, 1, .inr (.inr 0), false) := rfl
def tb_Wo_spreadWeights : sc_T := [(0, .iconst 0, 1, .inr (.inr 0), false), (1, .istore_n 3, 1, .inl (3, 0), false), (2, .iload_n 3, 1, .inl (3, 0), true), (3, .aload_n 0, 1, .inl (0, 0), false), (4, .getfield 82, 3, .inl (3, 10), false), (7, .if_icmp .ge 70, 3, .inl (77, 0), false), (10, .aload_n 0, 1, .inl (0, 0), false), (11, .getfield 12, 3, .inl (3, 0), false), (14, .aload_n 2, 1, .inl (2, 0), false), (15, .iload_n 3, 1, .inl (3, 0), false), (16, .invokevirtual 92, 3, .inr (.inl (0, 2, mq_Ch_placeIn)), false), (19, .istore 4, 2, .inl (4, 0), false), (21, .aload_n 2, 1, .inl (2, 0), false), (22, .getfield 85, 3, .inl (2, 1), false), (25, .iconst 1, 1, .inr (.inr 0), false), (26, .isub, 1, .inr (.inr 0), false), (27, .istore 5, 2, .inl (5, 0), false), (29, .iload 5, 2, .inl (5, 0), true), (31, .ifCond .lt 40, 3, .inl (71, 0), false), (34, .aload_n 0, 1, .inl (0, 0), false), (35, .getfield 25, 3, .inl (3, 3), false), (38, .iload 5, 2, .inl (5, 0), false), (40, .aload_n 0, 1, .inl (0, 0), false), (41, .getfield 82, 3, .inl (3, 10), false), (44, .imul, 1, .inr (.inr 0), false), (45, .iload_n 3, 1, .inl (3, 0), false), (46, .iadd, 1, .inr (.inr 0), false), (47, .aload_n 0, 1, .inl (0, 0), false), (48, .getfield 25, 3, .inl (3, 3), false), (51, .iload_n 3, 1, .inl (3, 0), false), (52, .iaload, 1, .inr (.inr 0), false), (53, .aload_n 0, 1, .inl (0, 0), false), (54, .iload_n 1, 1, .inl (1, 0), false), (55, .aload_n 2, 1, .inl (2, 0), false), (56, .iload 4, 2, .inl (4, 0), false), (58, .iload 5, 2, .inl (5, 0), false), (60, .invokevirtual 96, 3, .inr (.inl (3, 4, mq_Wo_weightOfState)), false), (63, .imul, 1, .inr (.inr 0), false), (64, .iastore, 1, .inr (.inr 0), false), (65, .iinc 5 (-1), 3, .inl (5, 0), false), (68, .goto (-39), 3, .inl (29, 0), false), (71, .iinc 3 1, 3, .inl (3, 0), false), (74, .goto (-72), 3, .inl (2, 0), false), (77, .aload_n 0, 1, .inl (0, 0), false), (78, .dup, 1, .inr (.inr 0), false), (79, .getfield 82, 3, .inl (3, 10), false), (82, .aload_n 2, 1, .inl (2, 0), false), (83, .getfield 85, 3, .inl (2, 1), false), (86, .imul, 1, .inr (.inr 0), false), (87, .putfield 82, 3, .inl (3, 10), false), (90, .return_, 1, .inr (.inr 0), false)]
theorem tk_Wo_spreadWeights : sc_ok mq_Wo_spreadWeights tb_Wo_spreadWeights = true := by decide +kernel
theorem lk_Wo_spreadWeights_0 : sc_lk tb_Wo_spreadWeights 0 = some (.iconst 0, 1, .inr (.inr 0), false) := rfl
theorem lk_Wo_spreadWeights_1 : sc_lk tb_Wo_spreadWeights 1 = some (.istore_n 3, 1, .inl (3, 0), false) := rfl
theorem lk_Wo_spreadWeights_2 : sc_lk tb_Wo_spreadWeights 2 = some (.iload_n 3, 1, .inl (3, 0), true) := rfl
theorem lk_Wo_spreadWeights_3 : sc_lk tb_Wo_spreadWeights 3 = some (.aload_n 0, 1, .inl (0, 0), false) := rfl
theorem lk_Wo_spreadWeights_4 : sc_lk tb_Wo_spreadWeights 4 = some (.getfield 82, 3, .inl (3, 10), false) := rfl
theorem lk_Wo_spreadWeights_7 : sc_lk tb_Wo_spreadWeights 7 = some (.if_icmp .ge 70, 3, .inl (77, 0), false) := rfl
theorem lk_Wo_spreadWeights_10 : sc_lk tb_Wo_spreadWeights 10 = some (.aload_n 0, 1, .inl (0, 0), false) := rfl
theorem lk_Wo_spreadWeights_11 : sc_lk tb_Wo_spreadWeights 11 = some (.getfield 12, 3, .inl (3, 0), false) := rfl
theorem lk_Wo_spreadWeights_14 : sc_lk tb_Wo_spreadWeights 14 = some (.aload_n 2, 1, .inl (2, 0), false) := rfl
theorem lk_Wo_spreadWeights_15 : sc_lk tb_Wo_spreadWeights 15 = some (.iload_n 3, 1, .inl (3, 0), false) := rfl
theorem lk_Wo_spreadWeights_16 : sc_lk tb_Wo_spreadWeights 16 = some (.invokevirtual 92, 3, .inr (.inl (0, 2, mq_Ch_placeIn)), false) := rfl
theorem lk_Wo_spreadWeights_19 : sc_lk tb_Wo_spreadWeights 19 = some (.istore 4, 2, .inl (4, 0), false) := rfl
theorem lk_Wo_spreadWeights_21 : sc_lk tb_Wo_spreadWeights 21 = some (.aload_n 2, 1, .inl (2, 0), false) := rfl
theorem lk_Wo_spreadWeights_22 : sc_lk tb_Wo_spreadWeights 22 = some (.getfield 85, 3, .inl (2, 1), false) := rfl
theorem lk_Wo_spreadWeights_25 : sc_lk tb_Wo_spreadWeights 25 = some (.iconst 1, 1, .inr (.inr 0), false) := rfl
theorem lk_Wo_spreadWeights_26 : sc_lk tb_Wo_spreadWeights 26 = some (.isub, 1, .inr (.inr 0), false) := rfl
theorem lk_Wo_spreadWeights_27 : sc_lk tb_Wo_spreadWeights 27 = some (.istore 5, 2, .inl (5, 0), false) := rfl
theorem lk_Wo_spreadWeights_29 : sc_lk tb_Wo_spreadWeights 29 = some (.iload 5, 2, .inl (5, 0), true) := rfl
theorem lk_Wo_spreadWeights_31 : sc_lk tb_Wo_spreadWeights 31 = some (.ifCond .lt 40, 3, .inl (71, 0), false) := rfl
theorem lk_Wo_spreadWeights_34 : sc_lk tb_Wo_spreadWeights 34 = some (.aload_n 0, 1, .inl (0, 0), false) := rfl
theorem lk_Wo_spreadWeights_35 : sc_lk tb_Wo_spreadWeights 35 = some (.getfield 25, 3, .inl (3, 3), false) := rfl
theorem lk_Wo_spreadWeights_38 : sc_lk tb_Wo_spreadWeights 38 = some (.iload 5, 2, .inl (5, 0), false) := rfl
theorem lk_Wo_spreadWeights_40 : sc_lk tb_Wo_spreadWeights 40 = some (.aload_n 0, 1, .inl (0, 0), false) := rfl
theorem lk_Wo_spreadWeights_41 : sc_lk tb_Wo_spreadWeights 41 = some (.getfield 82, 3, .inl (3, 10), false) := rfl
theorem lk_Wo_spreadWeights_44 : sc_lk tb_Wo_spreadWeights 44 = some (.imul, 1, .inr (.inr 0), false) := rfl
theorem lk_Wo_spreadWeights_45 : sc_lk tb_Wo_spreadWeights 45 = some (.iload_n 3, 1, .inl (3, 0), false) := rfl
theorem lk_Wo_spreadWeights_46 : sc_lk tb_Wo_spreadWeights 46 = some (.iadd, 1, .inr (.inr 0), false) := rfl
theorem lk_Wo_spreadWeights_47 : sc_lk tb_Wo_spreadWeights 47 = some (.aload_n 0, 1, .inl (0, 0), false) := rfl
theorem lk_Wo_spreadWeights_48 : sc_lk tb_Wo_spreadWeights 48 = some (.getfield 25, 3, .inl (3, 3), false) := rfl
theorem lk_Wo_spreadWeights_51 : sc_lk tb_Wo_spreadWeights 51 = some (.iload_n 3, 1, .inl (3, 0), false) := rfl
theorem lk_Wo_spreadWeights_52 : sc_lk tb_Wo_spreadWeights 52 = some (.iaload, 1, .inr (.inr 0), false) := rfl
theorem lk_Wo_spreadWeights_53 : sc_lk tb_Wo_spreadWeights 53 = some (.aload_n 0, 1, .inl (0, 0), false) := rfl
theorem lk_Wo_spreadWeights_54 : sc_lk tb_Wo_spreadWeights 54 = some (.iload_n 1, 1, .inl (1, 0), false) := rfl
theorem lk_Wo_spreadWeights_55 : sc_lk tb_Wo_spreadWeights 55 = some (.aload_n 2, 1, .inl (2, 0), false) := rfl
theorem lk_Wo_spreadWeights_56 : sc_lk tb_Wo_spreadWeights 56 = some (.iload 4, 2, .inl (4, 0), false) := rfl
theorem lk_Wo_spreadWeights_58 : sc_lk tb_Wo_spreadWeights 58 = some (.iload 5, 2, .inl (5, 0), false) := rfl
theorem lk_Wo_spreadWeights_60 : sc_lk tb_Wo_spreadWeights 60 = some (.invokevirtual 96, 3, .inr (.inl (3, 4, mq_Wo_weightOfState)), false) := rfl
theorem lk_Wo_spreadWeights_63 : sc_lk tb_Wo_spreadWeights 63 = some (.imul, 1, .inr (.inr 0), false) := rfl
theorem lk_Wo_spreadWeights_64 : sc_lk tb_Wo_spreadWeights 64 = some (.iastore, 1, .inr (.inr 0), false) := rfl
theorem lk_Wo_spreadWeights_65 : sc_lk tb_Wo_spreadWeights 65 = some (.iinc 5 (-1), 3, .inl (5, 0), false) := rfl
theorem lk_Wo_spreadWeights_68 : sc_lk tb_Wo_spreadWeights 68 = some (.goto (-39), 3, .inl (29, 0), false) := rfl
theorem lk_Wo_spreadWeights_71 : sc_lk tb_Wo_spreadWeights 71 = some (.iinc 3 1, 3, .inl (3, 0), false) := rfl
theorem lk_Wo_spreadWeights_74 : sc_lk tb_Wo_spreadWeights 74 = some (.goto (-72), 3, .inl (2, 0), false) := rfl
theorem lk_Wo_spreadWeights_77 : sc_lk tb_Wo_spreadWeights 77 = some (.aload_n 0, 1, .inl (0, 0), false) := rfl
theorem lk_Wo_spreadWeights_78 : sc_lk tb_Wo_spreadWeights 78 = some (.dup, 1, .inr (.inr 0), false) := rfl
theorem lk_Wo_spreadWeights_79 : sc_lk tb_Wo_spreadWeights 79 = some (.getfield 82, 3, .inl (3, 10), false) := rfl
theorem lk_Wo_spreadWeights_82 : sc_lk tb_Wo_spreadWeights 82 = some (.aload_n 2, 1, .inl (2, 0), false) := rfl
theorem lk_Wo_spreadWeights_83 : sc_lk tb_Wo_spreadWeights 83 = some (.getfield 85, 3, .inl (2, 1), false) := rfl
theorem lk_Wo_spreadWeights_86 : sc_lk tb_Wo_spreadWeights 86 = some (.imul, 1, .inr (.inr 0), false) := rfl
theorem lk_Wo_spreadWeights_87 : sc_lk tb_Wo_spreadWeights 87 = some (.putfield 82, 3, .inl (3, 10), false) := rfl
theorem lk_Wo_spreadWeights_90 : sc_lk tb_Wo_spreadWeights 90 = some (.return_, 1, .inr (.inr 0), false) := rfl
def tb_Wo_weightOfState : sc_T := [(0, .iload_n 1, 1, .inl (1, 0), false), (1, .aload_n 0, 1, .inl (0, 0), false), (2, .getfield 44, 3, .inl (3, 11), false), (5, .if_icmp .ne 6, 3, .inl (11, 0), false), (8, .bipush 12, 2, .inr (.inr 0), false), (10, .ireturn, 1, .inr (.inr 0), false), (11, .aload_n 2, 1, .inl (2, 0), false), (12, .getfield 63, 3, .inl (2, 0), false), (15, .iconst 1, 1, .inr (.inr 0), false), (16, .if_icmp .ne 17, 3, .inl (33, 0), false), (19, .aload_n 2, 1, .inl (2, 0), false), (20, .iload_n 3, 1, .inl (3, 0), false), (21, .aload_n 2, 1, .inl (2, 0), false), (22, .getfield 85, 3, .inl (2, 1), false), (25, .imul, 1, .inr (.inr 0), false), (26, .iload 4, 2, .inl (4, 0), false), (28, .iadd, 1, .inr (.inr 0), false), (29, .invokevirtual 100, 3, .inr (.inl (2, 1, mq_No_get)), false), (32, .ireturn, 1, .inr (.inr 0), false), (33, .aload_n 2, 1, .inl (2, 0), false), (34, .getfield 104, 3, .inl (2, 3), false), (37, .bipush (-9), 2, .inr (.inr 0), false), (39, .if_icmp .eq 12, 3, .inl (51, 0), false), (42, .aload_n 2, 1, .inl (2, 0), false), (43, .getfield 104, 3, .inl (2, 3), false), (46, .iload 4, 2, .inl (4, 0), false), (48, .if_icmp .ne 7, 3, .inl (55, 0), false), (51, .iconst 1, 1, .inr (.inr 0), false), (52, .goto 4, 3, .inl (56, 0), false), (55, .iconst 0, 1, .inr (.inr 0), false), (56, .ireturn, 1, .inr (.inr 0), false)]
theorem tk_Wo_weightOfState : sc_ok mq_Wo_weightOfState tb_Wo_weightOfState = true := by decide +kernel
theorem lk_Wo_weightOfState_0 : sc_lk tb_Wo_weightOfState 0 = some (.iload_n 1, 1, .inl (1, 0), false) := rfl
theorem lk_Wo_weightOfState_1 : sc_lk tb_Wo_weightOfState 1 = some (.aload_n 0, 1, .inl (0, 0), false) := rfl
theorem lk_Wo_weightOfState_2 : sc_lk tb_Wo_weightOfState 2 = some (.getfield 44, 3, .inl (3, 11), false) := rfl
theorem lk_Wo_weightOfState_5 : sc_lk tb_Wo_weightOfState 5 = some (.if_icmp .ne 6, 3, .inl (11, 0), false) := rfl
theorem lk_Wo_weightOfState_8 : sc_lk tb_Wo_weightOfState 8 = some (.bipush 12, 2, .inr (.inr 0), false) := rfl
theorem lk_Wo_weightOfState_10 : sc_lk tb_Wo_weightOfState 10 = some (.ireturn, 1, .inr (.inr 0), false) := rfl
theorem lk_Wo_weightOfState_11 : sc_lk tb_Wo_weightOfState 11 = some (.aload_n 2, 1, .inl (2, 0), false) := rfl
theorem lk_Wo_weightOfState_12 : sc_lk tb_Wo_weightOfState 12 = some (.getfield 63, 3, .inl (2, 0), false) := rfl
theorem lk_Wo_weightOfState_15 : sc_lk tb_Wo_weightOfState 15 = some (.iconst 1, 1, .inr (.inr 0), false) := rfl
theorem lk_Wo_weightOfState_16 : sc_lk tb_Wo_weightOfState 16 = some (.if_icmp .ne 17, 3, .inl (33, 0), false) := rfl
theorem lk_Wo_weightOfState_19 : sc_lk tb_Wo_weightOfState 19 = some (.aload_n 2, 1, .inl (2, 0), false) := rfl
theorem lk_Wo_weightOfState_20 : sc_lk tb_Wo_weightOfState 20 = some (.iload_n 3, 1, .inl (3, 0), false) := rfl
theorem lk_Wo_weightOfState_21 : sc_lk tb_Wo_weightOfState 21 = some (.aload_n 2, 1, .inl (2, 0), false) := rfl
theorem lk_Wo_weightOfState_22 : sc_lk tb_Wo_weightOfState 22 = some (.getfield 85, 3, .inl (2, 1), false) := rfl
theorem lk_Wo_weightOfState_25 : sc_lk tb_Wo_weightOfState 25 = some (.imul, 1, .inr (.inr 0), false) := rfl
theorem lk_Wo_weightOfState_26 : sc_lk tb_Wo_weightOfState 26 = some (.iload 4, 2, .inl (4, 0), false) := rfl
theorem lk_Wo_weightOfState_28 : sc_lk tb_Wo_weightOfState 28 = some (.iadd, 1, .inr (.inr 0), false) := rfl
theorem lk_Wo_weightOfState_29 : sc_lk tb_Wo_weightOfState 29 = some (.invokevirtual 100, 3, .inr (.inl (2, 1, mq_No_get)), false) := rfl
theorem lk_Wo_weightOfState_32 : sc_lk tb_Wo_weightOfState 32 = some (.ireturn, 1, .inr (.inr 0), false) := rfl
theorem lk_Wo_weightOfState_33 : sc_lk tb_Wo_weightOfState 33 = some (.aload_n 2, 1, .inl (2, 0), false) := rfl
theorem lk_Wo_weightOfState_34 : sc_lk tb_Wo_weightOfState 34 = some (.getfield 104, 3, .inl (2, 3), false) := rfl
theorem lk_Wo_weightOfState_37 : sc_lk tb_Wo_weightOfState 37 = some (.bipush (-9), 2, .inr (.inr 0), false) := rfl
theorem lk_Wo_weightOfState_39 : sc_lk tb_Wo_weightOfState 39 = some (.if_icmp .eq 12, 3, .inl (51, 0), false) := rfl
theorem lk_Wo_weightOfState_42 : sc_lk tb_Wo_weightOfState 42 = some (.aload_n 2, 1, .inl (2, 0), false) := rfl
theorem lk_Wo_weightOfState_43 : sc_lk tb_Wo_weightOfState 43 = some (.getfield 104, 3, .inl (2, 3), false) := rfl
theorem lk_Wo_weightOfState_46 : sc_lk tb_Wo_weightOfState 46 = some (.iload 4, 2, .inl (4, 0), false) := rfl
theorem lk_Wo_weightOfState_48 : sc_lk tb_Wo_weightOfState 48 = some (.if_icmp .ne 7, 3, .inl (55, 0), false) := rfl
theorem lk_Wo_weightOfState_51 : sc_lk tb_Wo_weightOfState 51 = some (.iconst 1, 1, .inr (.inr 0), false) := rfl
theorem lk_Wo_weightOfState_52 : sc_lk tb_Wo_weightOfState 52 = some (.goto 4, 3, .inl (56, 0), false) := rfl
theorem lk_Wo_weightOfState_55 : sc_lk tb_Wo_weightOfState 55 = some (.iconst 0, 1, .inr (.inr 0), false) := rfl
theorem lk_Wo_weightOfState_56 : sc_lk tb_Wo_weightOfState 56 = some (.ireturn, 1, .inr (.inr 0), false) := rfl
def tb_Wo_layWorths : sc_T := [(0, .aload_n 0, 1, .inl (0, 0), false), (1, .getfield 28, 3, .inl (3, 4), false), (4, .iconst 0, 1, .inr (.inr 0), false), (5, .invokestatic 107, 3, .inr (.inl (100, 2, mq_Ar_fillI)), false), (8, .iconst 0, 1, .inr (.inr 0), false), (9, .istore_n 1, 1, .inl (1, 0), false), (10, .iload_n 1, 1, .inl (1, 0), true), (11, .aload_n 0, 1, .inl (0, 0), false), (12, .getfield 12, 3, .inl (3, 0), false), (15, .getfield 60, 3, .inl (0, 1), false), (18, .if_icmp .ge 67, 3, .inl (85, 0), false), (21, .aload_n 0, 1, .inl (0, 0), false), (22, .getfield 12, 3, .inl (3, 0), false), (25, .getfield 48, 3, .inl (0, 0), false), (28, .iload_n 1, 1, .inl (1, 0), false), (29, .aaload, 1, .inr (.inr 0), false), (30, .astore_n 2, 1, .inl (2, 0), false), (31, .aload_n 2, 1, .inl (2, 0), false), (32, .getfield 63, 3, .inl (2, 0), false), (35, .ifCond .eq 6, 3, .inl (41, 0), false), (38, .goto 41, 3, .inl (79, 0), false), (41, .iconst 0, 1, .inr (.inr 0), false), (42, .istore_n 3, 1, .inl (3, 0), false), (43, .iload_n 3, 1, .inl (3, 0), true), (44, .aload_n 0, 1, .inl (0, 0), false), (45, .getfield 82, 3, .inl (3, 10), false), (48, .if_icmp .ge 31, 3, .inl (79, 0), false), (51, .aload_n 0, 1, .inl (0, 0), false), (52, .getfield 28, 3, .inl (3, 4), false), (55, .iload_n 3, 1, .inl (3, 0), false), (56, .dup2, 1, .inr (.inr 0), false), (57, .iaload, 1, .inr (.inr 0), false), (58, .aload_n 2, 1, .inl (2, 0), false), (59, .aload_n 0, 1, .inl (0, 0), false), (60, .getfield 12, 3, .inl (3, 0), false), (63, .aload_n 2, 1, .inl (2, 0), false), (64, .iload_n 3, 1, .inl (3, 0), false), (65, .invokevirtual 92, 3, .inr (.inl (0, 2, mq_Ch_placeIn)), false), (68, .invokevirtual 100, 3, .inr (.inl (2, 1, mq_No_get)), false), (71, .iadd, 1, .inr (.inr 0), false), (72, .iastore, 1, .inr (.inr 0), false), (73, .iinc 3 1, 3, .inl (3, 0), false), (76, .goto (-33), 3, .inl (43, 0), false), (79, .iinc 1 1, 3, .inl (1, 0), false), (82, .goto (-72), 3, .inl (10, 0), false), (85, .return_, 1, .inr (.inr 0), false)]
theorem tk_Wo_layWorths : sc_ok mq_Wo_layWorths tb_Wo_layWorths = true := by decide +kernel
theorem lk_Wo_layWorths_0 : sc_lk tb_Wo_layWorths 0 = some (.aload_n 0, 1, .inl (0, 0), false) := rfl
theorem lk_Wo_layWorths_1 : sc_lk tb_Wo_layWorths 1 = some (.getfield 28, 3, .inl (3, 4), false) := rfl
theorem lk_Wo_layWorths_4 : sc_lk tb_Wo_layWorths 4 = some (.iconst 0, 1, .inr (.inr 0), false) := rfl
theorem lk_Wo_layWorths_5 : sc_lk tb_Wo_layWorths 5 = some (.invokestatic 107, 3, .inr (.inl (100, 2, mq_Ar_fillI)), false) := rfl
theorem lk_Wo_layWorths_8 : sc_lk tb_Wo_layWorths 8 = some (.iconst 0, 1, .inr (.inr 0), false) := rfl
theorem lk_Wo_layWorths_9 : sc_lk tb_Wo_layWorths 9 = some (.istore_n 1, 1, .inl (1, 0), false) := rfl
theorem lk_Wo_layWorths_10 : sc_lk tb_Wo_layWorths 10 = some (.iload_n 1, 1, .inl (1, 0), true) := rfl
theorem lk_Wo_layWorths_11 : sc_lk tb_Wo_layWorths 11 = some (.aload_n 0, 1, .inl (0, 0), false) := rfl
theorem lk_Wo_layWorths_12 : sc_lk tb_Wo_layWorths 12 = some (.getfield 12, 3, .inl (3, 0), false) := rfl
theorem lk_Wo_layWorths_15 : sc_lk tb_Wo_layWorths 15 = some (.getfield 60, 3, .inl (0, 1), false) := rfl
theorem lk_Wo_layWorths_18 : sc_lk tb_Wo_layWorths 18 = some (.if_icmp .ge 67, 3, .inl (85, 0), false) := rfl
theorem lk_Wo_layWorths_21 : sc_lk tb_Wo_layWorths 21 = some (.aload_n 0, 1, .inl (0, 0), false) := rfl
theorem lk_Wo_layWorths_22 : sc_lk tb_Wo_layWorths 22 = some (.getfield 12, 3, .inl (3, 0), false) := rfl
theorem lk_Wo_layWorths_25 : sc_lk tb_Wo_layWorths 25 = some (.getfield 48, 3, .inl (0, 0), false) := rfl
theorem lk_Wo_layWorths_28 : sc_lk tb_Wo_layWorths 28 = some (.iload_n 1, 1, .inl (1, 0), false) := rfl
theorem lk_Wo_layWorths_29 : sc_lk tb_Wo_layWorths 29 = some (.aaload, 1, .inr (.inr 0), false) := rfl
theorem lk_Wo_layWorths_30 : sc_lk tb_Wo_layWorths 30 = some (.astore_n 2, 1, .inl (2, 0), false) := rfl
theorem lk_Wo_layWorths_31 : sc_lk tb_Wo_layWorths 31 = some (.aload_n 2, 1, .inl (2, 0), false) := rfl
theorem lk_Wo_layWorths_32 : sc_lk tb_Wo_layWorths 32 = some (.getfield 63, 3, .inl (2, 0), false) := rfl
theorem lk_Wo_layWorths_35 : sc_lk tb_Wo_layWorths 35 = some (.ifCond .eq 6, 3, .inl (41, 0), false) := rfl
theorem lk_Wo_layWorths_38 : sc_lk tb_Wo_layWorths 38 = some (.goto 41, 3, .inl (79, 0), false) := rfl
theorem lk_Wo_layWorths_41 : sc_lk tb_Wo_layWorths 41 = some (.iconst 0, 1, .inr (.inr 0), false) := rfl
theorem lk_Wo_layWorths_42 : sc_lk tb_Wo_layWorths 42 = some (.istore_n 3, 1, .inl (3, 0), false) := rfl
theorem lk_Wo_layWorths_43 : sc_lk tb_Wo_layWorths 43 = some (.iload_n 3, 1, .inl (3, 0), true) := rfl
theorem lk_Wo_layWorths_44 : sc_lk tb_Wo_layWorths 44 = some (.aload_n 0, 1, .inl (0, 0), false) := rfl
theorem lk_Wo_layWorths_45 : sc_lk tb_Wo_layWorths 45 = some (.getfield 82, 3, .inl (3, 10), false) := rfl
theorem lk_Wo_layWorths_48 : sc_lk tb_Wo_layWorths 48 = some (.if_icmp .ge 31, 3, .inl (79, 0), false) := rfl
theorem lk_Wo_layWorths_51 : sc_lk tb_Wo_layWorths 51 = some (.aload_n 0, 1, .inl (0, 0), false) := rfl
theorem lk_Wo_layWorths_52 : sc_lk tb_Wo_layWorths 52 = some (.getfield 28, 3, .inl (3, 4), false) := rfl
theorem lk_Wo_layWorths_55 : sc_lk tb_Wo_layWorths 55 = some (.iload_n 3, 1, .inl (3, 0), false) := rfl
theorem lk_Wo_layWorths_56 : sc_lk tb_Wo_layWorths 56 = some (.dup2, 1, .inr (.inr 0), false) := rfl
theorem lk_Wo_layWorths_57 : sc_lk tb_Wo_layWorths 57 = some (.iaload, 1, .inr (.inr 0), false) := rfl
theorem lk_Wo_layWorths_58 : sc_lk tb_Wo_layWorths 58 = some (.aload_n 2, 1, .inl (2, 0), false) := rfl
theorem lk_Wo_layWorths_59 : sc_lk tb_Wo_layWorths 59 = some (.aload_n 0, 1, .inl (0, 0), false) := rfl
theorem lk_Wo_layWorths_60 : sc_lk tb_Wo_layWorths 60 = some (.getfield 12, 3, .inl (3, 0), false) := rfl
theorem lk_Wo_layWorths_63 : sc_lk tb_Wo_layWorths 63 = some (.aload_n 2, 1, .inl (2, 0), false) := rfl
theorem lk_Wo_layWorths_64 : sc_lk tb_Wo_layWorths 64 = some (.iload_n 3, 1, .inl (3, 0), false) := rfl
theorem lk_Wo_layWorths_65 : sc_lk tb_Wo_layWorths 65 = some (.invokevirtual 92, 3, .inr (.inl (0, 2, mq_Ch_placeIn)), false) := rfl
theorem lk_Wo_layWorths_68 : sc_lk tb_Wo_layWorths 68 = some (.invokevirtual 100, 3, .inr (.inl (2, 1, mq_No_get)), false) := rfl
theorem lk_Wo_layWorths_71 : sc_lk tb_Wo_layWorths 71 = some (.iadd, 1, .inr (.inr 0), false) := rfl
theorem lk_Wo_layWorths_72 : sc_lk tb_Wo_layWorths 72 = some (.iastore, 1, .inr (.inr 0), false) := rfl
theorem lk_Wo_layWorths_73 : sc_lk tb_Wo_layWorths 73 = some (.iinc 3 1, 3, .inl (3, 0), false) := rfl
theorem lk_Wo_layWorths_76 : sc_lk tb_Wo_layWorths 76 = some (.goto (-33), 3, .inl (43, 0), false) := rfl
theorem lk_Wo_layWorths_79 : sc_lk tb_Wo_layWorths 79 = some (.iinc 1 1, 3, .inl (1, 0), false) := rfl
theorem lk_Wo_layWorths_82 : sc_lk tb_Wo_layWorths 82 = some (.goto (-72), 3, .inl (10, 0), false) := rfl
theorem lk_Wo_layWorths_85 : sc_lk tb_Wo_layWorths 85 = some (.return_, 1, .inr (.inr 0), false) := rfl
def tb_Wo_settleBehind : sc_T := [(0, .aload_n 0, 1, .inl (0, 0), false), (1, .getfield 12, 3, .inl (3, 0), false), (4, .getfield 60, 3, .inl (0, 1), false), (7, .iconst 1, 1, .inr (.inr 0), false), (8, .isub, 1, .inr (.inr 0), false), (9, .istore_n 2, 1, .inl (2, 0), false), (10, .iload_n 2, 1, .inl (2, 0), true), (11, .iload_n 1, 1, .inl (1, 0), false), (12, .if_icmp .le 38, 3, .inl (50, 0), false), (15, .aload_n 0, 1, .inl (0, 0), false), (16, .iload_n 2, 1, .inl (2, 0), false), (17, .invokevirtual 120, 3, .inr (.inl (3, 1, mq_Wo_isFree)), false), (20, .ifCond .ne 6, 3, .inl (26, 0), false), (23, .goto 21, 3, .inl (44, 0), false), (26, .aload_n 0, 1, .inl (0, 0), false), (27, .iload_n 2, 1, .inl (2, 0), false), (28, .invokevirtual 122, 3, .inr (.inl (3, 1, mq_Wo_sumUp)), false), (31, .aload_n 0, 1, .inl (0, 0), false), (32, .aload_n 0, 1, .inl (0, 0), false), (33, .getfield 12, 3, .inl (3, 0), false), (36, .getfield 48, 3, .inl (0, 0), false), (39, .iload_n 2, 1, .inl (2, 0), false), (40, .aaload, 1, .inr (.inr 0), false), (41, .invokevirtual 125, 3, .inr (.inl (3, 1, mq_Wo_dropOthers)), false), (44, .iinc 2 (-1), 3, .inl (2, 0), false), (47, .goto (-37), 3, .inl (10, 0), false), (50, .return_, 1, .inr (.inr 0), false)]
theorem tk_Wo_settleBehind : sc_ok mq_Wo_settleBehind tb_Wo_settleBehind = true := by decide +kernel
theorem lk_Wo_settleBehind_0 : sc_lk tb_Wo_settleBehind 0 = some (.aload_n 0, 1, .inl (0, 0), false) := rfl
theorem lk_Wo_settleBehind_1 : sc_lk tb_Wo_settleBehind 1 = some (.getfield 12, 3, .inl (3, 0), false) := rfl
theorem lk_Wo_settleBehind_4 : sc_lk tb_Wo_settleBehind 4 = some (.getfield 60, 3, .inl (0, 1), false) := rfl
theorem lk_Wo_settleBehind_7 : sc_lk tb_Wo_settleBehind 7 = some (.iconst 1, 1, .inr (.inr 0), false) := rfl
theorem lk_Wo_settleBehind_8 : sc_lk tb_Wo_settleBehind 8 = some (.isub, 1, .inr (.inr 0), false) := rfl
theorem lk_Wo_settleBehind_9 : sc_lk tb_Wo_settleBehind 9 = some (.istore_n 2, 1, .inl (2, 0), false) := rfl
theorem lk_Wo_settleBehind_10 : sc_lk tb_Wo_settleBehind 10 = some (.iload_n 2, 1, .inl (2, 0), true) := rfl
theorem lk_Wo_settleBehind_11 : sc_lk tb_Wo_settleBehind 11 = some (.iload_n 1, 1, .inl (1, 0), false) := rfl
theorem lk_Wo_settleBehind_12 : sc_lk tb_Wo_settleBehind 12 = some (.if_icmp .le 38, 3, .inl (50, 0), false) := rfl
theorem lk_Wo_settleBehind_15 : sc_lk tb_Wo_settleBehind 15 = some (.aload_n 0, 1, .inl (0, 0), false) := rfl
theorem lk_Wo_settleBehind_16 : sc_lk tb_Wo_settleBehind 16 = some (.iload_n 2, 1, .inl (2, 0), false) := rfl
theorem lk_Wo_settleBehind_17 : sc_lk tb_Wo_settleBehind 17 = some (.invokevirtual 120, 3, .inr (.inl (3, 1, mq_Wo_isFree)), false) := rfl
theorem lk_Wo_settleBehind_20 : sc_lk tb_Wo_settleBehind 20 = some (.ifCond .ne 6, 3, .inl (26, 0), false) := rfl
theorem lk_Wo_settleBehind_23 : sc_lk tb_Wo_settleBehind 23 = some (.goto 21, 3, .inl (44, 0), false) := rfl
theorem lk_Wo_settleBehind_26 : sc_lk tb_Wo_settleBehind 26 = some (.aload_n 0, 1, .inl (0, 0), false) := rfl
theorem lk_Wo_settleBehind_27 : sc_lk tb_Wo_settleBehind 27 = some (.iload_n 2, 1, .inl (2, 0), false) := rfl
theorem lk_Wo_settleBehind_28 : sc_lk tb_Wo_settleBehind 28 = some (.invokevirtual 122, 3, .inr (.inl (3, 1, mq_Wo_sumUp)), false) := rfl
theorem lk_Wo_settleBehind_31 : sc_lk tb_Wo_settleBehind 31 = some (.aload_n 0, 1, .inl (0, 0), false) := rfl
theorem lk_Wo_settleBehind_32 : sc_lk tb_Wo_settleBehind 32 = some (.aload_n 0, 1, .inl (0, 0), false) := rfl
theorem lk_Wo_settleBehind_33 : sc_lk tb_Wo_settleBehind 33 = some (.getfield 12, 3, .inl (3, 0), false) := rfl
theorem lk_Wo_settleBehind_36 : sc_lk tb_Wo_settleBehind 36 = some (.getfield 48, 3, .inl (0, 0), false) := rfl
theorem lk_Wo_settleBehind_39 : sc_lk tb_Wo_settleBehind 39 = some (.iload_n 2, 1, .inl (2, 0), false) := rfl
theorem lk_Wo_settleBehind_40 : sc_lk tb_Wo_settleBehind 40 = some (.aaload, 1, .inr (.inr 0), false) := rfl
theorem lk_Wo_settleBehind_41 : sc_lk tb_Wo_settleBehind 41 = some (.invokevirtual 125, 3, .inr (.inl (3, 1, mq_Wo_dropOthers)), false) := rfl
theorem lk_Wo_settleBehind_44 : sc_lk tb_Wo_settleBehind 44 = some (.iinc 2 (-1), 3, .inl (2, 0), false) := rfl
theorem lk_Wo_settleBehind_47 : sc_lk tb_Wo_settleBehind 47 = some (.goto (-37), 3, .inl (10, 0), false) := rfl
theorem lk_Wo_settleBehind_50 : sc_lk tb_Wo_settleBehind 50 = some (.return_, 1, .inr (.inr 0), false) := rfl
def tb_Wo_isFree : sc_T := [(0, .iload_n 1, 1, .inl (1, 0), false), (1, .aload_n 0, 1, .inl (0, 0), false), (2, .getfield 44, 3, .inl (3, 11), false), (5, .if_icmp .eq 18, 3, .inl (23, 0), false), (8, .aload_n 0, 1, .inl (0, 0), false), (9, .getfield 12, 3, .inl (3, 0), false), (12, .getfield 48, 3, .inl (0, 0), false), (15, .iload_n 1, 1, .inl (1, 0), false), (16, .aaload, 1, .inr (.inr 0), false), (17, .invokevirtual 69, 3, .inr (.inl (2, 0, mq_No_isFree)), false), (20, .ifCond .eq 7, 3, .inl (27, 0), false), (23, .iconst 1, 1, .inr (.inr 0), false), (24, .goto 4, 3, .inl (28, 0), false), (27, .iconst 0, 1, .inr (.inr 0), false), (28, .ireturn, 1, .inr (.inr 0), false)]
theorem tk_Wo_isFree : sc_ok mq_Wo_isFree tb_Wo_isFree = true := by decide +kernel
theorem lk_Wo_isFree_0 : sc_lk tb_Wo_isFree 0 = some (.iload_n 1, 1, .inl (1, 0), false) := rfl
theorem lk_Wo_isFree_1 : sc_lk tb_Wo_isFree 1 = some (.aload_n 0, 1, .inl (0, 0), false) := rfl
theorem lk_Wo_isFree_2 : sc_lk tb_Wo_isFree 2 = some (.getfield 44, 3, .inl (3, 11), false) := rfl
theorem lk_Wo_isFree_5 : sc_lk tb_Wo_isFree 5 = some (.if_icmp .eq 18, 3, .inl (23, 0), false) := rfl
theorem lk_Wo_isFree_8 : sc_lk tb_Wo_isFree 8 = some (.aload_n 0, 1, .inl (0, 0), false) := rfl
theorem lk_Wo_isFree_9 : sc_lk tb_Wo_isFree 9 = some (.getfield 12, 3, .inl (3, 0), false) := rfl
theorem lk_Wo_isFree_12 : sc_lk tb_Wo_isFree 12 = some (.getfield 48, 3, .inl (0, 0), false) := rfl
theorem lk_Wo_isFree_15 : sc_lk tb_Wo_isFree 15 = some (.iload_n 1, 1, .inl (1, 0), false) := rfl
theorem lk_Wo_isFree_16 : sc_lk tb_Wo_isFree 16 = some (.aaload, 1, .inr (.inr 0), false) := rfl
theorem lk_Wo_isFree_17 : sc_lk tb_Wo_isFree 17 = some (.invokevirtual 69, 3, .inr (.inl (2, 0, mq_No_isFree)), false) := rfl
theorem lk_Wo_isFree_20 : sc_lk tb_Wo_isFree 20 = some (.ifCond .eq 7, 3, .inl (27, 0), false) := rfl
theorem lk_Wo_isFree_23 : sc_lk tb_Wo_isFree 23 = some (.iconst 1, 1, .inr (.inr 0), false) := rfl
theorem lk_Wo_isFree_24 : sc_lk tb_Wo_isFree 24 = some (.goto 4, 3, .inl (28, 0), false) := rfl
theorem lk_Wo_isFree_27 : sc_lk tb_Wo_isFree 27 = some (.iconst 0, 1, .inr (.inr 0), false) := rfl
theorem lk_Wo_isFree_28 : sc_lk tb_Wo_isFree 28 = some (.ireturn, 1, .inr (.inr 0), false) := rfl
def tb_Wo_sumUp : sc_T := [(0, .aload_n 0, 1, .inl (0, 0), false), (1, .aload_n 0, 1, .inl (0, 0), false), (2, .getfield 22, 3, .inl (3, 2), false), (5, .iload_n 1, 1, .inl (1, 0), false), (6, .iaload, 1, .inr (.inr 0), false), (7, .iconst 1, 1, .inr (.inr 0), false), (8, .iload_n 1, 1, .inl (1, 0), false), (9, .ishl, 1, .inr (.inr 0), false), (10, .ior, 1, .inr (.inr 0), false), (11, .invokevirtual 138, 3, .inr (.inl (3, 1, mq_Wo_layKeys)), false), (14, .aload_n 0, 1, .inl (0, 0), false), (15, .getfield 34, 3, .inl (3, 6), false), (18, .lconst 0, 1, .inr (.inr 0), false), (19, .invokestatic 141, 3, .inr (.inl (100, 2, mq_Ar_fillJ)), false), (22, .iconst 0, 1, .inr (.inr 0), false), (23, .istore_n 2, 1, .inl (2, 0), false), (24, .iload_n 2, 1, .inl (2, 0), true), (25, .aload_n 0, 1, .inl (0, 0), false), (26, .getfield 82, 3, .inl (3, 10), false), (29, .if_icmp .ge 47, 3, .inl (76, 0), false), (32, .aload_n 0, 1, .inl (0, 0), false), (33, .getfield 25, 3, .inl (3, 3), false), (36, .iload_n 2, 1, .inl (2, 0), false), (37, .iaload, 1, .inr (.inr 0), false), (38, .ifCond .eq 32, 3, .inl (70, 0), false), (41, .aload_n 0, 1, .inl (0, 0), false), (42, .getfield 34, 3, .inl (3, 6), false), (45, .aload_n 0, 1, .inl (0, 0), false), (46, .getfield 31, 3, .inl (3, 5), false), (49, .iload_n 2, 1, .inl (2, 0), false), (50, .iaload, 1, .inr (.inr 0), false), (51, .dup2, 1, .inr (.inr 0), false), (52, .laload, 1, .inr (.inr 0), false), (53, .aload_n 0, 1, .inl (0, 0), false), (54, .getfield 25, 3, .inl (3, 3), false), (57, .iload_n 2, 1, .inl (2, 0), false), (58, .iaload, 1, .inr (.inr 0), false), (59, .i2l, 1, .inr (.inr 0), false), (60, .aload_n 0, 1, .inl (0, 0), false), (61, .getfield 28, 3, .inl (3, 4), false), (64, .iload_n 2, 1, .inl (2, 0), false), (65, .iaload, 1, .inr (.inr 0), false), (66, .i2l, 1, .inr (.inr 0), false), (67, .lmul, 1, .inr (.inr 0), false), (68, .ladd, 1, .inr (.inr 0), false), (69, .lastore, 1, .inr (.inr 0), false), (70, .iinc 2 1, 3, .inl (2, 0), false), (73, .goto (-49), 3, .inl (24, 0), false), (76, .return_, 1, .inr (.inr 0), false)]
theorem tk_Wo_sumUp : sc_ok mq_Wo_sumUp tb_Wo_sumUp = true := by decide +kernel
theorem lk_Wo_sumUp_0 : sc_lk tb_Wo_sumUp 0 = some (.aload_n 0, 1, .inl (0, 0), false) := rfl
theorem lk_Wo_sumUp_1 : sc_lk tb_Wo_sumUp 1 = some (.aload_n 0, 1, .inl (0, 0), false) := rfl
theorem lk_Wo_sumUp_2 : sc_lk tb_Wo_sumUp 2 = some (.getfield 22, 3, .inl (3, 2), false) := rfl
theorem lk_Wo_sumUp_5 : sc_lk tb_Wo_sumUp 5 = some (.iload_n 1, 1, .inl (1, 0), false) := rfl
theorem lk_Wo_sumUp_6 : sc_lk tb_Wo_sumUp 6 = some (.iaload, 1, .inr (.inr 0), false) := rfl
theorem lk_Wo_sumUp_7 : sc_lk tb_Wo_sumUp 7 = some (.iconst 1, 1, .inr (.inr 0), false) := rfl
theorem lk_Wo_sumUp_8 : sc_lk tb_Wo_sumUp 8 = some (.iload_n 1, 1, .inl (1, 0), false) := rfl
theorem lk_Wo_sumUp_9 : sc_lk tb_Wo_sumUp 9 = some (.ishl, 1, .inr (.inr 0), false) := rfl
theorem lk_Wo_sumUp_10 : sc_lk tb_Wo_sumUp 10 = some (.ior, 1, .inr (.inr 0), false) := rfl
theorem lk_Wo_sumUp_11 : sc_lk tb_Wo_sumUp 11 = some (.invokevirtual 138, 3, .inr (.inl (3, 1, mq_Wo_layKeys)), false) := rfl
theorem lk_Wo_sumUp_14 : sc_lk tb_Wo_sumUp 14 = some (.aload_n 0, 1, .inl (0, 0), false) := rfl
theorem lk_Wo_sumUp_15 : sc_lk tb_Wo_sumUp 15 = some (.getfield 34, 3, .inl (3, 6), false) := rfl
theorem lk_Wo_sumUp_18 : sc_lk tb_Wo_sumUp 18 = some (.lconst 0, 1, .inr (.inr 0), false) := rfl
theorem lk_Wo_sumUp_19 : sc_lk tb_Wo_sumUp 19 = some (.invokestatic 141, 3, .inr (.inl (100, 2, mq_Ar_fillJ)), false) := rfl
theorem lk_Wo_sumUp_22 : sc_lk tb_Wo_sumUp 22 = some (.iconst 0, 1, .inr (.inr 0), false) := rfl
theorem lk_Wo_sumUp_23 : sc_lk tb_Wo_sumUp 23 = some (.istore_n 2, 1, .inl (2, 0), false) := rfl
theorem lk_Wo_sumUp_24 : sc_lk tb_Wo_sumUp 24 = some (.iload_n 2, 1, .inl (2, 0), true) := rfl
theorem lk_Wo_sumUp_25 : sc_lk tb_Wo_sumUp 25 = some (.aload_n 0, 1, .inl (0, 0), false) := rfl
theorem lk_Wo_sumUp_26 : sc_lk tb_Wo_sumUp 26 = some (.getfield 82, 3, .inl (3, 10), false) := rfl
theorem lk_Wo_sumUp_29 : sc_lk tb_Wo_sumUp 29 = some (.if_icmp .ge 47, 3, .inl (76, 0), false) := rfl
theorem lk_Wo_sumUp_32 : sc_lk tb_Wo_sumUp 32 = some (.aload_n 0, 1, .inl (0, 0), false) := rfl
theorem lk_Wo_sumUp_33 : sc_lk tb_Wo_sumUp 33 = some (.getfield 25, 3, .inl (3, 3), false) := rfl
theorem lk_Wo_sumUp_36 : sc_lk tb_Wo_sumUp 36 = some (.iload_n 2, 1, .inl (2, 0), false) := rfl
theorem lk_Wo_sumUp_37 : sc_lk tb_Wo_sumUp 37 = some (.iaload, 1, .inr (.inr 0), false) := rfl
theorem lk_Wo_sumUp_38 : sc_lk tb_Wo_sumUp 38 = some (.ifCond .eq 32, 3, .inl (70, 0), false) := rfl
theorem lk_Wo_sumUp_41 : sc_lk tb_Wo_sumUp 41 = some (.aload_n 0, 1, .inl (0, 0), false) := rfl
theorem lk_Wo_sumUp_42 : sc_lk tb_Wo_sumUp 42 = some (.getfield 34, 3, .inl (3, 6), false) := rfl
theorem lk_Wo_sumUp_45 : sc_lk tb_Wo_sumUp 45 = some (.aload_n 0, 1, .inl (0, 0), false) := rfl
theorem lk_Wo_sumUp_46 : sc_lk tb_Wo_sumUp 46 = some (.getfield 31, 3, .inl (3, 5), false) := rfl
theorem lk_Wo_sumUp_49 : sc_lk tb_Wo_sumUp 49 = some (.iload_n 2, 1, .inl (2, 0), false) := rfl
theorem lk_Wo_sumUp_50 : sc_lk tb_Wo_sumUp 50 = some (.iaload, 1, .inr (.inr 0), false) := rfl
theorem lk_Wo_sumUp_51 : sc_lk tb_Wo_sumUp 51 = some (.dup2, 1, .inr (.inr 0), false) := rfl
theorem lk_Wo_sumUp_52 : sc_lk tb_Wo_sumUp 52 = some (.laload, 1, .inr (.inr 0), false) := rfl
theorem lk_Wo_sumUp_53 : sc_lk tb_Wo_sumUp 53 = some (.aload_n 0, 1, .inl (0, 0), false) := rfl
theorem lk_Wo_sumUp_54 : sc_lk tb_Wo_sumUp 54 = some (.getfield 25, 3, .inl (3, 3), false) := rfl
theorem lk_Wo_sumUp_57 : sc_lk tb_Wo_sumUp 57 = some (.iload_n 2, 1, .inl (2, 0), false) := rfl
theorem lk_Wo_sumUp_58 : sc_lk tb_Wo_sumUp 58 = some (.iaload, 1, .inr (.inr 0), false) := rfl
theorem lk_Wo_sumUp_59 : sc_lk tb_Wo_sumUp 59 = some (.i2l, 1, .inr (.inr 0), false) := rfl
theorem lk_Wo_sumUp_60 : sc_lk tb_Wo_sumUp 60 = some (.aload_n 0, 1, .inl (0, 0), false) := rfl
theorem lk_Wo_sumUp_61 : sc_lk tb_Wo_sumUp 61 = some (.getfield 28, 3, .inl (3, 4), false) := rfl
theorem lk_Wo_sumUp_64 : sc_lk tb_Wo_sumUp 64 = some (.iload_n 2, 1, .inl (2, 0), false) := rfl
theorem lk_Wo_sumUp_65 : sc_lk tb_Wo_sumUp 65 = some (.iaload, 1, .inr (.inr 0), false) := rfl
theorem lk_Wo_sumUp_66 : sc_lk tb_Wo_sumUp 66 = some (.i2l, 1, .inr (.inr 0), false) := rfl
theorem lk_Wo_sumUp_67 : sc_lk tb_Wo_sumUp 67 = some (.lmul, 1, .inr (.inr 0), false) := rfl
theorem lk_Wo_sumUp_68 : sc_lk tb_Wo_sumUp 68 = some (.ladd, 1, .inr (.inr 0), false) := rfl
theorem lk_Wo_sumUp_69 : sc_lk tb_Wo_sumUp 69 = some (.lastore, 1, .inr (.inr 0), false) := rfl
theorem lk_Wo_sumUp_70 : sc_lk tb_Wo_sumUp 70 = some (.iinc 2 1, 3, .inl (2, 0), false) := rfl
theorem lk_Wo_sumUp_73 : sc_lk tb_Wo_sumUp 73 = some (.goto (-49), 3, .inl (24, 0), false) := rfl
theorem lk_Wo_sumUp_76 : sc_lk tb_Wo_sumUp 76 = some (.return_, 1, .inr (.inr 0), false) := rfl
def tb_Wo_layKeys : sc_T := [(0, .iconst 1, 1, .inr (.inr 0), false), (1, .istore_n 2, 1, .inl (2, 0), false), (2, .aload_n 0, 1, .inl (0, 0), false), (3, .getfield 31, 3, .inl (3, 5), false), (6, .iconst 0, 1, .inr (.inr 0), false), (7, .iconst 0, 1, .inr (.inr 0), false), (8, .iastore, 1, .inr (.inr 0), false), (9, .iconst 0, 1, .inr (.inr 0), false), (10, .istore_n 3, 1, .inl (3, 0), false), (11, .iload_n 3, 1, .inl (3, 0), true), (12, .aload_n 0, 1, .inl (0, 0), false), (13, .getfield 12, 3, .inl (3, 0), false), (16, .getfield 60, 3, .inl (0, 1), false), (19, .if_icmp .ge 118, 3, .inl (137, 0), false), (22, .aload_n 0, 1, .inl (0, 0), false), (23, .getfield 12, 3, .inl (3, 0), false), (26, .getfield 48, 3, .inl (0, 0), false), (29, .iload_n 3, 1, .inl (3, 0), false), (30, .aaload, 1, .inr (.inr 0), false), (31, .getfield 85, 3, .inl (2, 1), false), (34, .istore 4, 2, .inl (4, 0), false), (36, .iload 4, 2, .inl (4, 0), false), (38, .iconst 1, 1, .inr (.inr 0), false), (39, .if_icmp .lt 92, 3, .inl (131, 0), false), (42, .iload_n 2, 1, .inl (2, 0), false), (43, .iload 4, 2, .inl (4, 0), false), (45, .imul, 1, .inr (.inr 0), false), (46, .sipush 243, 3, .inr (.inr 0), false), (49, .if_icmp .le 6, 3, .inl (55, 0), false), (52, .goto 79, 3, .inl (131, 0), false), (55, .iload_n 1, 1, .inl (1, 0), false), (56, .iload_n 3, 1, .inl (3, 0), false), (57, .ishr, 1, .inr (.inr 0), false), (58, .iconst 1, 1, .inr (.inr 0), false), (59, .iand, 1, .inr (.inr 0), false), (60, .ifCond .eq 7, 3, .inl (67, 0), false), (63, .iload_n 2, 1, .inl (2, 0), false), (64, .goto 4, 3, .inl (68, 0), false), (67, .iconst 0, 1, .inr (.inr 0), false), (68, .istore 5, 2, .inl (5, 0), false), (70, .iconst 1, 1, .inr (.inr 0), false), (71, .istore 6, 2, .inl (6, 0), false), (73, .iload 6, 2, .inl (6, 0), true), (75, .iload 4, 2, .inl (4, 0), false), (77, .if_icmp .ge 49, 3, .inl (126, 0), false), (80, .iconst 0, 1, .inr (.inr 0), false), (81, .istore 7, 2, .inl (7, 0), false), (83, .iload 7, 2, .inl (7, 0), true), (85, .iload_n 2, 1, .inl (2, 0), false), (86, .if_icmp .ge 34, 3, .inl (120, 0), false), (89, .aload_n 0, 1, .inl (0, 0), false), (90, .getfield 31, 3, .inl (3, 5), false), (93, .iload 6, 2, .inl (6, 0), false), (95, .iload_n 2, 1, .inl (2, 0), false), (96, .imul, 1, .inr (.inr 0), false), (97, .iload 7, 2, .inl (7, 0), false), (99, .iadd, 1, .inr (.inr 0), false), (100, .aload_n 0, 1, .inl (0, 0), false), (101, .getfield 31, 3, .inl (3, 5), false), (104, .iload 7, 2, .inl (7, 0), false), (106, .iaload, 1, .inr (.inr 0), false), (107, .iload 6, 2, .inl (6, 0), false), (109, .iload 5, 2, .inl (5, 0), false), (111, .imul, 1, .inr (.inr 0), false), (112, .iadd, 1, .inr (.inr 0), false), (113, .iastore, 1, .inr (.inr 0), false), (114, .iinc 7 1, 3, .inl (7, 0), false), (117, .goto (-34), 3, .inl (83, 0), false), (120, .iinc 6 1, 3, .inl (6, 0), false), (123, .goto (-50), 3, .inl (73, 0), false), (126, .iload_n 2, 1, .inl (2, 0), false), (127, .iload 4, 2, .inl (4, 0), false), (129, .imul, 1, .inr (.inr 0), false), (130, .istore_n 2, 1, .inl (2, 0), false), (131, .iinc 3 1, 3, .inl (3, 0), false), (134, .goto (-123), 3, .inl (11, 0), false), (137, .return_, 1, .inr (.inr 0), false)]
theorem tk_Wo_layKeys : sc_ok mq_Wo_layKeys tb_Wo_layKeys = true := by decide +kernel
theorem lk_Wo_layKeys_0 : sc_lk tb_Wo_layKeys 0 = some (.iconst 1, 1, .inr (.inr 0), false) := rfl
theorem lk_Wo_layKeys_1 : sc_lk tb_Wo_layKeys 1 = some (.istore_n 2, 1, .inl (2, 0), false) := rfl
theorem lk_Wo_layKeys_2 : sc_lk tb_Wo_layKeys 2 = some (.aload_n 0, 1, .inl (0, 0), false) := rfl
theorem lk_Wo_layKeys_3 : sc_lk tb_Wo_layKeys 3 = some (.getfield 31, 3, .inl (3, 5), false) := rfl
theorem lk_Wo_layKeys_6 : sc_lk tb_Wo_layKeys 6 = some (.iconst 0, 1, .inr (.inr 0), false) := rfl
theorem lk_Wo_layKeys_7 : sc_lk tb_Wo_layKeys 7 = some (.iconst 0, 1, .inr (.inr 0), false) := rfl
theorem lk_Wo_layKeys_8 : sc_lk tb_Wo_layKeys 8 = some (.iastore, 1, .inr (.inr 0), false) := rfl
theorem lk_Wo_layKeys_9 : sc_lk tb_Wo_layKeys 9 = some (.iconst 0, 1, .inr (.inr 0), false) := rfl
theorem lk_Wo_layKeys_10 : sc_lk tb_Wo_layKeys 10 = some (.istore_n 3, 1, .inl (3, 0), false) := rfl
theorem lk_Wo_layKeys_11 : sc_lk tb_Wo_layKeys 11 = some (.iload_n 3, 1, .inl (3, 0), true) := rfl
theorem lk_Wo_layKeys_12 : sc_lk tb_Wo_layKeys 12 = some (.aload_n 0, 1, .inl (0, 0), false) := rfl
theorem lk_Wo_layKeys_13 : sc_lk tb_Wo_layKeys 13 = some (.getfield 12, 3, .inl (3, 0), false) := rfl
theorem lk_Wo_layKeys_16 : sc_lk tb_Wo_layKeys 16 = some (.getfield 60, 3, .inl (0, 1), false) := rfl
theorem lk_Wo_layKeys_19 : sc_lk tb_Wo_layKeys 19 = some (.if_icmp .ge 118, 3, .inl (137, 0), false) := rfl
theorem lk_Wo_layKeys_22 : sc_lk tb_Wo_layKeys 22 = some (.aload_n 0, 1, .inl (0, 0), false) := rfl
theorem lk_Wo_layKeys_23 : sc_lk tb_Wo_layKeys 23 = some (.getfield 12, 3, .inl (3, 0), false) := rfl
theorem lk_Wo_layKeys_26 : sc_lk tb_Wo_layKeys 26 = some (.getfield 48, 3, .inl (0, 0), false) := rfl
theorem lk_Wo_layKeys_29 : sc_lk tb_Wo_layKeys 29 = some (.iload_n 3, 1, .inl (3, 0), false) := rfl
theorem lk_Wo_layKeys_30 : sc_lk tb_Wo_layKeys 30 = some (.aaload, 1, .inr (.inr 0), false) := rfl
theorem lk_Wo_layKeys_31 : sc_lk tb_Wo_layKeys 31 = some (.getfield 85, 3, .inl (2, 1), false) := rfl
theorem lk_Wo_layKeys_34 : sc_lk tb_Wo_layKeys 34 = some (.istore 4, 2, .inl (4, 0), false) := rfl
theorem lk_Wo_layKeys_36 : sc_lk tb_Wo_layKeys 36 = some (.iload 4, 2, .inl (4, 0), false) := rfl
theorem lk_Wo_layKeys_38 : sc_lk tb_Wo_layKeys 38 = some (.iconst 1, 1, .inr (.inr 0), false) := rfl
theorem lk_Wo_layKeys_39 : sc_lk tb_Wo_layKeys 39 = some (.if_icmp .lt 92, 3, .inl (131, 0), false) := rfl
theorem lk_Wo_layKeys_42 : sc_lk tb_Wo_layKeys 42 = some (.iload_n 2, 1, .inl (2, 0), false) := rfl
theorem lk_Wo_layKeys_43 : sc_lk tb_Wo_layKeys 43 = some (.iload 4, 2, .inl (4, 0), false) := rfl
theorem lk_Wo_layKeys_45 : sc_lk tb_Wo_layKeys 45 = some (.imul, 1, .inr (.inr 0), false) := rfl
theorem lk_Wo_layKeys_46 : sc_lk tb_Wo_layKeys 46 = some (.sipush 243, 3, .inr (.inr 0), false) := rfl
theorem lk_Wo_layKeys_49 : sc_lk tb_Wo_layKeys 49 = some (.if_icmp .le 6, 3, .inl (55, 0), false) := rfl
theorem lk_Wo_layKeys_52 : sc_lk tb_Wo_layKeys 52 = some (.goto 79, 3, .inl (131, 0), false) := rfl
theorem lk_Wo_layKeys_55 : sc_lk tb_Wo_layKeys 55 = some (.iload_n 1, 1, .inl (1, 0), false) := rfl
theorem lk_Wo_layKeys_56 : sc_lk tb_Wo_layKeys 56 = some (.iload_n 3, 1, .inl (3, 0), false) := rfl
theorem lk_Wo_layKeys_57 : sc_lk tb_Wo_layKeys 57 = some (.ishr, 1, .inr (.inr 0), false) := rfl
theorem lk_Wo_layKeys_58 : sc_lk tb_Wo_layKeys 58 = some (.iconst 1, 1, .inr (.inr 0), false) := rfl
theorem lk_Wo_layKeys_59 : sc_lk tb_Wo_layKeys 59 = some (.iand, 1, .inr (.inr 0), false) := rfl
theorem lk_Wo_layKeys_60 : sc_lk tb_Wo_layKeys 60 = some (.ifCond .eq 7, 3, .inl (67, 0), false) := rfl
theorem lk_Wo_layKeys_63 : sc_lk tb_Wo_layKeys 63 = some (.iload_n 2, 1, .inl (2, 0), false) := rfl
theorem lk_Wo_layKeys_64 : sc_lk tb_Wo_layKeys 64 = some (.goto 4, 3, .inl (68, 0), false) := rfl
theorem lk_Wo_layKeys_67 : sc_lk tb_Wo_layKeys 67 = some (.iconst 0, 1, .inr (.inr 0), false) := rfl
theorem lk_Wo_layKeys_68 : sc_lk tb_Wo_layKeys 68 = some (.istore 5, 2, .inl (5, 0), false) := rfl
theorem lk_Wo_layKeys_70 : sc_lk tb_Wo_layKeys 70 = some (.iconst 1, 1, .inr (.inr 0), false) := rfl
theorem lk_Wo_layKeys_71 : sc_lk tb_Wo_layKeys 71 = some (.istore 6, 2, .inl (6, 0), false) := rfl
theorem lk_Wo_layKeys_73 : sc_lk tb_Wo_layKeys 73 = some (.iload 6, 2, .inl (6, 0), true) := rfl
theorem lk_Wo_layKeys_75 : sc_lk tb_Wo_layKeys 75 = some (.iload 4, 2, .inl (4, 0), false) := rfl
theorem lk_Wo_layKeys_77 : sc_lk tb_Wo_layKeys 77 = some (.if_icmp .ge 49, 3, .inl (126, 0), false) := rfl
theorem lk_Wo_layKeys_80 : sc_lk tb_Wo_layKeys 80 = some (.iconst 0, 1, .inr (.inr 0), false) := rfl
theorem lk_Wo_layKeys_81 : sc_lk tb_Wo_layKeys 81 = some (.istore 7, 2, .inl (7, 0), false) := rfl
theorem lk_Wo_layKeys_83 : sc_lk tb_Wo_layKeys 83 = some (.iload 7, 2, .inl (7, 0), true) := rfl
theorem lk_Wo_layKeys_85 : sc_lk tb_Wo_layKeys 85 = some (.iload_n 2, 1, .inl (2, 0), false) := rfl
theorem lk_Wo_layKeys_86 : sc_lk tb_Wo_layKeys 86 = some (.if_icmp .ge 34, 3, .inl (120, 0), false) := rfl
theorem lk_Wo_layKeys_89 : sc_lk tb_Wo_layKeys 89 = some (.aload_n 0, 1, .inl (0, 0), false) := rfl
theorem lk_Wo_layKeys_90 : sc_lk tb_Wo_layKeys 90 = some (.getfield 31, 3, .inl (3, 5), false) := rfl
theorem lk_Wo_layKeys_93 : sc_lk tb_Wo_layKeys 93 = some (.iload 6, 2, .inl (6, 0), false) := rfl
theorem lk_Wo_layKeys_95 : sc_lk tb_Wo_layKeys 95 = some (.iload_n 2, 1, .inl (2, 0), false) := rfl
theorem lk_Wo_layKeys_96 : sc_lk tb_Wo_layKeys 96 = some (.imul, 1, .inr (.inr 0), false) := rfl
theorem lk_Wo_layKeys_97 : sc_lk tb_Wo_layKeys 97 = some (.iload 7, 2, .inl (7, 0), false) := rfl
theorem lk_Wo_layKeys_99 : sc_lk tb_Wo_layKeys 99 = some (.iadd, 1, .inr (.inr 0), false) := rfl
theorem lk_Wo_layKeys_100 : sc_lk tb_Wo_layKeys 100 = some (.aload_n 0, 1, .inl (0, 0), false) := rfl
theorem lk_Wo_layKeys_101 : sc_lk tb_Wo_layKeys 101 = some (.getfield 31, 3, .inl (3, 5), false) := rfl
theorem lk_Wo_layKeys_104 : sc_lk tb_Wo_layKeys 104 = some (.iload 7, 2, .inl (7, 0), false) := rfl
theorem lk_Wo_layKeys_106 : sc_lk tb_Wo_layKeys 106 = some (.iaload, 1, .inr (.inr 0), false) := rfl
theorem lk_Wo_layKeys_107 : sc_lk tb_Wo_layKeys 107 = some (.iload 6, 2, .inl (6, 0), false) := rfl
theorem lk_Wo_layKeys_109 : sc_lk tb_Wo_layKeys 109 = some (.iload 5, 2, .inl (5, 0), false) := rfl
theorem lk_Wo_layKeys_111 : sc_lk tb_Wo_layKeys 111 = some (.imul, 1, .inr (.inr 0), false) := rfl
theorem lk_Wo_layKeys_112 : sc_lk tb_Wo_layKeys 112 = some (.iadd, 1, .inr (.inr 0), false) := rfl
theorem lk_Wo_layKeys_113 : sc_lk tb_Wo_layKeys 113 = some (.iastore, 1, .inr (.inr 0), false) := rfl
theorem lk_Wo_layKeys_114 : sc_lk tb_Wo_layKeys 114 = some (.iinc 7 1, 3, .inl (7, 0), false) := rfl
theorem lk_Wo_layKeys_117 : sc_lk tb_Wo_layKeys 117 = some (.goto (-34), 3, .inl (83, 0), false) := rfl
theorem lk_Wo_layKeys_120 : sc_lk tb_Wo_layKeys 120 = some (.iinc 6 1, 3, .inl (6, 0), false) := rfl
theorem lk_Wo_layKeys_123 : sc_lk tb_Wo_layKeys 123 = some (.goto (-50), 3, .inl (73, 0), false) := rfl
theorem lk_Wo_layKeys_126 : sc_lk tb_Wo_layKeys 126 = some (.iload_n 2, 1, .inl (2, 0), false) := rfl
theorem lk_Wo_layKeys_127 : sc_lk tb_Wo_layKeys 127 = some (.iload 4, 2, .inl (4, 0), false) := rfl
theorem lk_Wo_layKeys_129 : sc_lk tb_Wo_layKeys 129 = some (.imul, 1, .inr (.inr 0), false) := rfl
theorem lk_Wo_layKeys_130 : sc_lk tb_Wo_layKeys 130 = some (.istore_n 2, 1, .inl (2, 0), false) := rfl
theorem lk_Wo_layKeys_131 : sc_lk tb_Wo_layKeys 131 = some (.iinc 3 1, 3, .inl (3, 0), false) := rfl
theorem lk_Wo_layKeys_134 : sc_lk tb_Wo_layKeys 134 = some (.goto (-123), 3, .inl (11, 0), false) := rfl
theorem lk_Wo_layKeys_137 : sc_lk tb_Wo_layKeys 137 = some (.return_, 1, .inr (.inr 0), false) := rfl
def tb_Wo_dropOthers : sc_T := [(0, .iconst 0, 1, .inr (.inr 0), false), (1, .istore_n 2, 1, .inl (2, 0), false), (2, .iload_n 2, 1, .inl (2, 0), true), (3, .aload_n 0, 1, .inl (0, 0), false), (4, .getfield 82, 3, .inl (3, 10), false), (7, .if_icmp .ge 56, 3, .inl (63, 0), false), (10, .aload_n 0, 1, .inl (0, 0), false), (11, .getfield 25, 3, .inl (3, 3), false), (14, .iload_n 2, 1, .inl (2, 0), false), (15, .iaload, 1, .inr (.inr 0), false), (16, .ifCond .ne 6, 3, .inl (22, 0), false), (19, .goto 38, 3, .inl (57, 0), false), (22, .aload_n 1, 1, .inl (1, 0), false), (23, .iload_n 2, 1, .inl (2, 0), false), (24, .invokevirtual 129, 3, .inr (.inl (2, 1, mq_No_stateIn)), false), (27, .istore_n 3, 1, .inl (3, 0), false), (28, .iload_n 3, 1, .inl (3, 0), false), (29, .aload_n 0, 1, .inl (0, 0), false), (30, .aload_n 1, 1, .inl (1, 0), false), (31, .aload_n 0, 1, .inl (0, 0), false), (32, .getfield 31, 3, .inl (3, 5), false), (35, .iload_n 2, 1, .inl (2, 0), false), (36, .iaload, 1, .inr (.inr 0), false), (37, .iload_n 3, 1, .inl (3, 0), false), (38, .aload_n 1, 1, .inl (1, 0), false), (39, .getfield 132, 3, .inl (2, 2), false), (42, .imul, 1, .inr (.inr 0), false), (43, .isub, 1, .inr (.inr 0), false), (44, .invokevirtual 135, 3, .inr (.inl (3, 2, mq_Wo_greatestState)), false), (47, .if_icmp .eq 10, 3, .inl (57, 0), false), (50, .aload_n 0, 1, .inl (0, 0), false), (51, .getfield 25, 3, .inl (3, 3), false), (54, .iload_n 2, 1, .inl (2, 0), false), (55, .iconst 0, 1, .inr (.inr 0), false), (56, .iastore, 1, .inr (.inr 0), false), (57, .iinc 2 1, 3, .inl (2, 0), false), (60, .goto (-58), 3, .inl (2, 0), false), (63, .return_, 1, .inr (.inr 0), false)]
theorem tk_Wo_dropOthers : sc_ok mq_Wo_dropOthers tb_Wo_dropOthers = true := by decide +kernel
theorem lk_Wo_dropOthers_0 : sc_lk tb_Wo_dropOthers 0 = some (.iconst 0, 1, .inr (.inr 0), false) := rfl
theorem lk_Wo_dropOthers_1 : sc_lk tb_Wo_dropOthers 1 = some (.istore_n 2, 1, .inl (2, 0), false) := rfl
theorem lk_Wo_dropOthers_2 : sc_lk tb_Wo_dropOthers 2 = some (.iload_n 2, 1, .inl (2, 0), true) := rfl
theorem lk_Wo_dropOthers_3 : sc_lk tb_Wo_dropOthers 3 = some (.aload_n 0, 1, .inl (0, 0), false) := rfl
theorem lk_Wo_dropOthers_4 : sc_lk tb_Wo_dropOthers 4 = some (.getfield 82, 3, .inl (3, 10), false) := rfl
theorem lk_Wo_dropOthers_7 : sc_lk tb_Wo_dropOthers 7 = some (.if_icmp .ge 56, 3, .inl (63, 0), false) := rfl
theorem lk_Wo_dropOthers_10 : sc_lk tb_Wo_dropOthers 10 = some (.aload_n 0, 1, .inl (0, 0), false) := rfl
theorem lk_Wo_dropOthers_11 : sc_lk tb_Wo_dropOthers 11 = some (.getfield 25, 3, .inl (3, 3), false) := rfl
theorem lk_Wo_dropOthers_14 : sc_lk tb_Wo_dropOthers 14 = some (.iload_n 2, 1, .inl (2, 0), false) := rfl
theorem lk_Wo_dropOthers_15 : sc_lk tb_Wo_dropOthers 15 = some (.iaload, 1, .inr (.inr 0), false) := rfl
theorem lk_Wo_dropOthers_16 : sc_lk tb_Wo_dropOthers 16 = some (.ifCond .ne 6, 3, .inl (22, 0), false) := rfl
theorem lk_Wo_dropOthers_19 : sc_lk tb_Wo_dropOthers 19 = some (.goto 38, 3, .inl (57, 0), false) := rfl
theorem lk_Wo_dropOthers_22 : sc_lk tb_Wo_dropOthers 22 = some (.aload_n 1, 1, .inl (1, 0), false) := rfl
theorem lk_Wo_dropOthers_23 : sc_lk tb_Wo_dropOthers 23 = some (.iload_n 2, 1, .inl (2, 0), false) := rfl
theorem lk_Wo_dropOthers_24 : sc_lk tb_Wo_dropOthers 24 = some (.invokevirtual 129, 3, .inr (.inl (2, 1, mq_No_stateIn)), false) := rfl
theorem lk_Wo_dropOthers_27 : sc_lk tb_Wo_dropOthers 27 = some (.istore_n 3, 1, .inl (3, 0), false) := rfl
theorem lk_Wo_dropOthers_28 : sc_lk tb_Wo_dropOthers 28 = some (.iload_n 3, 1, .inl (3, 0), false) := rfl
theorem lk_Wo_dropOthers_29 : sc_lk tb_Wo_dropOthers 29 = some (.aload_n 0, 1, .inl (0, 0), false) := rfl
theorem lk_Wo_dropOthers_30 : sc_lk tb_Wo_dropOthers 30 = some (.aload_n 1, 1, .inl (1, 0), false) := rfl
theorem lk_Wo_dropOthers_31 : sc_lk tb_Wo_dropOthers 31 = some (.aload_n 0, 1, .inl (0, 0), false) := rfl
theorem lk_Wo_dropOthers_32 : sc_lk tb_Wo_dropOthers 32 = some (.getfield 31, 3, .inl (3, 5), false) := rfl
theorem lk_Wo_dropOthers_35 : sc_lk tb_Wo_dropOthers 35 = some (.iload_n 2, 1, .inl (2, 0), false) := rfl
theorem lk_Wo_dropOthers_36 : sc_lk tb_Wo_dropOthers 36 = some (.iaload, 1, .inr (.inr 0), false) := rfl
theorem lk_Wo_dropOthers_37 : sc_lk tb_Wo_dropOthers 37 = some (.iload_n 3, 1, .inl (3, 0), false) := rfl
theorem lk_Wo_dropOthers_38 : sc_lk tb_Wo_dropOthers 38 = some (.aload_n 1, 1, .inl (1, 0), false) := rfl
theorem lk_Wo_dropOthers_39 : sc_lk tb_Wo_dropOthers 39 = some (.getfield 132, 3, .inl (2, 2), false) := rfl
theorem lk_Wo_dropOthers_42 : sc_lk tb_Wo_dropOthers 42 = some (.imul, 1, .inr (.inr 0), false) := rfl
theorem lk_Wo_dropOthers_43 : sc_lk tb_Wo_dropOthers 43 = some (.isub, 1, .inr (.inr 0), false) := rfl
theorem lk_Wo_dropOthers_44 : sc_lk tb_Wo_dropOthers 44 = some (.invokevirtual 135, 3, .inr (.inl (3, 2, mq_Wo_greatestState)), false) := rfl
theorem lk_Wo_dropOthers_47 : sc_lk tb_Wo_dropOthers 47 = some (.if_icmp .eq 10, 3, .inl (57, 0), false) := rfl
theorem lk_Wo_dropOthers_50 : sc_lk tb_Wo_dropOthers 50 = some (.aload_n 0, 1, .inl (0, 0), false) := rfl
theorem lk_Wo_dropOthers_51 : sc_lk tb_Wo_dropOthers 51 = some (.getfield 25, 3, .inl (3, 3), false) := rfl
theorem lk_Wo_dropOthers_54 : sc_lk tb_Wo_dropOthers 54 = some (.iload_n 2, 1, .inl (2, 0), false) := rfl
theorem lk_Wo_dropOthers_55 : sc_lk tb_Wo_dropOthers 55 = some (.iconst 0, 1, .inr (.inr 0), false) := rfl
theorem lk_Wo_dropOthers_56 : sc_lk tb_Wo_dropOthers 56 = some (.iastore, 1, .inr (.inr 0), false) := rfl
theorem lk_Wo_dropOthers_57 : sc_lk tb_Wo_dropOthers 57 = some (.iinc 2 1, 3, .inl (2, 0), false) := rfl
theorem lk_Wo_dropOthers_60 : sc_lk tb_Wo_dropOthers 60 = some (.goto (-58), 3, .inl (2, 0), false) := rfl
theorem lk_Wo_dropOthers_63 : sc_lk tb_Wo_dropOthers 63 = some (.return_, 1, .inr (.inr 0), false) := rfl
def tb_Wo_greatestState : sc_T := [(0, .iload_n 2, 1, .inl (2, 0), false), (1, .aload_n 1, 1, .inl (1, 0), false), (2, .getfield 85, 3, .inl (2, 1), false), (5, .iconst 1, 1, .inr (.inr 0), false), (6, .isub, 1, .inr (.inr 0), false), (7, .aload_n 1, 1, .inl (1, 0), false), (8, .getfield 132, 3, .inl (2, 2), false), (11, .imul, 1, .inr (.inr 0), false), (12, .iadd, 1, .inr (.inr 0), false), (13, .istore_n 3, 1, .inl (3, 0), false), (14, .iload_n 2, 1, .inl (2, 0), false), (15, .ifCond .lt 10, 3, .inl (25, 0), false), (18, .iload_n 3, 1, .inl (3, 0), false), (19, .sipush 243, 3, .inr (.inr 0), false), (22, .if_icmp .lt 5, 3, .inl (27, 0), false), (25, .iconst 0, 1, .inr (.inr 0), false), (26, .ireturn, 1, .inr (.inr 0), false), (27, .iconst 0, 1, .inr (.inr 0), false), (28, .istore 4, 2, .inl (4, 0), false), (30, .iconst 1, 1, .inr (.inr 0), false), (31, .istore 5, 2, .inl (5, 0), false), (33, .iload 5, 2, .inl (5, 0), true), (35, .aload_n 1, 1, .inl (1, 0), false), (36, .getfield 85, 3, .inl (2, 1), false), (39, .if_icmp .ge 45, 3, .inl (84, 0), false), (42, .aload_n 0, 1, .inl (0, 0), false), (43, .getfield 34, 3, .inl (3, 6), false), (46, .iload_n 2, 1, .inl (2, 0), false), (47, .iload 5, 2, .inl (5, 0), false), (49, .aload_n 1, 1, .inl (1, 0), false), (50, .getfield 132, 3, .inl (2, 2), false), (53, .imul, 1, .inr (.inr 0), false), (54, .iadd, 1, .inr (.inr 0), false), (55, .laload, 1, .inr (.inr 0), false), (56, .aload_n 0, 1, .inl (0, 0), false), (57, .getfield 34, 3, .inl (3, 6), false), (60, .iload_n 2, 1, .inl (2, 0), false), (61, .iload 4, 2, .inl (4, 0), false), (63, .aload_n 1, 1, .inl (1, 0), false), (64, .getfield 132, 3, .inl (2, 2), false), (67, .imul, 1, .inr (.inr 0), false), (68, .iadd, 1, .inr (.inr 0), false), (69, .laload, 1, .inr (.inr 0), false), (70, .lcmp, 1, .inr (.inr 0), false), (71, .ifCond .le 7, 3, .inl (78, 0), false), (74, .iload 5, 2, .inl (5, 0), false), (76, .istore 4, 2, .inl (4, 0), false), (78, .iinc 5 1, 3, .inl (5, 0), false), (81, .goto (-48), 3, .inl (33, 0), false), (84, .iload 4, 2, .inl (4, 0), false), (86, .ireturn, 1, .inr (.inr 0), false)]
theorem tk_Wo_greatestState : sc_ok mq_Wo_greatestState tb_Wo_greatestState = true := by decide +kernel
theorem lk_Wo_greatestState_0 : sc_lk tb_Wo_greatestState 0 = some (.iload_n 2, 1, .inl (2, 0), false) := rfl
theorem lk_Wo_greatestState_1 : sc_lk tb_Wo_greatestState 1 = some (.aload_n 1, 1, .inl (1, 0), false) := rfl
theorem lk_Wo_greatestState_2 : sc_lk tb_Wo_greatestState 2 = some (.getfield 85, 3, .inl (2, 1), false) := rfl
theorem lk_Wo_greatestState_5 : sc_lk tb_Wo_greatestState 5 = some (.iconst 1, 1, .inr (.inr 0), false) := rfl
theorem lk_Wo_greatestState_6 : sc_lk tb_Wo_greatestState 6 = some (.isub, 1, .inr (.inr 0), false) := rfl
theorem lk_Wo_greatestState_7 : sc_lk tb_Wo_greatestState 7 = some (.aload_n 1, 1, .inl (1, 0), false) := rfl
theorem lk_Wo_greatestState_8 : sc_lk tb_Wo_greatestState 8 = some (.getfield 132, 3, .inl (2, 2), false) := rfl
theorem lk_Wo_greatestState_11 : sc_lk tb_Wo_greatestState 11 = some (.imul, 1, .inr (.inr 0), false) := rfl
theorem lk_Wo_greatestState_12 : sc_lk tb_Wo_greatestState 12 = some (.iadd, 1, .inr (.inr 0), false) := rfl
theorem lk_Wo_greatestState_13 : sc_lk tb_Wo_greatestState 13 = some (.istore_n 3, 1, .inl (3, 0), false) := rfl
theorem lk_Wo_greatestState_14 : sc_lk tb_Wo_greatestState 14 = some (.iload_n 2, 1, .inl (2, 0), false) := rfl
theorem lk_Wo_greatestState_15 : sc_lk tb_Wo_greatestState 15 = some (.ifCond .lt 10, 3, .inl (25, 0), false) := rfl
theorem lk_Wo_greatestState_18 : sc_lk tb_Wo_greatestState 18 = some (.iload_n 3, 1, .inl (3, 0), false) := rfl
theorem lk_Wo_greatestState_19 : sc_lk tb_Wo_greatestState 19 = some (.sipush 243, 3, .inr (.inr 0), false) := rfl
theorem lk_Wo_greatestState_22 : sc_lk tb_Wo_greatestState 22 = some (.if_icmp .lt 5, 3, .inl (27, 0), false) := rfl
theorem lk_Wo_greatestState_25 : sc_lk tb_Wo_greatestState 25 = some (.iconst 0, 1, .inr (.inr 0), false) := rfl
theorem lk_Wo_greatestState_26 : sc_lk tb_Wo_greatestState 26 = some (.ireturn, 1, .inr (.inr 0), false) := rfl
theorem lk_Wo_greatestState_27 : sc_lk tb_Wo_greatestState 27 = some (.iconst 0, 1, .inr (.inr 0), false) := rfl
theorem lk_Wo_greatestState_28 : sc_lk tb_Wo_greatestState 28 = some (.istore 4, 2, .inl (4, 0), false) := rfl
theorem lk_Wo_greatestState_30 : sc_lk tb_Wo_greatestState 30 = some (.iconst 1, 1, .inr (.inr 0), false) := rfl
theorem lk_Wo_greatestState_31 : sc_lk tb_Wo_greatestState 31 = some (.istore 5, 2, .inl (5, 0), false) := rfl
theorem lk_Wo_greatestState_33 : sc_lk tb_Wo_greatestState 33 = some (.iload 5, 2, .inl (5, 0), true) := rfl
theorem lk_Wo_greatestState_35 : sc_lk tb_Wo_greatestState 35 = some (.aload_n 1, 1, .inl (1, 0), false) := rfl
theorem lk_Wo_greatestState_36 : sc_lk tb_Wo_greatestState 36 = some (.getfield 85, 3, .inl (2, 1), false) := rfl
theorem lk_Wo_greatestState_39 : sc_lk tb_Wo_greatestState 39 = some (.if_icmp .ge 45, 3, .inl (84, 0), false) := rfl
theorem lk_Wo_greatestState_42 : sc_lk tb_Wo_greatestState 42 = some (.aload_n 0, 1, .inl (0, 0), false) := rfl
theorem lk_Wo_greatestState_43 : sc_lk tb_Wo_greatestState 43 = some (.getfield 34, 3, .inl (3, 6), false) := rfl
theorem lk_Wo_greatestState_46 : sc_lk tb_Wo_greatestState 46 = some (.iload_n 2, 1, .inl (2, 0), false) := rfl
theorem lk_Wo_greatestState_47 : sc_lk tb_Wo_greatestState 47 = some (.iload 5, 2, .inl (5, 0), false) := rfl
theorem lk_Wo_greatestState_49 : sc_lk tb_Wo_greatestState 49 = some (.aload_n 1, 1, .inl (1, 0), false) := rfl
theorem lk_Wo_greatestState_50 : sc_lk tb_Wo_greatestState 50 = some (.getfield 132, 3, .inl (2, 2), false) := rfl
theorem lk_Wo_greatestState_53 : sc_lk tb_Wo_greatestState 53 = some (.imul, 1, .inr (.inr 0), false) := rfl
theorem lk_Wo_greatestState_54 : sc_lk tb_Wo_greatestState 54 = some (.iadd, 1, .inr (.inr 0), false) := rfl
theorem lk_Wo_greatestState_55 : sc_lk tb_Wo_greatestState 55 = some (.laload, 1, .inr (.inr 0), false) := rfl
theorem lk_Wo_greatestState_56 : sc_lk tb_Wo_greatestState 56 = some (.aload_n 0, 1, .inl (0, 0), false) := rfl
theorem lk_Wo_greatestState_57 : sc_lk tb_Wo_greatestState 57 = some (.getfield 34, 3, .inl (3, 6), false) := rfl
theorem lk_Wo_greatestState_60 : sc_lk tb_Wo_greatestState 60 = some (.iload_n 2, 1, .inl (2, 0), false) := rfl
theorem lk_Wo_greatestState_61 : sc_lk tb_Wo_greatestState 61 = some (.iload 4, 2, .inl (4, 0), false) := rfl
theorem lk_Wo_greatestState_63 : sc_lk tb_Wo_greatestState 63 = some (.aload_n 1, 1, .inl (1, 0), false) := rfl
theorem lk_Wo_greatestState_64 : sc_lk tb_Wo_greatestState 64 = some (.getfield 132, 3, .inl (2, 2), false) := rfl
theorem lk_Wo_greatestState_67 : sc_lk tb_Wo_greatestState 67 = some (.imul, 1, .inr (.inr 0), false) := rfl
theorem lk_Wo_greatestState_68 : sc_lk tb_Wo_greatestState 68 = some (.iadd, 1, .inr (.inr 0), false) := rfl
theorem lk_Wo_greatestState_69 : sc_lk tb_Wo_greatestState 69 = some (.laload, 1, .inr (.inr 0), false) := rfl
theorem lk_Wo_greatestState_70 : sc_lk tb_Wo_greatestState 70 = some (.lcmp, 1, .inr (.inr 0), false) := rfl
theorem lk_Wo_greatestState_71 : sc_lk tb_Wo_greatestState 71 = some (.ifCond .le 7, 3, .inl (78, 0), false) := rfl
theorem lk_Wo_greatestState_74 : sc_lk tb_Wo_greatestState 74 = some (.iload 5, 2, .inl (5, 0), false) := rfl
theorem lk_Wo_greatestState_76 : sc_lk tb_Wo_greatestState 76 = some (.istore 4, 2, .inl (4, 0), false) := rfl
theorem lk_Wo_greatestState_78 : sc_lk tb_Wo_greatestState 78 = some (.iinc 5 1, 3, .inl (5, 0), false) := rfl
theorem lk_Wo_greatestState_81 : sc_lk tb_Wo_greatestState 81 = some (.goto (-48), 3, .inl (33, 0), false) := rfl
theorem lk_Wo_greatestState_84 : sc_lk tb_Wo_greatestState 84 = some (.iload 4, 2, .inl (4, 0), false) := rfl
theorem lk_Wo_greatestState_86 : sc_lk tb_Wo_greatestState 86 = some (.ireturn, 1, .inr (.inr 0), false) := rfl
def tb_Wo_keyOfRow : sc_T := [(0, .aload_n 0, 1, .inl (0, 0), false), (1, .getfield 12, 3, .inl (3, 0), false), (4, .iload_n 1, 1, .inl (1, 0), false), (5, .invokevirtual 56, 3, .inr (.inl (0, 1, mq_Ch_has)), false), (8, .ifCond .ne 6, 3, .inl (14, 0), false), (11, .bipush (-9), 2, .inr (.inr 0), false), (13, .ireturn, 1, .inr (.inr 0), false), (14, .iconst 0, 1, .inr (.inr 0), false), (15, .istore_n 3, 1, .inl (3, 0), false), (16, .iconst 0, 1, .inr (.inr 0), false), (17, .istore 4, 2, .inl (4, 0), false), (19, .iload 4, 2, .inl (4, 0), true), (21, .iload_n 1, 1, .inl (1, 0), false), (22, .if_icmp .ge 77, 3, .inl (99, 0), false), (25, .iload 4, 2, .inl (4, 0), false), (27, .aload_n 2, 1, .inl (2, 0), false), (28, .arraylength, 1, .inr (.inr 0), false), (29, .if_icmp .ge 70, 3, .inl (99, 0), false), (32, .aload_n 0, 1, .inl (0, 0), false), (33, .getfield 22, 3, .inl (3, 2), false), (36, .iload_n 1, 1, .inl (1, 0), false), (37, .iaload, 1, .inr (.inr 0), false), (38, .iload 4, 2, .inl (4, 0), false), (40, .ishr, 1, .inr (.inr 0), false), (41, .iconst 1, 1, .inr (.inr 0), false), (42, .iand, 1, .inr (.inr 0), false), (43, .ifCond .ne 6, 3, .inl (49, 0), false), (46, .goto 47, 3, .inl (93, 0), false), (49, .aload_n 0, 1, .inl (0, 0), false), (50, .getfield 12, 3, .inl (3, 0), false), (53, .getfield 48, 3, .inl (0, 0), false), (56, .iload 4, 2, .inl (4, 0), false), (58, .aaload, 1, .inr (.inr 0), false), (59, .aload_n 2, 1, .inl (2, 0), false), (60, .iload 4, 2, .inl (4, 0), false), (62, .iaload, 1, .inr (.inr 0), false), (63, .invokevirtual 144, 3, .inr (.inl (2, 1, mq_No_hasState)), false), (66, .ifCond .ne 6, 3, .inl (72, 0), false), (69, .bipush (-9), 2, .inr (.inr 0), false), (71, .ireturn, 1, .inr (.inr 0), false), (72, .iload_n 3, 1, .inl (3, 0), false), (73, .aload_n 2, 1, .inl (2, 0), false), (74, .iload 4, 2, .inl (4, 0), false), (76, .iaload, 1, .inr (.inr 0), false), (77, .aload_n 0, 1, .inl (0, 0), false), (78, .getfield 12, 3, .inl (3, 0), false), (81, .getfield 48, 3, .inl (0, 0), false), (84, .iload 4, 2, .inl (4, 0), false), (86, .aaload, 1, .inr (.inr 0), false), (87, .getfield 132, 3, .inl (2, 2), false), (90, .imul, 1, .inr (.inr 0), false), (91, .iadd, 1, .inr (.inr 0), false), (92, .istore_n 3, 1, .inl (3, 0), false), (93, .iinc 4 1, 3, .inl (4, 0), false), (96, .goto (-77), 3, .inl (19, 0), false), (99, .iload_n 3, 1, .inl (3, 0), false), (100, .ireturn, 1, .inr (.inr 0), false)]
theorem tk_Wo_keyOfRow : sc_ok mq_Wo_keyOfRow tb_Wo_keyOfRow = true := by decide +kernel
theorem lk_Wo_keyOfRow_0 : sc_lk tb_Wo_keyOfRow 0 = some (.aload_n 0, 1, .inl (0, 0), false) := rfl
theorem lk_Wo_keyOfRow_1 : sc_lk tb_Wo_keyOfRow 1 = some (.getfield 12, 3, .inl (3, 0), false) := rfl
theorem lk_Wo_keyOfRow_4 : sc_lk tb_Wo_keyOfRow 4 = some (.iload_n 1, 1, .inl (1, 0), false) := rfl
theorem lk_Wo_keyOfRow_5 : sc_lk tb_Wo_keyOfRow 5 = some (.invokevirtual 56, 3, .inr (.inl (0, 1, mq_Ch_has)), false) := rfl
theorem lk_Wo_keyOfRow_8 : sc_lk tb_Wo_keyOfRow 8 = some (.ifCond .ne 6, 3, .inl (14, 0), false) := rfl
theorem lk_Wo_keyOfRow_11 : sc_lk tb_Wo_keyOfRow 11 = some (.bipush (-9), 2, .inr (.inr 0), false) := rfl
theorem lk_Wo_keyOfRow_13 : sc_lk tb_Wo_keyOfRow 13 = some (.ireturn, 1, .inr (.inr 0), false) := rfl
theorem lk_Wo_keyOfRow_14 : sc_lk tb_Wo_keyOfRow 14 = some (.iconst 0, 1, .inr (.inr 0), false) := rfl
theorem lk_Wo_keyOfRow_15 : sc_lk tb_Wo_keyOfRow 15 = some (.istore_n 3, 1, .inl (3, 0), false) := rfl
theorem lk_Wo_keyOfRow_16 : sc_lk tb_Wo_keyOfRow 16 = some (.iconst 0, 1, .inr (.inr 0), false) := rfl
theorem lk_Wo_keyOfRow_17 : sc_lk tb_Wo_keyOfRow 17 = some (.istore 4, 2, .inl (4, 0), false) := rfl
theorem lk_Wo_keyOfRow_19 : sc_lk tb_Wo_keyOfRow 19 = some (.iload 4, 2, .inl (4, 0), true) := rfl
theorem lk_Wo_keyOfRow_21 : sc_lk tb_Wo_keyOfRow 21 = some (.iload_n 1, 1, .inl (1, 0), false) := rfl
theorem lk_Wo_keyOfRow_22 : sc_lk tb_Wo_keyOfRow 22 = some (.if_icmp .ge 77, 3, .inl (99, 0), false) := rfl
theorem lk_Wo_keyOfRow_25 : sc_lk tb_Wo_keyOfRow 25 = some (.iload 4, 2, .inl (4, 0), false) := rfl
theorem lk_Wo_keyOfRow_27 : sc_lk tb_Wo_keyOfRow 27 = some (.aload_n 2, 1, .inl (2, 0), false) := rfl
theorem lk_Wo_keyOfRow_28 : sc_lk tb_Wo_keyOfRow 28 = some (.arraylength, 1, .inr (.inr 0), false) := rfl
theorem lk_Wo_keyOfRow_29 : sc_lk tb_Wo_keyOfRow 29 = some (.if_icmp .ge 70, 3, .inl (99, 0), false) := rfl
theorem lk_Wo_keyOfRow_32 : sc_lk tb_Wo_keyOfRow 32 = some (.aload_n 0, 1, .inl (0, 0), false) := rfl
theorem lk_Wo_keyOfRow_33 : sc_lk tb_Wo_keyOfRow 33 = some (.getfield 22, 3, .inl (3, 2), false) := rfl
theorem lk_Wo_keyOfRow_36 : sc_lk tb_Wo_keyOfRow 36 = some (.iload_n 1, 1, .inl (1, 0), false) := rfl
theorem lk_Wo_keyOfRow_37 : sc_lk tb_Wo_keyOfRow 37 = some (.iaload, 1, .inr (.inr 0), false) := rfl
theorem lk_Wo_keyOfRow_38 : sc_lk tb_Wo_keyOfRow 38 = some (.iload 4, 2, .inl (4, 0), false) := rfl
theorem lk_Wo_keyOfRow_40 : sc_lk tb_Wo_keyOfRow 40 = some (.ishr, 1, .inr (.inr 0), false) := rfl
theorem lk_Wo_keyOfRow_41 : sc_lk tb_Wo_keyOfRow 41 = some (.iconst 1, 1, .inr (.inr 0), false) := rfl
theorem lk_Wo_keyOfRow_42 : sc_lk tb_Wo_keyOfRow 42 = some (.iand, 1, .inr (.inr 0), false) := rfl
theorem lk_Wo_keyOfRow_43 : sc_lk tb_Wo_keyOfRow 43 = some (.ifCond .ne 6, 3, .inl (49, 0), false) := rfl
theorem lk_Wo_keyOfRow_46 : sc_lk tb_Wo_keyOfRow 46 = some (.goto 47, 3, .inl (93, 0), false) := rfl
theorem lk_Wo_keyOfRow_49 : sc_lk tb_Wo_keyOfRow 49 = some (.aload_n 0, 1, .inl (0, 0), false) := rfl
theorem lk_Wo_keyOfRow_50 : sc_lk tb_Wo_keyOfRow 50 = some (.getfield 12, 3, .inl (3, 0), false) := rfl
theorem lk_Wo_keyOfRow_53 : sc_lk tb_Wo_keyOfRow 53 = some (.getfield 48, 3, .inl (0, 0), false) := rfl
theorem lk_Wo_keyOfRow_56 : sc_lk tb_Wo_keyOfRow 56 = some (.iload 4, 2, .inl (4, 0), false) := rfl
theorem lk_Wo_keyOfRow_58 : sc_lk tb_Wo_keyOfRow 58 = some (.aaload, 1, .inr (.inr 0), false) := rfl
theorem lk_Wo_keyOfRow_59 : sc_lk tb_Wo_keyOfRow 59 = some (.aload_n 2, 1, .inl (2, 0), false) := rfl
theorem lk_Wo_keyOfRow_60 : sc_lk tb_Wo_keyOfRow 60 = some (.iload 4, 2, .inl (4, 0), false) := rfl
theorem lk_Wo_keyOfRow_62 : sc_lk tb_Wo_keyOfRow 62 = some (.iaload, 1, .inr (.inr 0), false) := rfl
theorem lk_Wo_keyOfRow_63 : sc_lk tb_Wo_keyOfRow 63 = some (.invokevirtual 144, 3, .inr (.inl (2, 1, mq_No_hasState)), false) := rfl
theorem lk_Wo_keyOfRow_66 : sc_lk tb_Wo_keyOfRow 66 = some (.ifCond .ne 6, 3, .inl (72, 0), false) := rfl
theorem lk_Wo_keyOfRow_69 : sc_lk tb_Wo_keyOfRow 69 = some (.bipush (-9), 2, .inr (.inr 0), false) := rfl
theorem lk_Wo_keyOfRow_71 : sc_lk tb_Wo_keyOfRow 71 = some (.ireturn, 1, .inr (.inr 0), false) := rfl
theorem lk_Wo_keyOfRow_72 : sc_lk tb_Wo_keyOfRow 72 = some (.iload_n 3, 1, .inl (3, 0), false) := rfl
theorem lk_Wo_keyOfRow_73 : sc_lk tb_Wo_keyOfRow 73 = some (.aload_n 2, 1, .inl (2, 0), false) := rfl
theorem lk_Wo_keyOfRow_74 : sc_lk tb_Wo_keyOfRow 74 = some (.iload 4, 2, .inl (4, 0), false) := rfl
theorem lk_Wo_keyOfRow_76 : sc_lk tb_Wo_keyOfRow 76 = some (.iaload, 1, .inr (.inr 0), false) := rfl
theorem lk_Wo_keyOfRow_77 : sc_lk tb_Wo_keyOfRow 77 = some (.aload_n 0, 1, .inl (0, 0), false) := rfl
theorem lk_Wo_keyOfRow_78 : sc_lk tb_Wo_keyOfRow 78 = some (.getfield 12, 3, .inl (3, 0), false) := rfl
theorem lk_Wo_keyOfRow_81 : sc_lk tb_Wo_keyOfRow 81 = some (.getfield 48, 3, .inl (0, 0), false) := rfl
theorem lk_Wo_keyOfRow_84 : sc_lk tb_Wo_keyOfRow 84 = some (.iload 4, 2, .inl (4, 0), false) := rfl
theorem lk_Wo_keyOfRow_86 : sc_lk tb_Wo_keyOfRow 86 = some (.aaload, 1, .inr (.inr 0), false) := rfl
theorem lk_Wo_keyOfRow_87 : sc_lk tb_Wo_keyOfRow 87 = some (.getfield 132, 3, .inl (2, 2), false) := rfl
theorem lk_Wo_keyOfRow_90 : sc_lk tb_Wo_keyOfRow 90 = some (.imul, 1, .inr (.inr 0), false) := rfl
theorem lk_Wo_keyOfRow_91 : sc_lk tb_Wo_keyOfRow 91 = some (.iadd, 1, .inr (.inr 0), false) := rfl
theorem lk_Wo_keyOfRow_92 : sc_lk tb_Wo_keyOfRow 92 = some (.istore_n 3, 1, .inl (3, 0), false) := rfl
theorem lk_Wo_keyOfRow_93 : sc_lk tb_Wo_keyOfRow 93 = some (.iinc 4 1, 3, .inl (4, 0), false) := rfl
theorem lk_Wo_keyOfRow_96 : sc_lk tb_Wo_keyOfRow 96 = some (.goto (-77), 3, .inl (19, 0), false) := rfl
theorem lk_Wo_keyOfRow_99 : sc_lk tb_Wo_keyOfRow 99 = some (.iload_n 3, 1, .inl (3, 0), false) := rfl
theorem lk_Wo_keyOfRow_100 : sc_lk tb_Wo_keyOfRow 100 = some (.ireturn, 1, .inr (.inr 0), false) := rfl
def tb_Wo_decide : sc_T := [(0, .aload_n 0, 1, .inl (0, 0), false), (1, .getfield 12, 3, .inl (3, 0), false), (4, .iload_n 1, 1, .inl (1, 0), false), (5, .invokevirtual 56, 3, .inr (.inl (0, 1, mq_Ch_has)), false), (8, .ifCond .ne 5, 3, .inl (13, 0), false), (11, .iconst 0, 1, .inr (.inr 0), false), (12, .ireturn, 1, .inr (.inr 0), false), (13, .aload_n 0, 1, .inl (0, 0), false), (14, .iload_n 1, 1, .inl (1, 0), false), (15, .invokevirtual 116, 3, .inr (.inl (3, 1, mq_Wo_settleBehind)), false), (18, .aload_n 0, 1, .inl (0, 0), false), (19, .iload_n 1, 1, .inl (1, 0), false), (20, .invokevirtual 122, 3, .inr (.inl (3, 1, mq_Wo_sumUp)), false), (23, .aload_n 0, 1, .inl (0, 0), false), (24, .aload_n 0, 1, .inl (0, 0), false), (25, .getfield 12, 3, .inl (3, 0), false), (28, .getfield 48, 3, .inl (0, 0), false), (31, .iload_n 1, 1, .inl (1, 0), false), (32, .aaload, 1, .inr (.inr 0), false), (33, .iload_n 2, 1, .inl (2, 0), false), (34, .invokevirtual 135, 3, .inr (.inl (3, 2, mq_Wo_greatestState)), false), (37, .ireturn, 1, .inr (.inr 0), false)]
theorem tk_Wo_decide : sc_ok mq_Wo_decide tb_Wo_decide = true := by decide +kernel
theorem lk_Wo_decide_0 : sc_lk tb_Wo_decide 0 = some (.aload_n 0, 1, .inl (0, 0), false) := rfl
theorem lk_Wo_decide_1 : sc_lk tb_Wo_decide 1 = some (.getfield 12, 3, .inl (3, 0), false) := rfl
theorem lk_Wo_decide_4 : sc_lk tb_Wo_decide 4 = some (.iload_n 1, 1, .inl (1, 0), false) := rfl
theorem lk_Wo_decide_5 : sc_lk tb_Wo_decide 5 = some (.invokevirtual 56, 3, .inr (.inl (0, 1, mq_Ch_has)), false) := rfl
theorem lk_Wo_decide_8 : sc_lk tb_Wo_decide 8 = some (.ifCond .ne 5, 3, .inl (13, 0), false) := rfl
theorem lk_Wo_decide_11 : sc_lk tb_Wo_decide 11 = some (.iconst 0, 1, .inr (.inr 0), false) := rfl
theorem lk_Wo_decide_12 : sc_lk tb_Wo_decide 12 = some (.ireturn, 1, .inr (.inr 0), false) := rfl
theorem lk_Wo_decide_13 : sc_lk tb_Wo_decide 13 = some (.aload_n 0, 1, .inl (0, 0), false) := rfl
theorem lk_Wo_decide_14 : sc_lk tb_Wo_decide 14 = some (.iload_n 1, 1, .inl (1, 0), false) := rfl
theorem lk_Wo_decide_15 : sc_lk tb_Wo_decide 15 = some (.invokevirtual 116, 3, .inr (.inl (3, 1, mq_Wo_settleBehind)), false) := rfl
theorem lk_Wo_decide_18 : sc_lk tb_Wo_decide 18 = some (.aload_n 0, 1, .inl (0, 0), false) := rfl
theorem lk_Wo_decide_19 : sc_lk tb_Wo_decide 19 = some (.iload_n 1, 1, .inl (1, 0), false) := rfl
theorem lk_Wo_decide_20 : sc_lk tb_Wo_decide 20 = some (.invokevirtual 122, 3, .inr (.inl (3, 1, mq_Wo_sumUp)), false) := rfl
theorem lk_Wo_decide_23 : sc_lk tb_Wo_decide 23 = some (.aload_n 0, 1, .inl (0, 0), false) := rfl
theorem lk_Wo_decide_24 : sc_lk tb_Wo_decide 24 = some (.aload_n 0, 1, .inl (0, 0), false) := rfl
theorem lk_Wo_decide_25 : sc_lk tb_Wo_decide 25 = some (.getfield 12, 3, .inl (3, 0), false) := rfl
theorem lk_Wo_decide_28 : sc_lk tb_Wo_decide 28 = some (.getfield 48, 3, .inl (0, 0), false) := rfl
theorem lk_Wo_decide_31 : sc_lk tb_Wo_decide 31 = some (.iload_n 1, 1, .inl (1, 0), false) := rfl
theorem lk_Wo_decide_32 : sc_lk tb_Wo_decide 32 = some (.aaload, 1, .inr (.inr 0), false) := rfl
theorem lk_Wo_decide_33 : sc_lk tb_Wo_decide 33 = some (.iload_n 2, 1, .inl (2, 0), false) := rfl
theorem lk_Wo_decide_34 : sc_lk tb_Wo_decide 34 = some (.invokevirtual 135, 3, .inr (.inl (3, 2, mq_Wo_greatestState)), false) := rfl
theorem lk_Wo_decide_37 : sc_lk tb_Wo_decide 37 = some (.ireturn, 1, .inr (.inr 0), false) := rfl
def tb_Wo_supposeSight : sc_T := [(0, .aload_n 0, 1, .inl (0, 0), false), (1, .getfield 12, 3, .inl (3, 0), false), (4, .iload_n 1, 1, .inl (1, 0), false), (5, .invokevirtual 56, 3, .inr (.inl (0, 1, mq_Ch_has)), false), (8, .ifCond .eq 15, 3, .inl (23, 0), false), (11, .aload_n 0, 1, .inl (0, 0), false), (12, .getfield 18, 3, .inl (3, 1), false), (15, .iload_n 1, 1, .inl (1, 0), false), (16, .dup2, 1, .inr (.inr 0), false), (17, .iaload, 1, .inr (.inr 0), false), (18, .iconst 1, 1, .inr (.inr 0), false), (19, .iload_n 2, 1, .inl (2, 0), false), (20, .ishl, 1, .inr (.inr 0), false), (21, .ior, 1, .inr (.inr 0), false), (22, .iastore, 1, .inr (.inr 0), false), (23, .return_, 1, .inr (.inr 0), false)]
theorem tk_Wo_supposeSight : sc_ok mq_Wo_supposeSight tb_Wo_supposeSight = true := by decide +kernel
theorem lk_Wo_supposeSight_0 : sc_lk tb_Wo_supposeSight 0 = some (.aload_n 0, 1, .inl (0, 0), false) := rfl
theorem lk_Wo_supposeSight_1 : sc_lk tb_Wo_supposeSight 1 = some (.getfield 12, 3, .inl (3, 0), false) := rfl
theorem lk_Wo_supposeSight_4 : sc_lk tb_Wo_supposeSight 4 = some (.iload_n 1, 1, .inl (1, 0), false) := rfl
theorem lk_Wo_supposeSight_5 : sc_lk tb_Wo_supposeSight 5 = some (.invokevirtual 56, 3, .inr (.inl (0, 1, mq_Ch_has)), false) := rfl
theorem lk_Wo_supposeSight_8 : sc_lk tb_Wo_supposeSight 8 = some (.ifCond .eq 15, 3, .inl (23, 0), false) := rfl
theorem lk_Wo_supposeSight_11 : sc_lk tb_Wo_supposeSight 11 = some (.aload_n 0, 1, .inl (0, 0), false) := rfl
theorem lk_Wo_supposeSight_12 : sc_lk tb_Wo_supposeSight 12 = some (.getfield 18, 3, .inl (3, 1), false) := rfl
theorem lk_Wo_supposeSight_15 : sc_lk tb_Wo_supposeSight 15 = some (.iload_n 1, 1, .inl (1, 0), false) := rfl
theorem lk_Wo_supposeSight_16 : sc_lk tb_Wo_supposeSight 16 = some (.dup2, 1, .inr (.inr 0), false) := rfl
theorem lk_Wo_supposeSight_17 : sc_lk tb_Wo_supposeSight 17 = some (.iaload, 1, .inr (.inr 0), false) := rfl
theorem lk_Wo_supposeSight_18 : sc_lk tb_Wo_supposeSight 18 = some (.iconst 1, 1, .inr (.inr 0), false) := rfl
theorem lk_Wo_supposeSight_19 : sc_lk tb_Wo_supposeSight 19 = some (.iload_n 2, 1, .inl (2, 0), false) := rfl
theorem lk_Wo_supposeSight_20 : sc_lk tb_Wo_supposeSight 20 = some (.ishl, 1, .inr (.inr 0), false) := rfl
theorem lk_Wo_supposeSight_21 : sc_lk tb_Wo_supposeSight 21 = some (.ior, 1, .inr (.inr 0), false) := rfl
theorem lk_Wo_supposeSight_22 : sc_lk tb_Wo_supposeSight 22 = some (.iastore, 1, .inr (.inr 0), false) := rfl
theorem lk_Wo_supposeSight_23 : sc_lk tb_Wo_supposeSight 23 = some (.return_, 1, .inr (.inr 0), false) := rfl
def tb_Wo_supposeAllSights : sc_T := [(0, .iconst 0, 1, .inr (.inr 0), false), (1, .istore_n 1, 1, .inl (1, 0), false), (2, .iconst 0, 1, .inr (.inr 0), false), (3, .istore_n 2, 1, .inl (2, 0), false), (4, .iload_n 2, 1, .inl (2, 0), true), (5, .aload_n 0, 1, .inl (0, 0), false), (6, .getfield 12, 3, .inl (3, 0), false), (9, .getfield 60, 3, .inl (0, 1), false), (12, .if_icmp .ge 54, 3, .inl (66, 0), false), (15, .aload_n 0, 1, .inl (0, 0), false), (16, .getfield 12, 3, .inl (3, 0), false), (19, .getfield 48, 3, .inl (0, 0), false), (22, .iload_n 2, 1, .inl (2, 0), false), (23, .aaload, 1, .inr (.inr 0), false), (24, .getfield 63, 3, .inl (2, 0), false), (27, .iconst 2, 1, .inr (.inr 0), false), (28, .if_icmp .ne 10, 3, .inl (38, 0), false), (31, .aload_n 0, 1, .inl (0, 0), false), (32, .getfield 18, 3, .inl (3, 1), false), (35, .iload_n 2, 1, .inl (2, 0), false), (36, .iload_n 1, 1, .inl (1, 0), false), (37, .iastore, 1, .inr (.inr 0), false), (38, .aload_n 0, 1, .inl (0, 0), false), (39, .getfield 12, 3, .inl (3, 0), false), (42, .getfield 48, 3, .inl (0, 0), false), (45, .iload_n 2, 1, .inl (2, 0), false), (46, .aaload, 1, .inr (.inr 0), false), (47, .getfield 63, 3, .inl (2, 0), false), (50, .iconst 1, 1, .inr (.inr 0), false), (51, .if_icmp .ne 9, 3, .inl (60, 0), false), (54, .iload_n 1, 1, .inl (1, 0), false), (55, .iconst 1, 1, .inr (.inr 0), false), (56, .iload_n 2, 1, .inl (2, 0), false), (57, .ishl, 1, .inr (.inr 0), false), (58, .ior, 1, .inr (.inr 0), false), (59, .istore_n 1, 1, .inl (1, 0), false), (60, .iinc 2 1, 3, .inl (2, 0), false), (63, .goto (-59), 3, .inl (4, 0), false), (66, .return_, 1, .inr (.inr 0), false)]
theorem tk_Wo_supposeAllSights : sc_ok mq_Wo_supposeAllSights tb_Wo_supposeAllSights = true := by decide +kernel
theorem lk_Wo_supposeAllSights_0 : sc_lk tb_Wo_supposeAllSights 0 = some (.iconst 0, 1, .inr (.inr 0), false) := rfl
theorem lk_Wo_supposeAllSights_1 : sc_lk tb_Wo_supposeAllSights 1 = some (.istore_n 1, 1, .inl (1, 0), false) := rfl
theorem lk_Wo_supposeAllSights_2 : sc_lk tb_Wo_supposeAllSights 2 = some (.iconst 0, 1, .inr (.inr 0), false) := rfl
theorem lk_Wo_supposeAllSights_3 : sc_lk tb_Wo_supposeAllSights 3 = some (.istore_n 2, 1, .inl (2, 0), false) := rfl
theorem lk_Wo_supposeAllSights_4 : sc_lk tb_Wo_supposeAllSights 4 = some (.iload_n 2, 1, .inl (2, 0), true) := rfl
theorem lk_Wo_supposeAllSights_5 : sc_lk tb_Wo_supposeAllSights 5 = some (.aload_n 0, 1, .inl (0, 0), false) := rfl
theorem lk_Wo_supposeAllSights_6 : sc_lk tb_Wo_supposeAllSights 6 = some (.getfield 12, 3, .inl (3, 0), false) := rfl
theorem lk_Wo_supposeAllSights_9 : sc_lk tb_Wo_supposeAllSights 9 = some (.getfield 60, 3, .inl (0, 1), false) := rfl
theorem lk_Wo_supposeAllSights_12 : sc_lk tb_Wo_supposeAllSights 12 = some (.if_icmp .ge 54, 3, .inl (66, 0), false) := rfl
theorem lk_Wo_supposeAllSights_15 : sc_lk tb_Wo_supposeAllSights 15 = some (.aload_n 0, 1, .inl (0, 0), false) := rfl
theorem lk_Wo_supposeAllSights_16 : sc_lk tb_Wo_supposeAllSights 16 = some (.getfield 12, 3, .inl (3, 0), false) := rfl
theorem lk_Wo_supposeAllSights_19 : sc_lk tb_Wo_supposeAllSights 19 = some (.getfield 48, 3, .inl (0, 0), false) := rfl
theorem lk_Wo_supposeAllSights_22 : sc_lk tb_Wo_supposeAllSights 22 = some (.iload_n 2, 1, .inl (2, 0), false) := rfl
theorem lk_Wo_supposeAllSights_23 : sc_lk tb_Wo_supposeAllSights 23 = some (.aaload, 1, .inr (.inr 0), false) := rfl
theorem lk_Wo_supposeAllSights_24 : sc_lk tb_Wo_supposeAllSights 24 = some (.getfield 63, 3, .inl (2, 0), false) := rfl
theorem lk_Wo_supposeAllSights_27 : sc_lk tb_Wo_supposeAllSights 27 = some (.iconst 2, 1, .inr (.inr 0), false) := rfl
theorem lk_Wo_supposeAllSights_28 : sc_lk tb_Wo_supposeAllSights 28 = some (.if_icmp .ne 10, 3, .inl (38, 0), false) := rfl
theorem lk_Wo_supposeAllSights_31 : sc_lk tb_Wo_supposeAllSights 31 = some (.aload_n 0, 1, .inl (0, 0), false) := rfl
theorem lk_Wo_supposeAllSights_32 : sc_lk tb_Wo_supposeAllSights 32 = some (.getfield 18, 3, .inl (3, 1), false) := rfl
theorem lk_Wo_supposeAllSights_35 : sc_lk tb_Wo_supposeAllSights 35 = some (.iload_n 2, 1, .inl (2, 0), false) := rfl
theorem lk_Wo_supposeAllSights_36 : sc_lk tb_Wo_supposeAllSights 36 = some (.iload_n 1, 1, .inl (1, 0), false) := rfl
theorem lk_Wo_supposeAllSights_37 : sc_lk tb_Wo_supposeAllSights 37 = some (.iastore, 1, .inr (.inr 0), false) := rfl
theorem lk_Wo_supposeAllSights_38 : sc_lk tb_Wo_supposeAllSights 38 = some (.aload_n 0, 1, .inl (0, 0), false) := rfl
theorem lk_Wo_supposeAllSights_39 : sc_lk tb_Wo_supposeAllSights 39 = some (.getfield 12, 3, .inl (3, 0), false) := rfl
theorem lk_Wo_supposeAllSights_42 : sc_lk tb_Wo_supposeAllSights 42 = some (.getfield 48, 3, .inl (0, 0), false) := rfl
theorem lk_Wo_supposeAllSights_45 : sc_lk tb_Wo_supposeAllSights 45 = some (.iload_n 2, 1, .inl (2, 0), false) := rfl
theorem lk_Wo_supposeAllSights_46 : sc_lk tb_Wo_supposeAllSights 46 = some (.aaload, 1, .inr (.inr 0), false) := rfl
theorem lk_Wo_supposeAllSights_47 : sc_lk tb_Wo_supposeAllSights 47 = some (.getfield 63, 3, .inl (2, 0), false) := rfl
theorem lk_Wo_supposeAllSights_50 : sc_lk tb_Wo_supposeAllSights 50 = some (.iconst 1, 1, .inr (.inr 0), false) := rfl
theorem lk_Wo_supposeAllSights_51 : sc_lk tb_Wo_supposeAllSights 51 = some (.if_icmp .ne 9, 3, .inl (60, 0), false) := rfl
theorem lk_Wo_supposeAllSights_54 : sc_lk tb_Wo_supposeAllSights 54 = some (.iload_n 1, 1, .inl (1, 0), false) := rfl
theorem lk_Wo_supposeAllSights_55 : sc_lk tb_Wo_supposeAllSights 55 = some (.iconst 1, 1, .inr (.inr 0), false) := rfl
theorem lk_Wo_supposeAllSights_56 : sc_lk tb_Wo_supposeAllSights 56 = some (.iload_n 2, 1, .inl (2, 0), false) := rfl
theorem lk_Wo_supposeAllSights_57 : sc_lk tb_Wo_supposeAllSights 57 = some (.ishl, 1, .inr (.inr 0), false) := rfl
theorem lk_Wo_supposeAllSights_58 : sc_lk tb_Wo_supposeAllSights 58 = some (.ior, 1, .inr (.inr 0), false) := rfl
theorem lk_Wo_supposeAllSights_59 : sc_lk tb_Wo_supposeAllSights 59 = some (.istore_n 1, 1, .inl (1, 0), false) := rfl
theorem lk_Wo_supposeAllSights_60 : sc_lk tb_Wo_supposeAllSights 60 = some (.iinc 2 1, 3, .inl (2, 0), false) := rfl
theorem lk_Wo_supposeAllSights_63 : sc_lk tb_Wo_supposeAllSights 63 = some (.goto (-59), 3, .inl (4, 0), false) := rfl
theorem lk_Wo_supposeAllSights_66 : sc_lk tb_Wo_supposeAllSights 66 = some (.return_, 1, .inr (.inr 0), false) := rfl
def tb_Wo_supposeInHand : sc_T := [(0, .aload_n 0, 1, .inl (0, 0), false), (1, .getfield 12, 3, .inl (3, 0), false), (4, .iload_n 1, 1, .inl (1, 0), false), (5, .invokevirtual 56, 3, .inr (.inl (0, 1, mq_Ch_has)), false), (8, .ifCond .ne 4, 3, .inl (12, 0), false), (11, .return_, 1, .inr (.inr 0), false), (12, .aload_n 0, 1, .inl (0, 0), false), (13, .iload_n 1, 1, .inl (1, 0), false), (14, .putfield 44, 3, .inl (3, 11), false), (17, .aload_n 0, 1, .inl (0, 0), false), (18, .getfield 18, 3, .inl (3, 1), false), (21, .iload_n 1, 1, .inl (1, 0), false), (22, .iconst 0, 1, .inr (.inr 0), false), (23, .iastore, 1, .inr (.inr 0), false), (24, .iconst 0, 1, .inr (.inr 0), false), (25, .istore_n 2, 1, .inl (2, 0), false), (26, .iload_n 2, 1, .inl (2, 0), true), (27, .iload_n 1, 1, .inl (1, 0), false), (28, .if_icmp .ge 53, 3, .inl (81, 0), false), (31, .aload_n 0, 1, .inl (0, 0), false), (32, .getfield 12, 3, .inl (3, 0), false), (35, .getfield 48, 3, .inl (0, 0), false), (38, .iload_n 2, 1, .inl (2, 0), false), (39, .aaload, 1, .inr (.inr 0), false), (40, .getfield 63, 3, .inl (2, 0), false), (43, .iconst 1, 1, .inr (.inr 0), false), (44, .if_icmp .ne 31, 3, .inl (75, 0), false), (47, .aload_n 0, 1, .inl (0, 0), false), (48, .getfield 12, 3, .inl (3, 0), false), (51, .getfield 48, 3, .inl (0, 0), false), (54, .iload_n 1, 1, .inl (1, 0), false), (55, .aaload, 1, .inr (.inr 0), false), (56, .iload_n 2, 1, .inl (2, 0), false), (57, .invokevirtual 66, 3, .inr (.inl (2, 1, mq_No_isChildOf)), false), (60, .ifCond .eq 15, 3, .inl (75, 0), false), (63, .aload_n 0, 1, .inl (0, 0), false), (64, .getfield 18, 3, .inl (3, 1), false), (67, .iload_n 1, 1, .inl (1, 0), false), (68, .dup2, 1, .inr (.inr 0), false), (69, .iaload, 1, .inr (.inr 0), false), (70, .iconst 1, 1, .inr (.inr 0), false), (71, .iload_n 2, 1, .inl (2, 0), false), (72, .ishl, 1, .inr (.inr 0), false), (73, .ior, 1, .inr (.inr 0), false), (74, .iastore, 1, .inr (.inr 0), false), (75, .iinc 2 1, 3, .inl (2, 0), false), (78, .goto (-52), 3, .inl (26, 0), false), (81, .return_, 1, .inr (.inr 0), false)]
theorem tk_Wo_supposeInHand : sc_ok mq_Wo_supposeInHand tb_Wo_supposeInHand = true := by decide +kernel
theorem lk_Wo_supposeInHand_0 : sc_lk tb_Wo_supposeInHand 0 = some (.aload_n 0, 1, .inl (0, 0), false) := rfl
theorem lk_Wo_supposeInHand_1 : sc_lk tb_Wo_supposeInHand 1 = some (.getfield 12, 3, .inl (3, 0), false) := rfl
theorem lk_Wo_supposeInHand_4 : sc_lk tb_Wo_supposeInHand 4 = some (.iload_n 1, 1, .inl (1, 0), false) := rfl
theorem lk_Wo_supposeInHand_5 : sc_lk tb_Wo_supposeInHand 5 = some (.invokevirtual 56, 3, .inr (.inl (0, 1, mq_Ch_has)), false) := rfl
theorem lk_Wo_supposeInHand_8 : sc_lk tb_Wo_supposeInHand 8 = some (.ifCond .ne 4, 3, .inl (12, 0), false) := rfl
theorem lk_Wo_supposeInHand_11 : sc_lk tb_Wo_supposeInHand 11 = some (.return_, 1, .inr (.inr 0), false) := rfl
theorem lk_Wo_supposeInHand_12 : sc_lk tb_Wo_supposeInHand 12 = some (.aload_n 0, 1, .inl (0, 0), false) := rfl
theorem lk_Wo_supposeInHand_13 : sc_lk tb_Wo_supposeInHand 13 = some (.iload_n 1, 1, .inl (1, 0), false) := rfl
theorem lk_Wo_supposeInHand_14 : sc_lk tb_Wo_supposeInHand 14 = some (.putfield 44, 3, .inl (3, 11), false) := rfl
theorem lk_Wo_supposeInHand_17 : sc_lk tb_Wo_supposeInHand 17 = some (.aload_n 0, 1, .inl (0, 0), false) := rfl
theorem lk_Wo_supposeInHand_18 : sc_lk tb_Wo_supposeInHand 18 = some (.getfield 18, 3, .inl (3, 1), false) := rfl
theorem lk_Wo_supposeInHand_21 : sc_lk tb_Wo_supposeInHand 21 = some (.iload_n 1, 1, .inl (1, 0), false) := rfl
theorem lk_Wo_supposeInHand_22 : sc_lk tb_Wo_supposeInHand 22 = some (.iconst 0, 1, .inr (.inr 0), false) := rfl
theorem lk_Wo_supposeInHand_23 : sc_lk tb_Wo_supposeInHand 23 = some (.iastore, 1, .inr (.inr 0), false) := rfl
theorem lk_Wo_supposeInHand_24 : sc_lk tb_Wo_supposeInHand 24 = some (.iconst 0, 1, .inr (.inr 0), false) := rfl
theorem lk_Wo_supposeInHand_25 : sc_lk tb_Wo_supposeInHand 25 = some (.istore_n 2, 1, .inl (2, 0), false) := rfl
theorem lk_Wo_supposeInHand_26 : sc_lk tb_Wo_supposeInHand 26 = some (.iload_n 2, 1, .inl (2, 0), true) := rfl
theorem lk_Wo_supposeInHand_27 : sc_lk tb_Wo_supposeInHand 27 = some (.iload_n 1, 1, .inl (1, 0), false) := rfl
theorem lk_Wo_supposeInHand_28 : sc_lk tb_Wo_supposeInHand 28 = some (.if_icmp .ge 53, 3, .inl (81, 0), false) := rfl
theorem lk_Wo_supposeInHand_31 : sc_lk tb_Wo_supposeInHand 31 = some (.aload_n 0, 1, .inl (0, 0), false) := rfl
theorem lk_Wo_supposeInHand_32 : sc_lk tb_Wo_supposeInHand 32 = some (.getfield 12, 3, .inl (3, 0), false) := rfl
theorem lk_Wo_supposeInHand_35 : sc_lk tb_Wo_supposeInHand 35 = some (.getfield 48, 3, .inl (0, 0), false) := rfl
theorem lk_Wo_supposeInHand_38 : sc_lk tb_Wo_supposeInHand 38 = some (.iload_n 2, 1, .inl (2, 0), false) := rfl
theorem lk_Wo_supposeInHand_39 : sc_lk tb_Wo_supposeInHand 39 = some (.aaload, 1, .inr (.inr 0), false) := rfl
theorem lk_Wo_supposeInHand_40 : sc_lk tb_Wo_supposeInHand 40 = some (.getfield 63, 3, .inl (2, 0), false) := rfl
theorem lk_Wo_supposeInHand_43 : sc_lk tb_Wo_supposeInHand 43 = some (.iconst 1, 1, .inr (.inr 0), false) := rfl
theorem lk_Wo_supposeInHand_44 : sc_lk tb_Wo_supposeInHand 44 = some (.if_icmp .ne 31, 3, .inl (75, 0), false) := rfl
theorem lk_Wo_supposeInHand_47 : sc_lk tb_Wo_supposeInHand 47 = some (.aload_n 0, 1, .inl (0, 0), false) := rfl
theorem lk_Wo_supposeInHand_48 : sc_lk tb_Wo_supposeInHand 48 = some (.getfield 12, 3, .inl (3, 0), false) := rfl
theorem lk_Wo_supposeInHand_51 : sc_lk tb_Wo_supposeInHand 51 = some (.getfield 48, 3, .inl (0, 0), false) := rfl
theorem lk_Wo_supposeInHand_54 : sc_lk tb_Wo_supposeInHand 54 = some (.iload_n 1, 1, .inl (1, 0), false) := rfl
theorem lk_Wo_supposeInHand_55 : sc_lk tb_Wo_supposeInHand 55 = some (.aaload, 1, .inr (.inr 0), false) := rfl
theorem lk_Wo_supposeInHand_56 : sc_lk tb_Wo_supposeInHand 56 = some (.iload_n 2, 1, .inl (2, 0), false) := rfl
theorem lk_Wo_supposeInHand_57 : sc_lk tb_Wo_supposeInHand 57 = some (.invokevirtual 66, 3, .inr (.inl (2, 1, mq_No_isChildOf)), false) := rfl
theorem lk_Wo_supposeInHand_60 : sc_lk tb_Wo_supposeInHand 60 = some (.ifCond .eq 15, 3, .inl (75, 0), false) := rfl
theorem lk_Wo_supposeInHand_63 : sc_lk tb_Wo_supposeInHand 63 = some (.aload_n 0, 1, .inl (0, 0), false) := rfl
theorem lk_Wo_supposeInHand_64 : sc_lk tb_Wo_supposeInHand 64 = some (.getfield 18, 3, .inl (3, 1), false) := rfl
theorem lk_Wo_supposeInHand_67 : sc_lk tb_Wo_supposeInHand 67 = some (.iload_n 1, 1, .inl (1, 0), false) := rfl
theorem lk_Wo_supposeInHand_68 : sc_lk tb_Wo_supposeInHand 68 = some (.dup2, 1, .inr (.inr 0), false) := rfl
theorem lk_Wo_supposeInHand_69 : sc_lk tb_Wo_supposeInHand 69 = some (.iaload, 1, .inr (.inr 0), false) := rfl
theorem lk_Wo_supposeInHand_70 : sc_lk tb_Wo_supposeInHand 70 = some (.iconst 1, 1, .inr (.inr 0), false) := rfl
theorem lk_Wo_supposeInHand_71 : sc_lk tb_Wo_supposeInHand 71 = some (.iload_n 2, 1, .inl (2, 0), false) := rfl
theorem lk_Wo_supposeInHand_72 : sc_lk tb_Wo_supposeInHand 72 = some (.ishl, 1, .inr (.inr 0), false) := rfl
theorem lk_Wo_supposeInHand_73 : sc_lk tb_Wo_supposeInHand 73 = some (.ior, 1, .inr (.inr 0), false) := rfl
theorem lk_Wo_supposeInHand_74 : sc_lk tb_Wo_supposeInHand 74 = some (.iastore, 1, .inr (.inr 0), false) := rfl
theorem lk_Wo_supposeInHand_75 : sc_lk tb_Wo_supposeInHand 75 = some (.iinc 2 1, 3, .inl (2, 0), false) := rfl
theorem lk_Wo_supposeInHand_78 : sc_lk tb_Wo_supposeInHand 78 = some (.goto (-52), 3, .inl (26, 0), false) := rfl
theorem lk_Wo_supposeInHand_81 : sc_lk tb_Wo_supposeInHand 81 = some (.return_, 1, .inr (.inr 0), false) := rfl
def tb_Wo_supposeBlind : sc_T := [(0, .aload_n 0, 1, .inl (0, 0), false), (1, .getfield 12, 3, .inl (3, 0), false), (4, .iload_n 1, 1, .inl (1, 0), false), (5, .invokevirtual 56, 3, .inr (.inl (0, 1, mq_Ch_has)), false), (8, .ifCond .eq 17, 3, .inl (25, 0), false), (11, .aload_n 0, 1, .inl (0, 0), false), (12, .getfield 18, 3, .inl (3, 1), false), (15, .iload_n 1, 1, .inl (1, 0), false), (16, .dup2, 1, .inr (.inr 0), false), (17, .iaload, 1, .inr (.inr 0), false), (18, .iconst 1, 1, .inr (.inr 0), false), (19, .iload_n 2, 1, .inl (2, 0), false), (20, .ishl, 1, .inr (.inr 0), false), (21, .iconst (-1), 1, .inr (.inr 0), false), (22, .ixor, 1, .inr (.inr 0), false), (23, .iand, 1, .inr (.inr 0), false), (24, .iastore, 1, .inr (.inr 0), false), (25, .return_, 1, .inr (.inr 0), false)]
theorem tk_Wo_supposeBlind : sc_ok mq_Wo_supposeBlind tb_Wo_supposeBlind = true := by decide +kernel
theorem lk_Wo_supposeBlind_0 : sc_lk tb_Wo_supposeBlind 0 = some (.aload_n 0, 1, .inl (0, 0), false) := rfl
theorem lk_Wo_supposeBlind_1 : sc_lk tb_Wo_supposeBlind 1 = some (.getfield 12, 3, .inl (3, 0), false) := rfl
theorem lk_Wo_supposeBlind_4 : sc_lk tb_Wo_supposeBlind 4 = some (.iload_n 1, 1, .inl (1, 0), false) := rfl
theorem lk_Wo_supposeBlind_5 : sc_lk tb_Wo_supposeBlind 5 = some (.invokevirtual 56, 3, .inr (.inl (0, 1, mq_Ch_has)), false) := rfl
theorem lk_Wo_supposeBlind_8 : sc_lk tb_Wo_supposeBlind 8 = some (.ifCond .eq 17, 3, .inl (25, 0), false) := rfl
theorem lk_Wo_supposeBlind_11 : sc_lk tb_Wo_supposeBlind 11 = some (.aload_n 0, 1, .inl (0, 0), false) := rfl
theorem lk_Wo_supposeBlind_12 : sc_lk tb_Wo_supposeBlind 12 = some (.getfield 18, 3, .inl (3, 1), false) := rfl
theorem lk_Wo_supposeBlind_15 : sc_lk tb_Wo_supposeBlind 15 = some (.iload_n 1, 1, .inl (1, 0), false) := rfl
theorem lk_Wo_supposeBlind_16 : sc_lk tb_Wo_supposeBlind 16 = some (.dup2, 1, .inr (.inr 0), false) := rfl
theorem lk_Wo_supposeBlind_17 : sc_lk tb_Wo_supposeBlind 17 = some (.iaload, 1, .inr (.inr 0), false) := rfl
theorem lk_Wo_supposeBlind_18 : sc_lk tb_Wo_supposeBlind 18 = some (.iconst 1, 1, .inr (.inr 0), false) := rfl
theorem lk_Wo_supposeBlind_19 : sc_lk tb_Wo_supposeBlind 19 = some (.iload_n 2, 1, .inl (2, 0), false) := rfl
theorem lk_Wo_supposeBlind_20 : sc_lk tb_Wo_supposeBlind 20 = some (.ishl, 1, .inr (.inr 0), false) := rfl
theorem lk_Wo_supposeBlind_21 : sc_lk tb_Wo_supposeBlind 21 = some (.iconst (-1), 1, .inr (.inr 0), false) := rfl
theorem lk_Wo_supposeBlind_22 : sc_lk tb_Wo_supposeBlind 22 = some (.ixor, 1, .inr (.inr 0), false) := rfl
theorem lk_Wo_supposeBlind_23 : sc_lk tb_Wo_supposeBlind 23 = some (.iand, 1, .inr (.inr 0), false) := rfl
theorem lk_Wo_supposeBlind_24 : sc_lk tb_Wo_supposeBlind 24 = some (.iastore, 1, .inr (.inr 0), false) := rfl
theorem lk_Wo_supposeBlind_25 : sc_lk tb_Wo_supposeBlind 25 = some (.return_, 1, .inr (.inr 0), false) := rfl
def tb_Wo_farthest : sc_T := [(0, .aload_n 0, 1, .inl (0, 0), false), (1, .iload_n 1, 1, .inl (1, 0), false), (2, .invokevirtual 150, 3, .inr (.inl (3, 1, mq_Wo_keyOfFirst)), false), (5, .istore 5, 2, .inl (5, 0), false), (7, .aload_n 0, 1, .inl (0, 0), false), (8, .iload_n 1, 1, .inl (1, 0), false), (9, .iload 5, 2, .inl (5, 0), false), (11, .invokevirtual 153, 3, .inr (.inl (3, 2, mq_Wo_keepWorldsOf)), false), (14, .aload_n 0, 1, .inl (0, 0), false), (15, .aload_n 2, 1, .inl (2, 0), false), (16, .iload_n 3, 1, .inl (3, 0), false), (17, .invokevirtual 157, 3, .inr (.inl (3, 2, mq_Wo_listMoved)), false), (20, .aload_n 0, 1, .inl (0, 0), false), (21, .getfield 161, 3, .inl (3, 9), false), (24, .ifCond .ne 9, 3, .inl (33, 0), false), (27, .iload 4, 2, .inl (4, 0), false), (29, .bipush 100, 2, .inr (.inr 0), false), (31, .imul, 1, .inr (.inr 0), false), (32, .ireturn, 1, .inr (.inr 0), false), (33, .aload_n 0, 1, .inl (0, 0), false), (34, .iload_n 1, 1, .inl (1, 0), false), (35, .iload 5, 2, .inl (5, 0), false), (37, .invokevirtual 164, 3, .inr (.inl (3, 2, mq_Wo_decideAgain)), false), (40, .istore 6, 2, .inl (6, 0), false), (42, .aload_n 2, 1, .inl (2, 0), false), (43, .iload_n 3, 1, .inl (3, 0), false), (44, .invokevirtual 100, 3, .inr (.inl (2, 1, mq_No_get)), false), (47, .istore 7, 2, .inl (7, 0), false), (49, .iconst 0, 1, .inr (.inr 0), false), (50, .istore 8, 2, .inl (8, 0), false), (52, .iload 8, 2, .inl (8, 0), true), (54, .sipush 200, 3, .inr (.inr 0), false), (57, .if_icmp .ge 76, 3, .inl (133, 0), false), (60, .iload 7, 2, .inl (7, 0), false), (62, .iload 4, 2, .inl (4, 0), false), (64, .bipush 100, 2, .inr (.inr 0), false), (66, .imul, 1, .inr (.inr 0), false), (67, .if_icmp .eq 66, 3, .inl (133, 0), false), (70, .iconst 0, 1, .inr (.inr 0), false), (71, .istore 9, 2, .inl (9, 0), false), (73, .iload 9, 2, .inl (9, 0), true), (75, .aload_n 0, 1, .inl (0, 0), false), (76, .getfield 161, 3, .inl (3, 9), false), (79, .if_icmp .ge 26, 3, .inl (105, 0), false), (82, .aload_n 0, 1, .inl (0, 0), false), (83, .getfield 28, 3, .inl (3, 4), false), (86, .aload_n 0, 1, .inl (0, 0), false), (87, .getfield 41, 3, .inl (3, 8), false), (90, .iload 9, 2, .inl (9, 0), false), (92, .iaload, 1, .inr (.inr 0), false), (93, .dup2, 1, .inr (.inr 0), false), (94, .iaload, 1, .inr (.inr 0), false), (95, .iload 4, 2, .inl (4, 0), false), (97, .iadd, 1, .inr (.inr 0), false), (98, .iastore, 1, .inr (.inr 0), false), (99, .iinc 9 1, 3, .inl (9, 0), false), (102, .goto (-29), 3, .inl (73, 0), false), (105, .aload_n 0, 1, .inl (0, 0), false), (106, .iload_n 1, 1, .inl (1, 0), false), (107, .iload 5, 2, .inl (5, 0), false), (109, .invokevirtual 164, 3, .inr (.inl (3, 2, mq_Wo_decideAgain)), false), (112, .iload 6, 2, .inl (6, 0), false), (114, .if_icmp .eq 6, 3, .inl (120, 0), false), (117, .goto 16, 3, .inl (133, 0), false), (120, .iload 7, 2, .inl (7, 0), false), (122, .iload 4, 2, .inl (4, 0), false), (124, .iadd, 1, .inr (.inr 0), false), (125, .istore 7, 2, .inl (7, 0), false), (127, .iinc 8 1, 3, .inl (8, 0), false), (130, .goto (-78), 3, .inl (52, 0), false), (133, .iload 7, 2, .inl (7, 0), false), (135, .ireturn, 1, .inr (.inr 0), false)]
theorem tk_Wo_farthest : sc_ok mq_Wo_farthest tb_Wo_farthest = true := by decide +kernel
theorem lk_Wo_farthest_0 : sc_lk tb_Wo_farthest 0 = some (.aload_n 0, 1, .inl (0, 0), false) := rfl
theorem lk_Wo_farthest_1 : sc_lk tb_Wo_farthest 1 = some (.iload_n 1, 1, .inl (1, 0), false) := rfl
theorem lk_Wo_farthest_2 : sc_lk tb_Wo_farthest 2 = some (.invokevirtual 150, 3, .inr (.inl (3, 1, mq_Wo_keyOfFirst)), false) := rfl
theorem lk_Wo_farthest_5 : sc_lk tb_Wo_farthest 5 = some (.istore 5, 2, .inl (5, 0), false) := rfl
theorem lk_Wo_farthest_7 : sc_lk tb_Wo_farthest 7 = some (.aload_n 0, 1, .inl (0, 0), false) := rfl
theorem lk_Wo_farthest_8 : sc_lk tb_Wo_farthest 8 = some (.iload_n 1, 1, .inl (1, 0), false) := rfl
theorem lk_Wo_farthest_9 : sc_lk tb_Wo_farthest 9 = some (.iload 5, 2, .inl (5, 0), false) := rfl
theorem lk_Wo_farthest_11 : sc_lk tb_Wo_farthest 11 = some (.invokevirtual 153, 3, .inr (.inl (3, 2, mq_Wo_keepWorldsOf)), false) := rfl
theorem lk_Wo_farthest_14 : sc_lk tb_Wo_farthest 14 = some (.aload_n 0, 1, .inl (0, 0), false) := rfl
theorem lk_Wo_farthest_15 : sc_lk tb_Wo_farthest 15 = some (.aload_n 2, 1, .inl (2, 0), false) := rfl
theorem lk_Wo_farthest_16 : sc_lk tb_Wo_farthest 16 = some (.iload_n 3, 1, .inl (3, 0), false) := rfl
theorem lk_Wo_farthest_17 : sc_lk tb_Wo_farthest 17 = some (.invokevirtual 157, 3, .inr (.inl (3, 2, mq_Wo_listMoved)), false) := rfl
theorem lk_Wo_farthest_20 : sc_lk tb_Wo_farthest 20 = some (.aload_n 0, 1, .inl (0, 0), false) := rfl
theorem lk_Wo_farthest_21 : sc_lk tb_Wo_farthest 21 = some (.getfield 161, 3, .inl (3, 9), false) := rfl
theorem lk_Wo_farthest_24 : sc_lk tb_Wo_farthest 24 = some (.ifCond .ne 9, 3, .inl (33, 0), false) := rfl
theorem lk_Wo_farthest_27 : sc_lk tb_Wo_farthest 27 = some (.iload 4, 2, .inl (4, 0), false) := rfl
theorem lk_Wo_farthest_29 : sc_lk tb_Wo_farthest 29 = some (.bipush 100, 2, .inr (.inr 0), false) := rfl
theorem lk_Wo_farthest_31 : sc_lk tb_Wo_farthest 31 = some (.imul, 1, .inr (.inr 0), false) := rfl
theorem lk_Wo_farthest_32 : sc_lk tb_Wo_farthest 32 = some (.ireturn, 1, .inr (.inr 0), false) := rfl
theorem lk_Wo_farthest_33 : sc_lk tb_Wo_farthest 33 = some (.aload_n 0, 1, .inl (0, 0), false) := rfl
theorem lk_Wo_farthest_34 : sc_lk tb_Wo_farthest 34 = some (.iload_n 1, 1, .inl (1, 0), false) := rfl
theorem lk_Wo_farthest_35 : sc_lk tb_Wo_farthest 35 = some (.iload 5, 2, .inl (5, 0), false) := rfl
theorem lk_Wo_farthest_37 : sc_lk tb_Wo_farthest 37 = some (.invokevirtual 164, 3, .inr (.inl (3, 2, mq_Wo_decideAgain)), false) := rfl
theorem lk_Wo_farthest_40 : sc_lk tb_Wo_farthest 40 = some (.istore 6, 2, .inl (6, 0), false) := rfl
theorem lk_Wo_farthest_42 : sc_lk tb_Wo_farthest 42 = some (.aload_n 2, 1, .inl (2, 0), false) := rfl
theorem lk_Wo_farthest_43 : sc_lk tb_Wo_farthest 43 = some (.iload_n 3, 1, .inl (3, 0), false) := rfl
theorem lk_Wo_farthest_44 : sc_lk tb_Wo_farthest 44 = some (.invokevirtual 100, 3, .inr (.inl (2, 1, mq_No_get)), false) := rfl
theorem lk_Wo_farthest_47 : sc_lk tb_Wo_farthest 47 = some (.istore 7, 2, .inl (7, 0), false) := rfl
theorem lk_Wo_farthest_49 : sc_lk tb_Wo_farthest 49 = some (.iconst 0, 1, .inr (.inr 0), false) := rfl
theorem lk_Wo_farthest_50 : sc_lk tb_Wo_farthest 50 = some (.istore 8, 2, .inl (8, 0), false) := rfl
theorem lk_Wo_farthest_52 : sc_lk tb_Wo_farthest 52 = some (.iload 8, 2, .inl (8, 0), true) := rfl
theorem lk_Wo_farthest_54 : sc_lk tb_Wo_farthest 54 = some (.sipush 200, 3, .inr (.inr 0), false) := rfl
theorem lk_Wo_farthest_57 : sc_lk tb_Wo_farthest 57 = some (.if_icmp .ge 76, 3, .inl (133, 0), false) := rfl
theorem lk_Wo_farthest_60 : sc_lk tb_Wo_farthest 60 = some (.iload 7, 2, .inl (7, 0), false) := rfl
theorem lk_Wo_farthest_62 : sc_lk tb_Wo_farthest 62 = some (.iload 4, 2, .inl (4, 0), false) := rfl
theorem lk_Wo_farthest_64 : sc_lk tb_Wo_farthest 64 = some (.bipush 100, 2, .inr (.inr 0), false) := rfl
theorem lk_Wo_farthest_66 : sc_lk tb_Wo_farthest 66 = some (.imul, 1, .inr (.inr 0), false) := rfl
theorem lk_Wo_farthest_67 : sc_lk tb_Wo_farthest 67 = some (.if_icmp .eq 66, 3, .inl (133, 0), false) := rfl
theorem lk_Wo_farthest_70 : sc_lk tb_Wo_farthest 70 = some (.iconst 0, 1, .inr (.inr 0), false) := rfl
theorem lk_Wo_farthest_71 : sc_lk tb_Wo_farthest 71 = some (.istore 9, 2, .inl (9, 0), false) := rfl
theorem lk_Wo_farthest_73 : sc_lk tb_Wo_farthest 73 = some (.iload 9, 2, .inl (9, 0), true) := rfl
theorem lk_Wo_farthest_75 : sc_lk tb_Wo_farthest 75 = some (.aload_n 0, 1, .inl (0, 0), false) := rfl
theorem lk_Wo_farthest_76 : sc_lk tb_Wo_farthest 76 = some (.getfield 161, 3, .inl (3, 9), false) := rfl
theorem lk_Wo_farthest_79 : sc_lk tb_Wo_farthest 79 = some (.if_icmp .ge 26, 3, .inl (105, 0), false) := rfl
theorem lk_Wo_farthest_82 : sc_lk tb_Wo_farthest 82 = some (.aload_n 0, 1, .inl (0, 0), false) := rfl
theorem lk_Wo_farthest_83 : sc_lk tb_Wo_farthest 83 = some (.getfield 28, 3, .inl (3, 4), false) := rfl
theorem lk_Wo_farthest_86 : sc_lk tb_Wo_farthest 86 = some (.aload_n 0, 1, .inl (0, 0), false) := rfl
theorem lk_Wo_farthest_87 : sc_lk tb_Wo_farthest 87 = some (.getfield 41, 3, .inl (3, 8), false) := rfl
theorem lk_Wo_farthest_90 : sc_lk tb_Wo_farthest 90 = some (.iload 9, 2, .inl (9, 0), false) := rfl
theorem lk_Wo_farthest_92 : sc_lk tb_Wo_farthest 92 = some (.iaload, 1, .inr (.inr 0), false) := rfl
theorem lk_Wo_farthest_93 : sc_lk tb_Wo_farthest 93 = some (.dup2, 1, .inr (.inr 0), false) := rfl
theorem lk_Wo_farthest_94 : sc_lk tb_Wo_farthest 94 = some (.iaload, 1, .inr (.inr 0), false) := rfl
theorem lk_Wo_farthest_95 : sc_lk tb_Wo_farthest 95 = some (.iload 4, 2, .inl (4, 0), false) := rfl
theorem lk_Wo_farthest_97 : sc_lk tb_Wo_farthest 97 = some (.iadd, 1, .inr (.inr 0), false) := rfl
theorem lk_Wo_farthest_98 : sc_lk tb_Wo_farthest 98 = some (.iastore, 1, .inr (.inr 0), false) := rfl
theorem lk_Wo_farthest_99 : sc_lk tb_Wo_farthest 99 = some (.iinc 9 1, 3, .inl (9, 0), false) := rfl
theorem lk_Wo_farthest_102 : sc_lk tb_Wo_farthest 102 = some (.goto (-29), 3, .inl (73, 0), false) := rfl
theorem lk_Wo_farthest_105 : sc_lk tb_Wo_farthest 105 = some (.aload_n 0, 1, .inl (0, 0), false) := rfl
theorem lk_Wo_farthest_106 : sc_lk tb_Wo_farthest 106 = some (.iload_n 1, 1, .inl (1, 0), false) := rfl
theorem lk_Wo_farthest_107 : sc_lk tb_Wo_farthest 107 = some (.iload 5, 2, .inl (5, 0), false) := rfl
theorem lk_Wo_farthest_109 : sc_lk tb_Wo_farthest 109 = some (.invokevirtual 164, 3, .inr (.inl (3, 2, mq_Wo_decideAgain)), false) := rfl
theorem lk_Wo_farthest_112 : sc_lk tb_Wo_farthest 112 = some (.iload 6, 2, .inl (6, 0), false) := rfl
theorem lk_Wo_farthest_114 : sc_lk tb_Wo_farthest 114 = some (.if_icmp .eq 6, 3, .inl (120, 0), false) := rfl
theorem lk_Wo_farthest_117 : sc_lk tb_Wo_farthest 117 = some (.goto 16, 3, .inl (133, 0), false) := rfl
theorem lk_Wo_farthest_120 : sc_lk tb_Wo_farthest 120 = some (.iload 7, 2, .inl (7, 0), false) := rfl
theorem lk_Wo_farthest_122 : sc_lk tb_Wo_farthest 122 = some (.iload 4, 2, .inl (4, 0), false) := rfl
theorem lk_Wo_farthest_124 : sc_lk tb_Wo_farthest 124 = some (.iadd, 1, .inr (.inr 0), false) := rfl
theorem lk_Wo_farthest_125 : sc_lk tb_Wo_farthest 125 = some (.istore 7, 2, .inl (7, 0), false) := rfl
theorem lk_Wo_farthest_127 : sc_lk tb_Wo_farthest 127 = some (.iinc 8 1, 3, .inl (8, 0), false) := rfl
theorem lk_Wo_farthest_130 : sc_lk tb_Wo_farthest 130 = some (.goto (-78), 3, .inl (52, 0), false) := rfl
theorem lk_Wo_farthest_133 : sc_lk tb_Wo_farthest 133 = some (.iload 7, 2, .inl (7, 0), false) := rfl
theorem lk_Wo_farthest_135 : sc_lk tb_Wo_farthest 135 = some (.ireturn, 1, .inr (.inr 0), false) := rfl
def tb_Wo_keyOfFirst : sc_T := [(0, .iconst 0, 1, .inr (.inr 0), false), (1, .istore_n 2, 1, .inl (2, 0), false), (2, .iconst 0, 1, .inr (.inr 0), false), (3, .istore_n 3, 1, .inl (3, 0), false), (4, .iload_n 3, 1, .inl (3, 0), true), (5, .iload_n 1, 1, .inl (1, 0), false), (6, .if_icmp .ge 53, 3, .inl (59, 0), false), (9, .iload_n 3, 1, .inl (3, 0), false), (10, .aload_n 0, 1, .inl (0, 0), false), (11, .getfield 12, 3, .inl (3, 0), false), (14, .getfield 60, 3, .inl (0, 1), false), (17, .if_icmp .ge 42, 3, .inl (59, 0), false), (20, .aload_n 0, 1, .inl (0, 0), false), (21, .getfield 12, 3, .inl (3, 0), false), (24, .getfield 48, 3, .inl (0, 0), false), (27, .iload_n 3, 1, .inl (3, 0), false), (28, .aaload, 1, .inr (.inr 0), false), (29, .astore 4, 2, .inl (4, 0), false), (31, .aload 4, 2, .inl (4, 0), false), (33, .invokevirtual 147, 3, .inr (.inl (2, 0, mq_No_isFirm)), false), (36, .ifCond .eq 17, 3, .inl (53, 0), false), (39, .iload_n 2, 1, .inl (2, 0), false), (40, .aload 4, 2, .inl (4, 0), false), (42, .getfield 104, 3, .inl (2, 3), false), (45, .aload 4, 2, .inl (4, 0), false), (47, .getfield 132, 3, .inl (2, 2), false), (50, .imul, 1, .inr (.inr 0), false), (51, .iadd, 1, .inr (.inr 0), false), (52, .istore_n 2, 1, .inl (2, 0), false), (53, .iinc 3 1, 3, .inl (3, 0), false), (56, .goto (-52), 3, .inl (4, 0), false), (59, .iload_n 2, 1, .inl (2, 0), false), (60, .ireturn, 1, .inr (.inr 0), false)]
theorem tk_Wo_keyOfFirst : sc_ok mq_Wo_keyOfFirst tb_Wo_keyOfFirst = true := by decide +kernel
theorem lk_Wo_keyOfFirst_0 : sc_lk tb_Wo_keyOfFirst 0 = some (.iconst 0, 1, .inr (.inr 0), false) := rfl
theorem lk_Wo_keyOfFirst_1 : sc_lk tb_Wo_keyOfFirst 1 = some (.istore_n 2, 1, .inl (2, 0), false) := rfl
theorem lk_Wo_keyOfFirst_2 : sc_lk tb_Wo_keyOfFirst 2 = some (.iconst 0, 1, .inr (.inr 0), false) := rfl
theorem lk_Wo_keyOfFirst_3 : sc_lk tb_Wo_keyOfFirst 3 = some (.istore_n 3, 1, .inl (3, 0), false) := rfl
theorem lk_Wo_keyOfFirst_4 : sc_lk tb_Wo_keyOfFirst 4 = some (.iload_n 3, 1, .inl (3, 0), true) := rfl
theorem lk_Wo_keyOfFirst_5 : sc_lk tb_Wo_keyOfFirst 5 = some (.iload_n 1, 1, .inl (1, 0), false) := rfl
theorem lk_Wo_keyOfFirst_6 : sc_lk tb_Wo_keyOfFirst 6 = some (.if_icmp .ge 53, 3, .inl (59, 0), false) := rfl
theorem lk_Wo_keyOfFirst_9 : sc_lk tb_Wo_keyOfFirst 9 = some (.iload_n 3, 1, .inl (3, 0), false) := rfl
theorem lk_Wo_keyOfFirst_10 : sc_lk tb_Wo_keyOfFirst 10 = some (.aload_n 0, 1, .inl (0, 0), false) := rfl
theorem lk_Wo_keyOfFirst_11 : sc_lk tb_Wo_keyOfFirst 11 = some (.getfield 12, 3, .inl (3, 0), false) := rfl
theorem lk_Wo_keyOfFirst_14 : sc_lk tb_Wo_keyOfFirst 14 = some (.getfield 60, 3, .inl (0, 1), false) := rfl
theorem lk_Wo_keyOfFirst_17 : sc_lk tb_Wo_keyOfFirst 17 = some (.if_icmp .ge 42, 3, .inl (59, 0), false) := rfl
theorem lk_Wo_keyOfFirst_20 : sc_lk tb_Wo_keyOfFirst 20 = some (.aload_n 0, 1, .inl (0, 0), false) := rfl
theorem lk_Wo_keyOfFirst_21 : sc_lk tb_Wo_keyOfFirst 21 = some (.getfield 12, 3, .inl (3, 0), false) := rfl
theorem lk_Wo_keyOfFirst_24 : sc_lk tb_Wo_keyOfFirst 24 = some (.getfield 48, 3, .inl (0, 0), false) := rfl
theorem lk_Wo_keyOfFirst_27 : sc_lk tb_Wo_keyOfFirst 27 = some (.iload_n 3, 1, .inl (3, 0), false) := rfl
theorem lk_Wo_keyOfFirst_28 : sc_lk tb_Wo_keyOfFirst 28 = some (.aaload, 1, .inr (.inr 0), false) := rfl
theorem lk_Wo_keyOfFirst_29 : sc_lk tb_Wo_keyOfFirst 29 = some (.astore 4, 2, .inl (4, 0), false) := rfl
theorem lk_Wo_keyOfFirst_31 : sc_lk tb_Wo_keyOfFirst 31 = some (.aload 4, 2, .inl (4, 0), false) := rfl
theorem lk_Wo_keyOfFirst_33 : sc_lk tb_Wo_keyOfFirst 33 = some (.invokevirtual 147, 3, .inr (.inl (2, 0, mq_No_isFirm)), false) := rfl
theorem lk_Wo_keyOfFirst_36 : sc_lk tb_Wo_keyOfFirst 36 = some (.ifCond .eq 17, 3, .inl (53, 0), false) := rfl
theorem lk_Wo_keyOfFirst_39 : sc_lk tb_Wo_keyOfFirst 39 = some (.iload_n 2, 1, .inl (2, 0), false) := rfl
theorem lk_Wo_keyOfFirst_40 : sc_lk tb_Wo_keyOfFirst 40 = some (.aload 4, 2, .inl (4, 0), false) := rfl
theorem lk_Wo_keyOfFirst_42 : sc_lk tb_Wo_keyOfFirst 42 = some (.getfield 104, 3, .inl (2, 3), false) := rfl
theorem lk_Wo_keyOfFirst_45 : sc_lk tb_Wo_keyOfFirst 45 = some (.aload 4, 2, .inl (4, 0), false) := rfl
theorem lk_Wo_keyOfFirst_47 : sc_lk tb_Wo_keyOfFirst 47 = some (.getfield 132, 3, .inl (2, 2), false) := rfl
theorem lk_Wo_keyOfFirst_50 : sc_lk tb_Wo_keyOfFirst 50 = some (.imul, 1, .inr (.inr 0), false) := rfl
theorem lk_Wo_keyOfFirst_51 : sc_lk tb_Wo_keyOfFirst 51 = some (.iadd, 1, .inr (.inr 0), false) := rfl
theorem lk_Wo_keyOfFirst_52 : sc_lk tb_Wo_keyOfFirst 52 = some (.istore_n 2, 1, .inl (2, 0), false) := rfl
theorem lk_Wo_keyOfFirst_53 : sc_lk tb_Wo_keyOfFirst 53 = some (.iinc 3 1, 3, .inl (3, 0), false) := rfl
theorem lk_Wo_keyOfFirst_56 : sc_lk tb_Wo_keyOfFirst 56 = some (.goto (-52), 3, .inl (4, 0), false) := rfl
theorem lk_Wo_keyOfFirst_59 : sc_lk tb_Wo_keyOfFirst 59 = some (.iload_n 2, 1, .inl (2, 0), false) := rfl
theorem lk_Wo_keyOfFirst_60 : sc_lk tb_Wo_keyOfFirst 60 = some (.ireturn, 1, .inr (.inr 0), false) := rfl
def tb_Wo_keepWorldsOf : sc_T := [(0, .aload_n 0, 1, .inl (0, 0), false), (1, .aload_n 0, 1, .inl (0, 0), false), (2, .getfield 12, 3, .inl (3, 0), false), (5, .iload_n 1, 1, .inl (1, 0), false), (6, .invokevirtual 56, 3, .inr (.inl (0, 1, mq_Ch_has)), false), (9, .ifCond .eq 12, 3, .inl (21, 0), false), (12, .aload_n 0, 1, .inl (0, 0), false), (13, .getfield 22, 3, .inl (3, 2), false), (16, .iload_n 1, 1, .inl (1, 0), false), (17, .iaload, 1, .inr (.inr 0), false), (18, .goto 4, 3, .inl (22, 0), false), (21, .iconst 0, 1, .inr (.inr 0), false), (22, .invokevirtual 138, 3, .inr (.inl (3, 1, mq_Wo_layKeys)), false), (25, .iconst 0, 1, .inr (.inr 0), false), (26, .istore_n 3, 1, .inl (3, 0), false), (27, .iload_n 3, 1, .inl (3, 0), true), (28, .aload_n 0, 1, .inl (0, 0), false), (29, .getfield 82, 3, .inl (3, 10), false), (32, .if_icmp .ge 35, 3, .inl (67, 0), false), (35, .aload_n 0, 1, .inl (0, 0), false), (36, .getfield 38, 3, .inl (3, 7), false), (39, .iload_n 3, 1, .inl (3, 0), false), (40, .aload_n 0, 1, .inl (0, 0), false), (41, .getfield 31, 3, .inl (3, 5), false), (44, .iload_n 3, 1, .inl (3, 0), false), (45, .iaload, 1, .inr (.inr 0), false), (46, .iload_n 2, 1, .inl (2, 0), false), (47, .if_icmp .ne 12, 3, .inl (59, 0), false), (50, .aload_n 0, 1, .inl (0, 0), false), (51, .getfield 25, 3, .inl (3, 3), false), (54, .iload_n 3, 1, .inl (3, 0), false), (55, .iaload, 1, .inr (.inr 0), false), (56, .goto 4, 3, .inl (60, 0), false), (59, .iconst 0, 1, .inr (.inr 0), false), (60, .iastore, 1, .inr (.inr 0), false), (61, .iinc 3 1, 3, .inl (3, 0), false), (64, .goto (-37), 3, .inl (27, 0), false), (67, .return_, 1, .inr (.inr 0), false)]
theorem tk_Wo_keepWorldsOf : sc_ok mq_Wo_keepWorldsOf tb_Wo_keepWorldsOf = true := by decide +kernel
theorem lk_Wo_keepWorldsOf_0 : sc_lk tb_Wo_keepWorldsOf 0 = some (.aload_n 0, 1, .inl (0, 0), false) := rfl
theorem lk_Wo_keepWorldsOf_1 : sc_lk tb_Wo_keepWorldsOf 1 = some (.aload_n 0, 1, .inl (0, 0), false) := rfl
theorem lk_Wo_keepWorldsOf_2 : sc_lk tb_Wo_keepWorldsOf 2 = some (.getfield 12, 3, .inl (3, 0), false) := rfl
theorem lk_Wo_keepWorldsOf_5 : sc_lk tb_Wo_keepWorldsOf 5 = some (.iload_n 1, 1, .inl (1, 0), false) := rfl
theorem lk_Wo_keepWorldsOf_6 : sc_lk tb_Wo_keepWorldsOf 6 = some (.invokevirtual 56, 3, .inr (.inl (0, 1, mq_Ch_has)), false) := rfl
theorem lk_Wo_keepWorldsOf_9 : sc_lk tb_Wo_keepWorldsOf 9 = some (.ifCond .eq 12, 3, .inl (21, 0), false) := rfl
theorem lk_Wo_keepWorldsOf_12 : sc_lk tb_Wo_keepWorldsOf 12 = some (.aload_n 0, 1, .inl (0, 0), false) := rfl
theorem lk_Wo_keepWorldsOf_13 : sc_lk tb_Wo_keepWorldsOf 13 = some (.getfield 22, 3, .inl (3, 2), false) := rfl
theorem lk_Wo_keepWorldsOf_16 : sc_lk tb_Wo_keepWorldsOf 16 = some (.iload_n 1, 1, .inl (1, 0), false) := rfl
theorem lk_Wo_keepWorldsOf_17 : sc_lk tb_Wo_keepWorldsOf 17 = some (.iaload, 1, .inr (.inr 0), false) := rfl
theorem lk_Wo_keepWorldsOf_18 : sc_lk tb_Wo_keepWorldsOf 18 = some (.goto 4, 3, .inl (22, 0), false) := rfl
theorem lk_Wo_keepWorldsOf_21 : sc_lk tb_Wo_keepWorldsOf 21 = some (.iconst 0, 1, .inr (.inr 0), false) := rfl
theorem lk_Wo_keepWorldsOf_22 : sc_lk tb_Wo_keepWorldsOf 22 = some (.invokevirtual 138, 3, .inr (.inl (3, 1, mq_Wo_layKeys)), false) := rfl
theorem lk_Wo_keepWorldsOf_25 : sc_lk tb_Wo_keepWorldsOf 25 = some (.iconst 0, 1, .inr (.inr 0), false) := rfl
theorem lk_Wo_keepWorldsOf_26 : sc_lk tb_Wo_keepWorldsOf 26 = some (.istore_n 3, 1, .inl (3, 0), false) := rfl
theorem lk_Wo_keepWorldsOf_27 : sc_lk tb_Wo_keepWorldsOf 27 = some (.iload_n 3, 1, .inl (3, 0), true) := rfl
theorem lk_Wo_keepWorldsOf_28 : sc_lk tb_Wo_keepWorldsOf 28 = some (.aload_n 0, 1, .inl (0, 0), false) := rfl
theorem lk_Wo_keepWorldsOf_29 : sc_lk tb_Wo_keepWorldsOf 29 = some (.getfield 82, 3, .inl (3, 10), false) := rfl
theorem lk_Wo_keepWorldsOf_32 : sc_lk tb_Wo_keepWorldsOf 32 = some (.if_icmp .ge 35, 3, .inl (67, 0), false) := rfl
theorem lk_Wo_keepWorldsOf_35 : sc_lk tb_Wo_keepWorldsOf 35 = some (.aload_n 0, 1, .inl (0, 0), false) := rfl
theorem lk_Wo_keepWorldsOf_36 : sc_lk tb_Wo_keepWorldsOf 36 = some (.getfield 38, 3, .inl (3, 7), false) := rfl
theorem lk_Wo_keepWorldsOf_39 : sc_lk tb_Wo_keepWorldsOf 39 = some (.iload_n 3, 1, .inl (3, 0), false) := rfl
theorem lk_Wo_keepWorldsOf_40 : sc_lk tb_Wo_keepWorldsOf 40 = some (.aload_n 0, 1, .inl (0, 0), false) := rfl
theorem lk_Wo_keepWorldsOf_41 : sc_lk tb_Wo_keepWorldsOf 41 = some (.getfield 31, 3, .inl (3, 5), false) := rfl
theorem lk_Wo_keepWorldsOf_44 : sc_lk tb_Wo_keepWorldsOf 44 = some (.iload_n 3, 1, .inl (3, 0), false) := rfl
theorem lk_Wo_keepWorldsOf_45 : sc_lk tb_Wo_keepWorldsOf 45 = some (.iaload, 1, .inr (.inr 0), false) := rfl
theorem lk_Wo_keepWorldsOf_46 : sc_lk tb_Wo_keepWorldsOf 46 = some (.iload_n 2, 1, .inl (2, 0), false) := rfl
theorem lk_Wo_keepWorldsOf_47 : sc_lk tb_Wo_keepWorldsOf 47 = some (.if_icmp .ne 12, 3, .inl (59, 0), false) := rfl
theorem lk_Wo_keepWorldsOf_50 : sc_lk tb_Wo_keepWorldsOf 50 = some (.aload_n 0, 1, .inl (0, 0), false) := rfl
theorem lk_Wo_keepWorldsOf_51 : sc_lk tb_Wo_keepWorldsOf 51 = some (.getfield 25, 3, .inl (3, 3), false) := rfl
theorem lk_Wo_keepWorldsOf_54 : sc_lk tb_Wo_keepWorldsOf 54 = some (.iload_n 3, 1, .inl (3, 0), false) := rfl
theorem lk_Wo_keepWorldsOf_55 : sc_lk tb_Wo_keepWorldsOf 55 = some (.iaload, 1, .inr (.inr 0), false) := rfl
theorem lk_Wo_keepWorldsOf_56 : sc_lk tb_Wo_keepWorldsOf 56 = some (.goto 4, 3, .inl (60, 0), false) := rfl
theorem lk_Wo_keepWorldsOf_59 : sc_lk tb_Wo_keepWorldsOf 59 = some (.iconst 0, 1, .inr (.inr 0), false) := rfl
theorem lk_Wo_keepWorldsOf_60 : sc_lk tb_Wo_keepWorldsOf 60 = some (.iastore, 1, .inr (.inr 0), false) := rfl
theorem lk_Wo_keepWorldsOf_61 : sc_lk tb_Wo_keepWorldsOf 61 = some (.iinc 3 1, 3, .inl (3, 0), false) := rfl
theorem lk_Wo_keepWorldsOf_64 : sc_lk tb_Wo_keepWorldsOf 64 = some (.goto (-37), 3, .inl (27, 0), false) := rfl
theorem lk_Wo_keepWorldsOf_67 : sc_lk tb_Wo_keepWorldsOf 67 = some (.return_, 1, .inr (.inr 0), false) := rfl
def tb_Wo_listMoved : sc_T := [(0, .aload_n 0, 1, .inl (0, 0), false), (1, .iconst 0, 1, .inr (.inr 0), false), (2, .putfield 161, 3, .inl (3, 9), false), (5, .iconst 0, 1, .inr (.inr 0), false), (6, .istore_n 3, 1, .inl (3, 0), false), (7, .iload_n 3, 1, .inl (3, 0), true), (8, .aload_n 0, 1, .inl (0, 0), false), (9, .getfield 82, 3, .inl (3, 10), false), (12, .if_icmp .ge 54, 3, .inl (66, 0), false), (15, .aload_n 0, 1, .inl (0, 0), false), (16, .getfield 38, 3, .inl (3, 7), false), (19, .iload_n 3, 1, .inl (3, 0), false), (20, .iaload, 1, .inr (.inr 0), false), (21, .ifCond .eq 39, 3, .inl (60, 0), false), (24, .aload_n 0, 1, .inl (0, 0), false), (25, .getfield 12, 3, .inl (3, 0), false), (28, .aload_n 1, 1, .inl (1, 0), false), (29, .iload_n 3, 1, .inl (3, 0), false), (30, .invokevirtual 92, 3, .inr (.inl (0, 2, mq_Ch_placeIn)), false), (33, .iload_n 2, 1, .inl (2, 0), false), (34, .if_icmp .eq 6, 3, .inl (40, 0), false), (37, .goto 23, 3, .inl (60, 0), false), (40, .aload_n 0, 1, .inl (0, 0), false), (41, .getfield 41, 3, .inl (3, 8), false), (44, .aload_n 0, 1, .inl (0, 0), false), (45, .getfield 161, 3, .inl (3, 9), false), (48, .iload_n 3, 1, .inl (3, 0), false), (49, .iastore, 1, .inr (.inr 0), false), (50, .aload_n 0, 1, .inl (0, 0), false), (51, .dup, 1, .inr (.inr 0), false), (52, .getfield 161, 3, .inl (3, 9), false), (55, .iconst 1, 1, .inr (.inr 0), false), (56, .iadd, 1, .inr (.inr 0), false), (57, .putfield 161, 3, .inl (3, 9), false), (60, .iinc 3 1, 3, .inl (3, 0), false), (63, .goto (-56), 3, .inl (7, 0), false), (66, .return_, 1, .inr (.inr 0), false)]
theorem tk_Wo_listMoved : sc_ok mq_Wo_listMoved tb_Wo_listMoved = true := by decide +kernel
theorem lk_Wo_listMoved_0 : sc_lk tb_Wo_listMoved 0 = some (.aload_n 0, 1, .inl (0, 0), false) := rfl
theorem lk_Wo_listMoved_1 : sc_lk tb_Wo_listMoved 1 = some (.iconst 0, 1, .inr (.inr 0), false) := rfl
theorem lk_Wo_listMoved_2 : sc_lk tb_Wo_listMoved 2 = some (.putfield 161, 3, .inl (3, 9), false) := rfl
theorem lk_Wo_listMoved_5 : sc_lk tb_Wo_listMoved 5 = some (.iconst 0, 1, .inr (.inr 0), false) := rfl
theorem lk_Wo_listMoved_6 : sc_lk tb_Wo_listMoved 6 = some (.istore_n 3, 1, .inl (3, 0), false) := rfl
theorem lk_Wo_listMoved_7 : sc_lk tb_Wo_listMoved 7 = some (.iload_n 3, 1, .inl (3, 0), true) := rfl
theorem lk_Wo_listMoved_8 : sc_lk tb_Wo_listMoved 8 = some (.aload_n 0, 1, .inl (0, 0), false) := rfl
theorem lk_Wo_listMoved_9 : sc_lk tb_Wo_listMoved 9 = some (.getfield 82, 3, .inl (3, 10), false) := rfl
theorem lk_Wo_listMoved_12 : sc_lk tb_Wo_listMoved 12 = some (.if_icmp .ge 54, 3, .inl (66, 0), false) := rfl
theorem lk_Wo_listMoved_15 : sc_lk tb_Wo_listMoved 15 = some (.aload_n 0, 1, .inl (0, 0), false) := rfl
theorem lk_Wo_listMoved_16 : sc_lk tb_Wo_listMoved 16 = some (.getfield 38, 3, .inl (3, 7), false) := rfl
theorem lk_Wo_listMoved_19 : sc_lk tb_Wo_listMoved 19 = some (.iload_n 3, 1, .inl (3, 0), false) := rfl
theorem lk_Wo_listMoved_20 : sc_lk tb_Wo_listMoved 20 = some (.iaload, 1, .inr (.inr 0), false) := rfl
theorem lk_Wo_listMoved_21 : sc_lk tb_Wo_listMoved 21 = some (.ifCond .eq 39, 3, .inl (60, 0), false) := rfl
theorem lk_Wo_listMoved_24 : sc_lk tb_Wo_listMoved 24 = some (.aload_n 0, 1, .inl (0, 0), false) := rfl
theorem lk_Wo_listMoved_25 : sc_lk tb_Wo_listMoved 25 = some (.getfield 12, 3, .inl (3, 0), false) := rfl
theorem lk_Wo_listMoved_28 : sc_lk tb_Wo_listMoved 28 = some (.aload_n 1, 1, .inl (1, 0), false) := rfl
theorem lk_Wo_listMoved_29 : sc_lk tb_Wo_listMoved 29 = some (.iload_n 3, 1, .inl (3, 0), false) := rfl
theorem lk_Wo_listMoved_30 : sc_lk tb_Wo_listMoved 30 = some (.invokevirtual 92, 3, .inr (.inl (0, 2, mq_Ch_placeIn)), false) := rfl
theorem lk_Wo_listMoved_33 : sc_lk tb_Wo_listMoved 33 = some (.iload_n 2, 1, .inl (2, 0), false) := rfl
theorem lk_Wo_listMoved_34 : sc_lk tb_Wo_listMoved 34 = some (.if_icmp .eq 6, 3, .inl (40, 0), false) := rfl
theorem lk_Wo_listMoved_37 : sc_lk tb_Wo_listMoved 37 = some (.goto 23, 3, .inl (60, 0), false) := rfl
theorem lk_Wo_listMoved_40 : sc_lk tb_Wo_listMoved 40 = some (.aload_n 0, 1, .inl (0, 0), false) := rfl
theorem lk_Wo_listMoved_41 : sc_lk tb_Wo_listMoved 41 = some (.getfield 41, 3, .inl (3, 8), false) := rfl
theorem lk_Wo_listMoved_44 : sc_lk tb_Wo_listMoved 44 = some (.aload_n 0, 1, .inl (0, 0), false) := rfl
theorem lk_Wo_listMoved_45 : sc_lk tb_Wo_listMoved 45 = some (.getfield 161, 3, .inl (3, 9), false) := rfl
theorem lk_Wo_listMoved_48 : sc_lk tb_Wo_listMoved 48 = some (.iload_n 3, 1, .inl (3, 0), false) := rfl
theorem lk_Wo_listMoved_49 : sc_lk tb_Wo_listMoved 49 = some (.iastore, 1, .inr (.inr 0), false) := rfl
theorem lk_Wo_listMoved_50 : sc_lk tb_Wo_listMoved 50 = some (.aload_n 0, 1, .inl (0, 0), false) := rfl
theorem lk_Wo_listMoved_51 : sc_lk tb_Wo_listMoved 51 = some (.dup, 1, .inr (.inr 0), false) := rfl
theorem lk_Wo_listMoved_52 : sc_lk tb_Wo_listMoved 52 = some (.getfield 161, 3, .inl (3, 9), false) := rfl
theorem lk_Wo_listMoved_55 : sc_lk tb_Wo_listMoved 55 = some (.iconst 1, 1, .inr (.inr 0), false) := rfl
theorem lk_Wo_listMoved_56 : sc_lk tb_Wo_listMoved 56 = some (.iadd, 1, .inr (.inr 0), false) := rfl
theorem lk_Wo_listMoved_57 : sc_lk tb_Wo_listMoved 57 = some (.putfield 161, 3, .inl (3, 9), false) := rfl
theorem lk_Wo_listMoved_60 : sc_lk tb_Wo_listMoved 60 = some (.iinc 3 1, 3, .inl (3, 0), false) := rfl
theorem lk_Wo_listMoved_63 : sc_lk tb_Wo_listMoved 63 = some (.goto (-56), 3, .inl (7, 0), false) := rfl
theorem lk_Wo_listMoved_66 : sc_lk tb_Wo_listMoved 66 = some (.return_, 1, .inr (.inr 0), false) := rfl
def tb_Wo_decideAgain : sc_T := [(0, .aload_n 0, 1, .inl (0, 0), false), (1, .getfield 38, 3, .inl (3, 7), false), (4, .iconst 0, 1, .inr (.inr 0), false), (5, .aload_n 0, 1, .inl (0, 0), false), (6, .getfield 25, 3, .inl (3, 3), false), (9, .iconst 0, 1, .inr (.inr 0), false), (10, .sipush 243, 3, .inr (.inr 0), false), (13, .invokestatic 168, 3, .inr (.inl (101, 5, mq_Ar_fillI)), false), (16, .aload_n 0, 1, .inl (0, 0), false), (17, .iload_n 1, 1, .inl (1, 0), false), (18, .iload_n 2, 1, .inl (2, 0), false), (19, .invokevirtual 174, 3, .inr (.inl (3, 2, mq_Wo_decide)), false), (22, .ireturn, 1, .inr (.inr 0), false)]
theorem tk_Wo_decideAgain : sc_ok mq_Wo_decideAgain tb_Wo_decideAgain = true := by decide +kernel
theorem lk_Wo_decideAgain_0 : sc_lk tb_Wo_decideAgain 0 = some (.aload_n 0, 1, .inl (0, 0), false) := rfl
theorem lk_Wo_decideAgain_1 : sc_lk tb_Wo_decideAgain 1 = some (.getfield 38, 3, .inl (3, 7), false) := rfl
theorem lk_Wo_decideAgain_4 : sc_lk tb_Wo_decideAgain 4 = some (.iconst 0, 1, .inr (.inr 0), false) := rfl
theorem lk_Wo_decideAgain_5 : sc_lk tb_Wo_decideAgain 5 = some (.aload_n 0, 1, .inl (0, 0), false) := rfl
theorem lk_Wo_decideAgain_6 : sc_lk tb_Wo_decideAgain 6 = some (.getfield 25, 3, .inl (3, 3), false) := rfl
theorem lk_Wo_decideAgain_9 : sc_lk tb_Wo_decideAgain 9 = some (.iconst 0, 1, .inr (.inr 0), false) := rfl
theorem lk_Wo_decideAgain_10 : sc_lk tb_Wo_decideAgain 10 = some (.sipush 243, 3, .inr (.inr 0), false) := rfl
theorem lk_Wo_decideAgain_13 : sc_lk tb_Wo_decideAgain 13 = some (.invokestatic 168, 3, .inr (.inl (101, 5, mq_Ar_fillI)), false) := rfl
theorem lk_Wo_decideAgain_16 : sc_lk tb_Wo_decideAgain 16 = some (.aload_n 0, 1, .inl (0, 0), false) := rfl
theorem lk_Wo_decideAgain_17 : sc_lk tb_Wo_decideAgain 17 = some (.iload_n 1, 1, .inl (1, 0), false) := rfl
theorem lk_Wo_decideAgain_18 : sc_lk tb_Wo_decideAgain 18 = some (.iload_n 2, 1, .inl (2, 0), false) := rfl
theorem lk_Wo_decideAgain_19 : sc_lk tb_Wo_decideAgain 19 = some (.invokevirtual 174, 3, .inr (.inl (3, 2, mq_Wo_decide)), false) := rfl
theorem lk_Wo_decideAgain_22 : sc_lk tb_Wo_decideAgain 22 = some (.ireturn, 1, .inr (.inr 0), false) := rfl
def tb_Wo_settle : sc_T := [(0, .aload_n 0, 1, .inl (0, 0), false), (1, .invokevirtual 113, 3, .inr (.inl (3, 0, mq_Wo_layOut)), false), (4, .aload_n 0, 1, .inl (0, 0), false), (5, .iconst (-1), 1, .inr (.inr 0), false), (6, .invokevirtual 116, 3, .inr (.inl (3, 1, mq_Wo_settleBehind)), false), (9, .return_, 1, .inr (.inr 0), false)]
theorem tk_Wo_settle : sc_ok mq_Wo_settle tb_Wo_settle = true := by decide +kernel
theorem lk_Wo_settle_0 : sc_lk tb_Wo_settle 0 = some (.aload_n 0, 1, .inl (0, 0), false) := rfl
theorem lk_Wo_settle_1 : sc_lk tb_Wo_settle 1 = some (.invokevirtual 113, 3, .inr (.inl (3, 0, mq_Wo_layOut)), false) := rfl
theorem lk_Wo_settle_4 : sc_lk tb_Wo_settle 4 = some (.aload_n 0, 1, .inl (0, 0), false) := rfl
theorem lk_Wo_settle_5 : sc_lk tb_Wo_settle 5 = some (.iconst (-1), 1, .inr (.inr 0), false) := rfl
theorem lk_Wo_settle_6 : sc_lk tb_Wo_settle 6 = some (.invokevirtual 116, 3, .inr (.inl (3, 1, mq_Wo_settleBehind)), false) := rfl
theorem lk_Wo_settle_9 : sc_lk tb_Wo_settle 9 = some (.return_, 1, .inr (.inr 0), false) := rfl
def tb_Wo_weightOf : sc_T := [(0, .lconst 0, 1, .inr (.inr 0), false), (1, .lstore_n 3, 1, .inl (3, 0), false), (2, .iconst 0, 1, .inr (.inr 0), false), (3, .istore 5, 2, .inl (5, 0), false), (5, .iload 5, 2, .inl (5, 0), true), (7, .aload_n 0, 1, .inl (0, 0), false), (8, .getfield 82, 3, .inl (3, 10), false), (11, .if_icmp .ge 30, 3, .inl (41, 0), false), (14, .aload_n 1, 1, .inl (1, 0), false), (15, .iload 5, 2, .inl (5, 0), false), (17, .invokevirtual 129, 3, .inr (.inl (2, 1, mq_No_stateIn)), false), (20, .iload_n 2, 1, .inl (2, 0), false), (21, .if_icmp .ne 14, 3, .inl (35, 0), false), (24, .lload_n 3, 1, .inl (3, 0), false), (25, .aload_n 0, 1, .inl (0, 0), false), (26, .getfield 25, 3, .inl (3, 3), false), (29, .iload 5, 2, .inl (5, 0), false), (31, .iaload, 1, .inr (.inr 0), false), (32, .i2l, 1, .inr (.inr 0), false), (33, .ladd, 1, .inr (.inr 0), false), (34, .lstore_n 3, 1, .inl (3, 0), false), (35, .iinc 5 1, 3, .inl (5, 0), false), (38, .goto (-33), 3, .inl (5, 0), false), (41, .lload_n 3, 1, .inl (3, 0), false), (42, .lreturn, 1, .inr (.inr 0), false)]
theorem tk_Wo_weightOf : sc_ok mq_Wo_weightOf tb_Wo_weightOf = true := by decide +kernel
theorem lk_Wo_weightOf_0 : sc_lk tb_Wo_weightOf 0 = some (.lconst 0, 1, .inr (.inr 0), false) := rfl
theorem lk_Wo_weightOf_1 : sc_lk tb_Wo_weightOf 1 = some (.lstore_n 3, 1, .inl (3, 0), false) := rfl
theorem lk_Wo_weightOf_2 : sc_lk tb_Wo_weightOf 2 = some (.iconst 0, 1, .inr (.inr 0), false) := rfl
theorem lk_Wo_weightOf_3 : sc_lk tb_Wo_weightOf 3 = some (.istore 5, 2, .inl (5, 0), false) := rfl
theorem lk_Wo_weightOf_5 : sc_lk tb_Wo_weightOf 5 = some (.iload 5, 2, .inl (5, 0), true) := rfl
theorem lk_Wo_weightOf_7 : sc_lk tb_Wo_weightOf 7 = some (.aload_n 0, 1, .inl (0, 0), false) := rfl
theorem lk_Wo_weightOf_8 : sc_lk tb_Wo_weightOf 8 = some (.getfield 82, 3, .inl (3, 10), false) := rfl
theorem lk_Wo_weightOf_11 : sc_lk tb_Wo_weightOf 11 = some (.if_icmp .ge 30, 3, .inl (41, 0), false) := rfl
theorem lk_Wo_weightOf_14 : sc_lk tb_Wo_weightOf 14 = some (.aload_n 1, 1, .inl (1, 0), false) := rfl
theorem lk_Wo_weightOf_15 : sc_lk tb_Wo_weightOf 15 = some (.iload 5, 2, .inl (5, 0), false) := rfl
theorem lk_Wo_weightOf_17 : sc_lk tb_Wo_weightOf 17 = some (.invokevirtual 129, 3, .inr (.inl (2, 1, mq_No_stateIn)), false) := rfl
theorem lk_Wo_weightOf_20 : sc_lk tb_Wo_weightOf 20 = some (.iload_n 2, 1, .inl (2, 0), false) := rfl
theorem lk_Wo_weightOf_21 : sc_lk tb_Wo_weightOf 21 = some (.if_icmp .ne 14, 3, .inl (35, 0), false) := rfl
theorem lk_Wo_weightOf_24 : sc_lk tb_Wo_weightOf 24 = some (.lload_n 3, 1, .inl (3, 0), false) := rfl
theorem lk_Wo_weightOf_25 : sc_lk tb_Wo_weightOf 25 = some (.aload_n 0, 1, .inl (0, 0), false) := rfl
theorem lk_Wo_weightOf_26 : sc_lk tb_Wo_weightOf 26 = some (.getfield 25, 3, .inl (3, 3), false) := rfl
theorem lk_Wo_weightOf_29 : sc_lk tb_Wo_weightOf 29 = some (.iload 5, 2, .inl (5, 0), false) := rfl
theorem lk_Wo_weightOf_31 : sc_lk tb_Wo_weightOf 31 = some (.iaload, 1, .inr (.inr 0), false) := rfl
theorem lk_Wo_weightOf_32 : sc_lk tb_Wo_weightOf 32 = some (.i2l, 1, .inr (.inr 0), false) := rfl
theorem lk_Wo_weightOf_33 : sc_lk tb_Wo_weightOf 33 = some (.ladd, 1, .inr (.inr 0), false) := rfl
theorem lk_Wo_weightOf_34 : sc_lk tb_Wo_weightOf 34 = some (.lstore_n 3, 1, .inl (3, 0), false) := rfl
theorem lk_Wo_weightOf_35 : sc_lk tb_Wo_weightOf 35 = some (.iinc 5 1, 3, .inl (5, 0), false) := rfl
theorem lk_Wo_weightOf_38 : sc_lk tb_Wo_weightOf 38 = some (.goto (-33), 3, .inl (5, 0), false) := rfl
theorem lk_Wo_weightOf_41 : sc_lk tb_Wo_weightOf 41 = some (.lload_n 3, 1, .inl (3, 0), false) := rfl
theorem lk_Wo_weightOf_42 : sc_lk tb_Wo_weightOf 42 = some (.lreturn, 1, .inr (.inr 0), false) := rfl
def tb_Wo_outermostWorth : sc_T := [(0, .iconst 0, 1, .inr (.inr 0), false), (1, .istore_n 2, 1, .inl (2, 0), false), (2, .iconst 0, 1, .inr (.inr 0), false), (3, .istore_n 3, 1, .inl (3, 0), false), (4, .iconst 0, 1, .inr (.inr 0), false), (5, .istore 4, 2, .inl (4, 0), false), (7, .iload 4, 2, .inl (4, 0), true), (9, .aload_n 0, 1, .inl (0, 0), false), (10, .getfield 82, 3, .inl (3, 10), false), (13, .if_icmp .ge 65, 3, .inl (78, 0), false), (16, .aload_n 0, 1, .inl (0, 0), false), (17, .getfield 25, 3, .inl (3, 3), false), (20, .iload 4, 2, .inl (4, 0), false), (22, .iaload, 1, .inr (.inr 0), false), (23, .ifCond .ne 6, 3, .inl (29, 0), false), (26, .goto 46, 3, .inl (72, 0), false), (29, .iload_n 3, 1, .inl (3, 0), false), (30, .ifCond .eq 32, 3, .inl (62, 0), false), (33, .iload_n 1, 1, .inl (1, 0), false), (34, .ifCond .eq 17, 3, .inl (51, 0), false), (37, .aload_n 0, 1, .inl (0, 0), false), (38, .getfield 28, 3, .inl (3, 4), false), (41, .iload 4, 2, .inl (4, 0), false), (43, .iaload, 1, .inr (.inr 0), false), (44, .iload_n 2, 1, .inl (2, 0), false), (45, .if_icmp .le 25, 3, .inl (70, 0), false), (48, .goto 14, 3, .inl (62, 0), false), (51, .aload_n 0, 1, .inl (0, 0), false), (52, .getfield 28, 3, .inl (3, 4), false), (55, .iload 4, 2, .inl (4, 0), false), (57, .iaload, 1, .inr (.inr 0), false), (58, .iload_n 2, 1, .inl (2, 0), false), (59, .if_icmp .ge 11, 3, .inl (70, 0), false), (62, .aload_n 0, 1, .inl (0, 0), false), (63, .getfield 28, 3, .inl (3, 4), false), (66, .iload 4, 2, .inl (4, 0), false), (68, .iaload, 1, .inr (.inr 0), false), (69, .istore_n 2, 1, .inl (2, 0), false), (70, .iconst 1, 1, .inr (.inr 0), false), (71, .istore_n 3, 1, .inl (3, 0), false), (72, .iinc 4 1, 3, .inl (4, 0), false), (75, .goto (-68), 3, .inl (7, 0), false), (78, .iload_n 2, 1, .inl (2, 0), false), (79, .ireturn, 1, .inr (.inr 0), false)]
theorem tk_Wo_outermostWorth : sc_ok mq_Wo_outermostWorth tb_Wo_outermostWorth = true := by decide +kernel
theorem lk_Wo_outermostWorth_0 : sc_lk tb_Wo_outermostWorth 0 = some (.iconst 0, 1, .inr (.inr 0), false) := rfl
theorem lk_Wo_outermostWorth_1 : sc_lk tb_Wo_outermostWorth 1 = some (.istore_n 2, 1, .inl (2, 0), false) := rfl
theorem lk_Wo_outermostWorth_2 : sc_lk tb_Wo_outermostWorth 2 = some (.iconst 0, 1, .inr (.inr 0), false) := rfl
theorem lk_Wo_outermostWorth_3 : sc_lk tb_Wo_outermostWorth 3 = some (.istore_n 3, 1, .inl (3, 0), false) := rfl
theorem lk_Wo_outermostWorth_4 : sc_lk tb_Wo_outermostWorth 4 = some (.iconst 0, 1, .inr (.inr 0), false) := rfl
theorem lk_Wo_outermostWorth_5 : sc_lk tb_Wo_outermostWorth 5 = some (.istore 4, 2, .inl (4, 0), false) := rfl
theorem lk_Wo_outermostWorth_7 : sc_lk tb_Wo_outermostWorth 7 = some (.iload 4, 2, .inl (4, 0), true) := rfl
theorem lk_Wo_outermostWorth_9 : sc_lk tb_Wo_outermostWorth 9 = some (.aload_n 0, 1, .inl (0, 0), false) := rfl
theorem lk_Wo_outermostWorth_10 : sc_lk tb_Wo_outermostWorth 10 = some (.getfield 82, 3, .inl (3, 10), false) := rfl
theorem lk_Wo_outermostWorth_13 : sc_lk tb_Wo_outermostWorth 13 = some (.if_icmp .ge 65, 3, .inl (78, 0), false) := rfl
theorem lk_Wo_outermostWorth_16 : sc_lk tb_Wo_outermostWorth 16 = some (.aload_n 0, 1, .inl (0, 0), false) := rfl
theorem lk_Wo_outermostWorth_17 : sc_lk tb_Wo_outermostWorth 17 = some (.getfield 25, 3, .inl (3, 3), false) := rfl
theorem lk_Wo_outermostWorth_20 : sc_lk tb_Wo_outermostWorth 20 = some (.iload 4, 2, .inl (4, 0), false) := rfl
theorem lk_Wo_outermostWorth_22 : sc_lk tb_Wo_outermostWorth 22 = some (.iaload, 1, .inr (.inr 0), false) := rfl
theorem lk_Wo_outermostWorth_23 : sc_lk tb_Wo_outermostWorth 23 = some (.ifCond .ne 6, 3, .inl (29, 0), false) := rfl
theorem lk_Wo_outermostWorth_26 : sc_lk tb_Wo_outermostWorth 26 = some (.goto 46, 3, .inl (72, 0), false) := rfl
theorem lk_Wo_outermostWorth_29 : sc_lk tb_Wo_outermostWorth 29 = some (.iload_n 3, 1, .inl (3, 0), false) := rfl
theorem lk_Wo_outermostWorth_30 : sc_lk tb_Wo_outermostWorth 30 = some (.ifCond .eq 32, 3, .inl (62, 0), false) := rfl
theorem lk_Wo_outermostWorth_33 : sc_lk tb_Wo_outermostWorth 33 = some (.iload_n 1, 1, .inl (1, 0), false) := rfl
theorem lk_Wo_outermostWorth_34 : sc_lk tb_Wo_outermostWorth 34 = some (.ifCond .eq 17, 3, .inl (51, 0), false) := rfl
theorem lk_Wo_outermostWorth_37 : sc_lk tb_Wo_outermostWorth 37 = some (.aload_n 0, 1, .inl (0, 0), false) := rfl
theorem lk_Wo_outermostWorth_38 : sc_lk tb_Wo_outermostWorth 38 = some (.getfield 28, 3, .inl (3, 4), false) := rfl
theorem lk_Wo_outermostWorth_41 : sc_lk tb_Wo_outermostWorth 41 = some (.iload 4, 2, .inl (4, 0), false) := rfl
theorem lk_Wo_outermostWorth_43 : sc_lk tb_Wo_outermostWorth 43 = some (.iaload, 1, .inr (.inr 0), false) := rfl
theorem lk_Wo_outermostWorth_44 : sc_lk tb_Wo_outermostWorth 44 = some (.iload_n 2, 1, .inl (2, 0), false) := rfl
theorem lk_Wo_outermostWorth_45 : sc_lk tb_Wo_outermostWorth 45 = some (.if_icmp .le 25, 3, .inl (70, 0), false) := rfl
theorem lk_Wo_outermostWorth_48 : sc_lk tb_Wo_outermostWorth 48 = some (.goto 14, 3, .inl (62, 0), false) := rfl
theorem lk_Wo_outermostWorth_51 : sc_lk tb_Wo_outermostWorth 51 = some (.aload_n 0, 1, .inl (0, 0), false) := rfl
theorem lk_Wo_outermostWorth_52 : sc_lk tb_Wo_outermostWorth 52 = some (.getfield 28, 3, .inl (3, 4), false) := rfl
theorem lk_Wo_outermostWorth_55 : sc_lk tb_Wo_outermostWorth 55 = some (.iload 4, 2, .inl (4, 0), false) := rfl
theorem lk_Wo_outermostWorth_57 : sc_lk tb_Wo_outermostWorth 57 = some (.iaload, 1, .inr (.inr 0), false) := rfl
theorem lk_Wo_outermostWorth_58 : sc_lk tb_Wo_outermostWorth 58 = some (.iload_n 2, 1, .inl (2, 0), false) := rfl
theorem lk_Wo_outermostWorth_59 : sc_lk tb_Wo_outermostWorth 59 = some (.if_icmp .ge 11, 3, .inl (70, 0), false) := rfl
theorem lk_Wo_outermostWorth_62 : sc_lk tb_Wo_outermostWorth 62 = some (.aload_n 0, 1, .inl (0, 0), false) := rfl
theorem lk_Wo_outermostWorth_63 : sc_lk tb_Wo_outermostWorth 63 = some (.getfield 28, 3, .inl (3, 4), false) := rfl
theorem lk_Wo_outermostWorth_66 : sc_lk tb_Wo_outermostWorth 66 = some (.iload 4, 2, .inl (4, 0), false) := rfl
theorem lk_Wo_outermostWorth_68 : sc_lk tb_Wo_outermostWorth 68 = some (.iaload, 1, .inr (.inr 0), false) := rfl
theorem lk_Wo_outermostWorth_69 : sc_lk tb_Wo_outermostWorth 69 = some (.istore_n 2, 1, .inl (2, 0), false) := rfl
theorem lk_Wo_outermostWorth_70 : sc_lk tb_Wo_outermostWorth 70 = some (.iconst 1, 1, .inr (.inr 0), false) := rfl
theorem lk_Wo_outermostWorth_71 : sc_lk tb_Wo_outermostWorth 71 = some (.istore_n 3, 1, .inl (3, 0), false) := rfl
theorem lk_Wo_outermostWorth_72 : sc_lk tb_Wo_outermostWorth 72 = some (.iinc 4 1, 3, .inl (4, 0), false) := rfl
theorem lk_Wo_outermostWorth_75 : sc_lk tb_Wo_outermostWorth 75 = some (.goto (-68), 3, .inl (7, 0), false) := rfl
theorem lk_Wo_outermostWorth_78 : sc_lk tb_Wo_outermostWorth 78 = some (.iload_n 2, 1, .inl (2, 0), false) := rfl
theorem lk_Wo_outermostWorth_79 : sc_lk tb_Wo_outermostWorth 79 = some (.ireturn, 1, .inr (.inr 0), false) := rfl
