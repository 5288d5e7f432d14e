def tb_Sc_node : sc_T := [(0, .iload_n 1, 1, .inl (1, 0), false), (1, .ifCond .lt 8, 3, .inl (9, 0), false), (4, .iload_n 1, 1, .inl (1, 0), false), (5, .iconst 2, 1, .inr (.inr 0), false), (6, .if_icmp .le 5, 3, .inl (11, 0), false), (9, .iconst (-1), 1, .inr (.inr 0), false), (10, .ireturn, 1, .inr (.inr 0), false), (11, .iload_n 1, 1, .inl (1, 0), false), (12, .ifCond .eq 15, 3, .inl (27, 0), false), (15, .iload_n 2, 1, .inl (2, 0), false), (16, .iconst 2, 1, .inr (.inr 0), false), (17, .if_icmp .lt 8, 3, .inl (25, 0), false), (20, .iload_n 2, 1, .inl (2, 0), false), (21, .iconst 3, 1, .inr (.inr 0), false), (22, .if_icmp .le 5, 3, .inl (27, 0), false), (25, .iconst (-1), 1, .inr (.inr 0), false), (26, .ireturn, 1, .inr (.inr 0), false), (27, .aload_n 0, 1, .inl (0, 0), false), (28, .getfield 20, 3, .inl (4, 1), false), (31, .getfield 50, 3, .inl (0, 1), false), (34, .bipush 10, 2, .inr (.inr 0), false), (36, .if_icmp .lt 6, 3, .inl (42, 0), false), (39, .bipush (-2), 2, .inr (.inr 0), false), (41, .ireturn, 1, .inr (.inr 0), false), (42, .iload_n 1, 1, .inl (1, 0), false), (43, .ifCond .eq 21, 3, .inl (64, 0), false), (46, .aload_n 0, 1, .inl (0, 0), false), (47, .getfield 20, 3, .inl (4, 1), false), (50, .getfield 56, 3, .inl (0, 2), false), (53, .iload_n 2, 1, .inl (2, 0), false), (54, .imul, 1, .inr (.inr 0), false), (55, .sipush 243, 3, .inr (.inr 0), false), (58, .if_icmp .le 6, 3, .inl (64, 0), false), (61, .bipush (-6), 2, .inr (.inr 0), false), (63, .ireturn, 1, .inr (.inr 0), false), (64, .aload_n 0, 1, .inl (0, 0), false), (65, .getfield 20, 3, .inl (4, 1), false), (68, .iload_n 1, 1, .inl (1, 0), false), (69, .iload_n 1, 1, .inl (1, 0), false), (70, .ifCond .ne 7, 3, .inl (77, 0), false), (73, .iconst 0, 1, .inr (.inr 0), false), (74, .goto 4, 3, .inl (78, 0), false), (77, .iload_n 2, 1, .inl (2, 0), false), (78, .invokevirtual 59, 3, .inr (.inl (0, 2, mq_Ch_add)), false), (81, .ireturn, 1, .inr (.inr 0), false)]
theorem tk_Sc_node : sc_ok mq_Sc_node tb_Sc_node = true := by decide +kernel
theorem lk_Sc_node_0 : sc_lk tb_Sc_node 0 = some (.iload_n 1, 1, .inl (1, 0), false) := rfl
theorem lk_Sc_node_1 : sc_lk tb_Sc_node 1 = some (.ifCond .lt 8, 3, .inl (9, 0), false) := rfl
theorem lk_Sc_node_4 : sc_lk tb_Sc_node 4 = some (.iload_n 1, 1, .inl (1, 0), false) := rfl
theorem lk_Sc_node_5 : sc_lk tb_Sc_node 5 = some (.iconst 2, 1, .inr (.inr 0), false) := rfl
theorem lk_Sc_node_6 : sc_lk tb_Sc_node 6 = some (.if_icmp .le 5, 3, .inl (11, 0), false) := rfl
theorem lk_Sc_node_9 : sc_lk tb_Sc_node 9 = some (.iconst (-1), 1, .inr (.inr 0), false) := rfl
theorem lk_Sc_node_10 : sc_lk tb_Sc_node 10 = some (.ireturn, 1, .inr (.inr 0), false) := rfl
theorem lk_Sc_node_11 : sc_lk tb_Sc_node 11 = some (.iload_n 1, 1, .inl (1, 0), false) := rfl
theorem lk_Sc_node_12 : sc_lk tb_Sc_node 12 = some (.ifCond .eq 15, 3, .inl (27, 0), false) := rfl
theorem lk_Sc_node_15 : sc_lk tb_Sc_node 15 = some (.iload_n 2, 1, .inl (2, 0), false) := rfl
theorem lk_Sc_node_16 : sc_lk tb_Sc_node 16 = some (.iconst 2, 1, .inr (.inr 0), false) := rfl
theorem lk_Sc_node_17 : sc_lk tb_Sc_node 17 = some (.if_icmp .lt 8, 3, .inl (25, 0), false) := rfl
theorem lk_Sc_node_20 : sc_lk tb_Sc_node 20 = some (.iload_n 2, 1, .inl (2, 0), false) := rfl
theorem lk_Sc_node_21 : sc_lk tb_Sc_node 21 = some (.iconst 3, 1, .inr (.inr 0), false) := rfl
theorem lk_Sc_node_22 : sc_lk tb_Sc_node 22 = some (.if_icmp .le 5, 3, .inl (27, 0), false) := rfl
theorem lk_Sc_node_25 : sc_lk tb_Sc_node 25 = some (.iconst (-1), 1, .inr (.inr 0), false) := rfl
theorem lk_Sc_node_26 : sc_lk tb_Sc_node 26 = some (.ireturn, 1, .inr (.inr 0), false) := rfl
theorem lk_Sc_node_27 : sc_lk tb_Sc_node 27 = some (.aload_n 0, 1, .inl (0, 0), false) := rfl
theorem lk_Sc_node_28 : sc_lk tb_Sc_node 28 = some (.getfield 20, 3, .inl (4, 1), false) := rfl
theorem lk_Sc_node_31 : sc_lk tb_Sc_node 31 = some (.getfield 50, 3, .inl (0, 1), false) := rfl
theorem lk_Sc_node_34 : sc_lk tb_Sc_node 34 = some (.bipush 10, 2, .inr (.inr 0), false) := rfl
theorem lk_Sc_node_36 : sc_lk tb_Sc_node 36 = some (.if_icmp .lt 6, 3, .inl (42, 0), false) := rfl
theorem lk_Sc_node_39 : sc_lk tb_Sc_node 39 = some (.bipush (-2), 2, .inr (.inr 0), false) := rfl
theorem lk_Sc_node_41 : sc_lk tb_Sc_node 41 = some (.ireturn, 1, .inr (.inr 0), false) := rfl
theorem lk_Sc_node_42 : sc_lk tb_Sc_node 42 = some (.iload_n 1, 1, .inl (1, 0), false) := rfl
theorem lk_Sc_node_43 : sc_lk tb_Sc_node 43 = some (.ifCond .eq 21, 3, .inl (64, 0), false) := rfl
theorem lk_Sc_node_46 : sc_lk tb_Sc_node 46 = some (.aload_n 0, 1, .inl (0, 0), false) := rfl
theorem lk_Sc_node_47 : sc_lk tb_Sc_node 47 = some (.getfield 20, 3, .inl (4, 1), false) := rfl
theorem lk_Sc_node_50 : sc_lk tb_Sc_node 50 = some (.getfield 56, 3, .inl (0, 2), false) := rfl
theorem lk_Sc_node_53 : sc_lk tb_Sc_node 53 = some (.iload_n 2, 1, .inl (2, 0), false) := rfl
theorem lk_Sc_node_54 : sc_lk tb_Sc_node 54 = some (.imul, 1, .inr (.inr 0), false) := rfl
theorem lk_Sc_node_55 : sc_lk tb_Sc_node 55 = some (.sipush 243, 3, .inr (.inr 0), false) := rfl
theorem lk_Sc_node_58 : sc_lk tb_Sc_node 58 = some (.if_icmp .le 6, 3, .inl (64, 0), false) := rfl
theorem lk_Sc_node_61 : sc_lk tb_Sc_node 61 = some (.bipush (-6), 2, .inr (.inr 0), false) := rfl
theorem lk_Sc_node_63 : sc_lk tb_Sc_node 63 = some (.ireturn, 1, .inr (.inr 0), false) := rfl
theorem lk_Sc_node_64 : sc_lk tb_Sc_node 64 = some (.aload_n 0, 1, .inl (0, 0), false) := rfl
theorem lk_Sc_node_65 : sc_lk tb_Sc_node 65 = some (.getfield 20, 3, .inl (4, 1), false) := rfl
theorem lk_Sc_node_68 : sc_lk tb_Sc_node 68 = some (.iload_n 1, 1, .inl (1, 0), false) := rfl
theorem lk_Sc_node_69 : sc_lk tb_Sc_node 69 = some (.iload_n 1, 1, .inl (1, 0), false) := rfl
theorem lk_Sc_node_70 : sc_lk tb_Sc_node 70 = some (.ifCond .ne 7, 3, .inl (77, 0), false) := rfl
theorem lk_Sc_node_73 : sc_lk tb_Sc_node 73 = some (.iconst 0, 1, .inr (.inr 0), false) := rfl
theorem lk_Sc_node_74 : sc_lk tb_Sc_node 74 = some (.goto 4, 3, .inl (78, 0), false) := rfl
theorem lk_Sc_node_77 : sc_lk tb_Sc_node 77 = some (.iload_n 2, 1, .inl (2, 0), false) := rfl
theorem lk_Sc_node_78 : sc_lk tb_Sc_node 78 = some (.invokevirtual 59, 3, .inr (.inl (0, 2, mq_Ch_add)), false) := rfl
theorem lk_Sc_node_81 : sc_lk tb_Sc_node 81 = some (.ireturn, 1, .inr (.inr 0), false) := rfl
def tb_Sc_parent : sc_T := [(0, .aload_n 0, 1, .inl (0, 0), false), (1, .getfield 20, 3, .inl (4, 1), false), (4, .iload_n 1, 1, .inl (1, 0), false), (5, .invokevirtual 63, 3, .inr (.inl (0, 1, mq_Ch_has)), false), (8, .ifCond .eq 19, 3, .inl (27, 0), false), (11, .aload_n 0, 1, .inl (0, 0), false), (12, .getfield 20, 3, .inl (4, 1), false), (15, .iload_n 2, 1, .inl (2, 0), false), (16, .invokevirtual 63, 3, .inr (.inl (0, 1, mq_Ch_has)), false), (19, .ifCond .eq 8, 3, .inl (27, 0), false), (22, .iload_n 2, 1, .inl (2, 0), false), (23, .iload_n 1, 1, .inl (1, 0), false), (24, .if_icmp .lt 5, 3, .inl (29, 0), false), (27, .iconst (-1), 1, .inr (.inr 0), false), (28, .ireturn, 1, .inr (.inr 0), false), (29, .aload_n 0, 1, .inl (0, 0), false), (30, .getfield 20, 3, .inl (4, 1), false), (33, .getfield 67, 3, .inl (0, 0), false), (36, .iload_n 1, 1, .inl (1, 0), false), (37, .aaload, 1, .inr (.inr 0), false), (38, .astore_n 3, 1, .inl (3, 0), false), (39, .aload_n 0, 1, .inl (0, 0), false), (40, .getfield 20, 3, .inl (4, 1), false), (43, .getfield 67, 3, .inl (0, 0), false), (46, .iload_n 2, 1, .inl (2, 0), false), (47, .aaload, 1, .inr (.inr 0), false), (48, .astore 4, 2, .inl (4, 0), false), (50, .aload 4, 2, .inl (4, 0), false), (52, .getfield 71, 3, .inl (2, 0), false), (55, .ifCond .eq 11, 3, .inl (66, 0), false), (58, .aload_n 3, 1, .inl (3, 0), false), (59, .iload_n 2, 1, .inl (2, 0), false), (60, .invokevirtual 76, 3, .inr (.inl (2, 1, mq_No_isChildOf)), false), (63, .ifCond .eq 5, 3, .inl (68, 0), false), (66, .iconst (-1), 1, .inr (.inr 0), false), (67, .ireturn, 1, .inr (.inr 0), false), (68, .aload_n 3, 1, .inl (3, 0), false), (69, .getfield 71, 3, .inl (2, 0), false), (72, .iconst 2, 1, .inr (.inr 0), false), (73, .if_icmp .ne 9, 3, .inl (82, 0), false), (76, .aload_n 0, 1, .inl (0, 0), false), (77, .iconst 3, 1, .inr (.inr 0), false), (78, .invokevirtual 79, 3, .inr (.inl (4, 1, mq_Sc_find)), false), (81, .ireturn, 1, .inr (.inr 0), false), (82, .aload_n 3, 1, .inl (3, 0), false), (83, .getfield 83, 3, .inl (2, 5), false), (86, .aload_n 3, 1, .inl (3, 0), false), (87, .invokevirtual 86, 3, .inr (.inl (2, 0, mq_No_mostParents)), false), (90, .if_icmp .lt 6, 3, .inl (96, 0), false), (93, .bipush (-2), 2, .inr (.inr 0), false), (95, .ireturn, 1, .inr (.inr 0), false), (96, .aload_n 3, 1, .inl (3, 0), false), (97, .iload_n 2, 1, .inl (2, 0), false), (98, .aload 4, 2, .inl (4, 0), false), (100, .getfield 90, 3, .inl (2, 1), false), (103, .invokevirtual 93, 3, .inr (.inl (2, 2, mq_No_addParent)), false), (106, .aload_n 3, 1, .inl (3, 0), false), (107, .getfield 83, 3, .inl (2, 5), false), (110, .ireturn, 1, .inr (.inr 0), false)]
theorem tk_Sc_parent : sc_ok mq_Sc_parent tb_Sc_parent = true := by decide +kernel
theorem lk_Sc_parent_0 : sc_lk tb_Sc_parent 0 = some (.aload_n 0, 1, .inl (0, 0), false) := rfl
theorem lk_Sc_parent_1 : sc_lk tb_Sc_parent 1 = some (.getfield 20, 3, .inl (4, 1), false) := rfl
theorem lk_Sc_parent_4 : sc_lk tb_Sc_parent 4 = some (.iload_n 1, 1, .inl (1, 0), false) := rfl
theorem lk_Sc_parent_5 : sc_lk tb_Sc_parent 5 = some (.invokevirtual 63, 3, .inr (.inl (0, 1, mq_Ch_has)), false) := rfl
theorem lk_Sc_parent_8 : sc_lk tb_Sc_parent 8 = some (.ifCond .eq 19, 3, .inl (27, 0), false) := rfl
theorem lk_Sc_parent_11 : sc_lk tb_Sc_parent 11 = some (.aload_n 0, 1, .inl (0, 0), false) := rfl
theorem lk_Sc_parent_12 : sc_lk tb_Sc_parent 12 = some (.getfield 20, 3, .inl (4, 1), false) := rfl
theorem lk_Sc_parent_15 : sc_lk tb_Sc_parent 15 = some (.iload_n 2, 1, .inl (2, 0), false) := rfl
theorem lk_Sc_parent_16 : sc_lk tb_Sc_parent 16 = some (.invokevirtual 63, 3, .inr (.inl (0, 1, mq_Ch_has)), false) := rfl
theorem lk_Sc_parent_19 : sc_lk tb_Sc_parent 19 = some (.ifCond .eq 8, 3, .inl (27, 0), false) := rfl
theorem lk_Sc_parent_22 : sc_lk tb_Sc_parent 22 = some (.iload_n 2, 1, .inl (2, 0), false) := rfl
theorem lk_Sc_parent_23 : sc_lk tb_Sc_parent 23 = some (.iload_n 1, 1, .inl (1, 0), false) := rfl
theorem lk_Sc_parent_24 : sc_lk tb_Sc_parent 24 = some (.if_icmp .lt 5, 3, .inl (29, 0), false) := rfl
theorem lk_Sc_parent_27 : sc_lk tb_Sc_parent 27 = some (.iconst (-1), 1, .inr (.inr 0), false) := rfl
theorem lk_Sc_parent_28 : sc_lk tb_Sc_parent 28 = some (.ireturn, 1, .inr (.inr 0), false) := rfl
theorem lk_Sc_parent_29 : sc_lk tb_Sc_parent 29 = some (.aload_n 0, 1, .inl (0, 0), false) := rfl
theorem lk_Sc_parent_30 : sc_lk tb_Sc_parent 30 = some (.getfield 20, 3, .inl (4, 1), false) := rfl
theorem lk_Sc_parent_33 : sc_lk tb_Sc_parent 33 = some (.getfield 67, 3, .inl (0, 0), false) := rfl
theorem lk_Sc_parent_36 : sc_lk tb_Sc_parent 36 = some (.iload_n 1, 1, .inl (1, 0), false) := rfl
theorem lk_Sc_parent_37 : sc_lk tb_Sc_parent 37 = some (.aaload, 1, .inr (.inr 0), false) := rfl
theorem lk_Sc_parent_38 : sc_lk tb_Sc_parent 38 = some (.astore_n 3, 1, .inl (3, 0), false) := rfl
theorem lk_Sc_parent_39 : sc_lk tb_Sc_parent 39 = some (.aload_n 0, 1, .inl (0, 0), false) := rfl
theorem lk_Sc_parent_40 : sc_lk tb_Sc_parent 40 = some (.getfield 20, 3, .inl (4, 1), false) := rfl
theorem lk_Sc_parent_43 : sc_lk tb_Sc_parent 43 = some (.getfield 67, 3, .inl (0, 0), false) := rfl
theorem lk_Sc_parent_46 : sc_lk tb_Sc_parent 46 = some (.iload_n 2, 1, .inl (2, 0), false) := rfl
theorem lk_Sc_parent_47 : sc_lk tb_Sc_parent 47 = some (.aaload, 1, .inr (.inr 0), false) := rfl
theorem lk_Sc_parent_48 : sc_lk tb_Sc_parent 48 = some (.astore 4, 2, .inl (4, 0), false) := rfl
theorem lk_Sc_parent_50 : sc_lk tb_Sc_parent 50 = some (.aload 4, 2, .inl (4, 0), false) := rfl
theorem lk_Sc_parent_52 : sc_lk tb_Sc_parent 52 = some (.getfield 71, 3, .inl (2, 0), false) := rfl
theorem lk_Sc_parent_55 : sc_lk tb_Sc_parent 55 = some (.ifCond .eq 11, 3, .inl (66, 0), false) := rfl
theorem lk_Sc_parent_58 : sc_lk tb_Sc_parent 58 = some (.aload_n 3, 1, .inl (3, 0), false) := rfl
theorem lk_Sc_parent_59 : sc_lk tb_Sc_parent 59 = some (.iload_n 2, 1, .inl (2, 0), false) := rfl
theorem lk_Sc_parent_60 : sc_lk tb_Sc_parent 60 = some (.invokevirtual 76, 3, .inr (.inl (2, 1, mq_No_isChildOf)), false) := rfl
theorem lk_Sc_parent_63 : sc_lk tb_Sc_parent 63 = some (.ifCond .eq 5, 3, .inl (68, 0), false) := rfl
theorem lk_Sc_parent_66 : sc_lk tb_Sc_parent 66 = some (.iconst (-1), 1, .inr (.inr 0), false) := rfl
theorem lk_Sc_parent_67 : sc_lk tb_Sc_parent 67 = some (.ireturn, 1, .inr (.inr 0), false) := rfl
theorem lk_Sc_parent_68 : sc_lk tb_Sc_parent 68 = some (.aload_n 3, 1, .inl (3, 0), false) := rfl
theorem lk_Sc_parent_69 : sc_lk tb_Sc_parent 69 = some (.getfield 71, 3, .inl (2, 0), false) := rfl
theorem lk_Sc_parent_72 : sc_lk tb_Sc_parent 72 = some (.iconst 2, 1, .inr (.inr 0), false) := rfl
theorem lk_Sc_parent_73 : sc_lk tb_Sc_parent 73 = some (.if_icmp .ne 9, 3, .inl (82, 0), false) := rfl
theorem lk_Sc_parent_76 : sc_lk tb_Sc_parent 76 = some (.aload_n 0, 1, .inl (0, 0), false) := rfl
theorem lk_Sc_parent_77 : sc_lk tb_Sc_parent 77 = some (.iconst 3, 1, .inr (.inr 0), false) := rfl
theorem lk_Sc_parent_78 : sc_lk tb_Sc_parent 78 = some (.invokevirtual 79, 3, .inr (.inl (4, 1, mq_Sc_find)), false) := rfl
theorem lk_Sc_parent_81 : sc_lk tb_Sc_parent 81 = some (.ireturn, 1, .inr (.inr 0), false) := rfl
theorem lk_Sc_parent_82 : sc_lk tb_Sc_parent 82 = some (.aload_n 3, 1, .inl (3, 0), false) := rfl
theorem lk_Sc_parent_83 : sc_lk tb_Sc_parent 83 = some (.getfield 83, 3, .inl (2, 5), false) := rfl
theorem lk_Sc_parent_86 : sc_lk tb_Sc_parent 86 = some (.aload_n 3, 1, .inl (3, 0), false) := rfl
theorem lk_Sc_parent_87 : sc_lk tb_Sc_parent 87 = some (.invokevirtual 86, 3, .inr (.inl (2, 0, mq_No_mostParents)), false) := rfl
theorem lk_Sc_parent_90 : sc_lk tb_Sc_parent 90 = some (.if_icmp .lt 6, 3, .inl (96, 0), false) := rfl
theorem lk_Sc_parent_93 : sc_lk tb_Sc_parent 93 = some (.bipush (-2), 2, .inr (.inr 0), false) := rfl
theorem lk_Sc_parent_95 : sc_lk tb_Sc_parent 95 = some (.ireturn, 1, .inr (.inr 0), false) := rfl
theorem lk_Sc_parent_96 : sc_lk tb_Sc_parent 96 = some (.aload_n 3, 1, .inl (3, 0), false) := rfl
theorem lk_Sc_parent_97 : sc_lk tb_Sc_parent 97 = some (.iload_n 2, 1, .inl (2, 0), false) := rfl
theorem lk_Sc_parent_98 : sc_lk tb_Sc_parent 98 = some (.aload 4, 2, .inl (4, 0), false) := rfl
theorem lk_Sc_parent_100 : sc_lk tb_Sc_parent 100 = some (.getfield 90, 3, .inl (2, 1), false) := rfl
theorem lk_Sc_parent_103 : sc_lk tb_Sc_parent 103 = some (.invokevirtual 93, 3, .inr (.inl (2, 2, mq_No_addParent)), false) := rfl
theorem lk_Sc_parent_106 : sc_lk tb_Sc_parent 106 = some (.aload_n 3, 1, .inl (3, 0), false) := rfl
theorem lk_Sc_parent_107 : sc_lk tb_Sc_parent 107 = some (.getfield 83, 3, .inl (2, 5), false) := rfl
theorem lk_Sc_parent_110 : sc_lk tb_Sc_parent 110 = some (.ireturn, 1, .inr (.inr 0), false) := rfl
def tb_Sc_find : sc_T := [(0, .iload_n 1, 1, .inl (1, 0), false), (1, .iconst 1, 1, .inr (.inr 0), false), (2, .if_icmp .lt 8, 3, .inl (10, 0), false), (5, .iload_n 1, 1, .inl (1, 0), false), (6, .iconst 5, 1, .inr (.inr 0), false), (7, .if_icmp .le 6, 3, .inl (13, 0), false), (10, .bipush (-3), 2, .inr (.inr 0), false), (12, .ireturn, 1, .inr (.inr 0), false), (13, .aload_n 0, 1, .inl (0, 0), false), (14, .iload_n 1, 1, .inl (1, 0), false), (15, .putfield 239, 3, .inl (4, 6), false), (18, .aload_n 0, 1, .inl (0, 0), false), (19, .getfield 43, 3, .inl (4, 5), false), (22, .iload_n 1, 1, .inl (1, 0), false), (23, .dup2, 1, .inr (.inr 0), false), (24, .iaload, 1, .inr (.inr 0), false), (25, .iconst 1, 1, .inr (.inr 0), false), (26, .iadd, 1, .inr (.inr 0), false), (27, .iastore, 1, .inr (.inr 0), false), (28, .bipush (-3), 2, .inr (.inr 0), false), (30, .ireturn, 1, .inr (.inr 0), false)]
theorem tk_Sc_find : sc_ok mq_Sc_find tb_Sc_find = true := by decide +kernel
theorem lk_Sc_find_0 : sc_lk tb_Sc_find 0 = some (.iload_n 1, 1, .inl (1, 0), false) := rfl
theorem lk_Sc_find_1 : sc_lk tb_Sc_find 1 = some (.iconst 1, 1, .inr (.inr 0), false) := rfl
theorem lk_Sc_find_2 : sc_lk tb_Sc_find 2 = some (.if_icmp .lt 8, 3, .inl (10, 0), false) := rfl
theorem lk_Sc_find_5 : sc_lk tb_Sc_find 5 = some (.iload_n 1, 1, .inl (1, 0), false) := rfl
theorem lk_Sc_find_6 : sc_lk tb_Sc_find 6 = some (.iconst 5, 1, .inr (.inr 0), false) := rfl
theorem lk_Sc_find_7 : sc_lk tb_Sc_find 7 = some (.if_icmp .le 6, 3, .inl (13, 0), false) := rfl
theorem lk_Sc_find_10 : sc_lk tb_Sc_find 10 = some (.bipush (-3), 2, .inr (.inr 0), false) := rfl
theorem lk_Sc_find_12 : sc_lk tb_Sc_find 12 = some (.ireturn, 1, .inr (.inr 0), false) := rfl
theorem lk_Sc_find_13 : sc_lk tb_Sc_find 13 = some (.aload_n 0, 1, .inl (0, 0), false) := rfl
theorem lk_Sc_find_14 : sc_lk tb_Sc_find 14 = some (.iload_n 1, 1, .inl (1, 0), false) := rfl
theorem lk_Sc_find_15 : sc_lk tb_Sc_find 15 = some (.putfield 239, 3, .inl (4, 6), false) := rfl
theorem lk_Sc_find_18 : sc_lk tb_Sc_find 18 = some (.aload_n 0, 1, .inl (0, 0), false) := rfl
theorem lk_Sc_find_19 : sc_lk tb_Sc_find 19 = some (.getfield 43, 3, .inl (4, 5), false) := rfl
theorem lk_Sc_find_22 : sc_lk tb_Sc_find 22 = some (.iload_n 1, 1, .inl (1, 0), false) := rfl
theorem lk_Sc_find_23 : sc_lk tb_Sc_find 23 = some (.dup2, 1, .inr (.inr 0), false) := rfl
theorem lk_Sc_find_24 : sc_lk tb_Sc_find 24 = some (.iaload, 1, .inr (.inr 0), false) := rfl
theorem lk_Sc_find_25 : sc_lk tb_Sc_find 25 = some (.iconst 1, 1, .inr (.inr 0), false) := rfl
theorem lk_Sc_find_26 : sc_lk tb_Sc_find 26 = some (.iadd, 1, .inr (.inr 0), false) := rfl
theorem lk_Sc_find_27 : sc_lk tb_Sc_find 27 = some (.iastore, 1, .inr (.inr 0), false) := rfl
theorem lk_Sc_find_28 : sc_lk tb_Sc_find 28 = some (.bipush (-3), 2, .inr (.inr 0), false) := rfl
theorem lk_Sc_find_30 : sc_lk tb_Sc_find 30 = some (.ireturn, 1, .inr (.inr 0), false) := rfl
def tb_Sc_sight : sc_T := [(0, .aload_n 0, 1, .inl (0, 0), false), (1, .iload_n 1, 1, .inl (1, 0), false), (2, .iload_n 2, 1, .inl (2, 0), false), (3, .invokevirtual 97, 3, .inr (.inl (4, 2, mq_Sc_refuseSight)), false), (6, .istore_n 3, 1, .inl (3, 0), false), (7, .iload_n 3, 1, .inl (3, 0), false), (8, .ifCond .eq 5, 3, .inl (13, 0), false), (11, .iload_n 3, 1, .inl (3, 0), false), (12, .ireturn, 1, .inr (.inr 0), false), (13, .aload_n 0, 1, .inl (0, 0), false), (14, .getfield 20, 3, .inl (4, 1), false), (17, .getfield 67, 3, .inl (0, 0), false), (20, .iload_n 1, 1, .inl (1, 0), false), (21, .aaload, 1, .inr (.inr 0), false), (22, .astore 4, 2, .inl (4, 0), false), (24, .aload 4, 2, .inl (4, 0), false), (26, .dup, 1, .inr (.inr 0), false), (27, .getfield 100, 3, .inl (2, 4), false), (30, .iconst 1, 1, .inr (.inr 0), false), (31, .iload_n 2, 1, .inl (2, 0), false), (32, .ishl, 1, .inr (.inr 0), false), (33, .ior, 1, .inr (.inr 0), false), (34, .putfield 100, 3, .inl (2, 4), false), (37, .aload 4, 2, .inl (4, 0), false), (39, .getfield 100, 3, .inl (2, 4), false), (42, .invokestatic 103, 3, .inr (.inl (100, 1, mq_In_bitCount)), false), (45, .ireturn, 1, .inr (.inr 0), false)]
theorem tk_Sc_sight : sc_ok mq_Sc_sight tb_Sc_sight = true := by decide +kernel
theorem lk_Sc_sight_0 : sc_lk tb_Sc_sight 0 = some (.aload_n 0, 1, .inl (0, 0), false) := rfl
theorem lk_Sc_sight_1 : sc_lk tb_Sc_sight 1 = some (.iload_n 1, 1, .inl (1, 0), false) := rfl
theorem lk_Sc_sight_2 : sc_lk tb_Sc_sight 2 = some (.iload_n 2, 1, .inl (2, 0), false) := rfl
theorem lk_Sc_sight_3 : sc_lk tb_Sc_sight 3 = some (.invokevirtual 97, 3, .inr (.inl (4, 2, mq_Sc_refuseSight)), false) := rfl
theorem lk_Sc_sight_6 : sc_lk tb_Sc_sight 6 = some (.istore_n 3, 1, .inl (3, 0), false) := rfl
theorem lk_Sc_sight_7 : sc_lk tb_Sc_sight 7 = some (.iload_n 3, 1, .inl (3, 0), false) := rfl
theorem lk_Sc_sight_8 : sc_lk tb_Sc_sight 8 = some (.ifCond .eq 5, 3, .inl (13, 0), false) := rfl
theorem lk_Sc_sight_11 : sc_lk tb_Sc_sight 11 = some (.iload_n 3, 1, .inl (3, 0), false) := rfl
theorem lk_Sc_sight_12 : sc_lk tb_Sc_sight 12 = some (.ireturn, 1, .inr (.inr 0), false) := rfl
theorem lk_Sc_sight_13 : sc_lk tb_Sc_sight 13 = some (.aload_n 0, 1, .inl (0, 0), false) := rfl
theorem lk_Sc_sight_14 : sc_lk tb_Sc_sight 14 = some (.getfield 20, 3, .inl (4, 1), false) := rfl
theorem lk_Sc_sight_17 : sc_lk tb_Sc_sight 17 = some (.getfield 67, 3, .inl (0, 0), false) := rfl
theorem lk_Sc_sight_20 : sc_lk tb_Sc_sight 20 = some (.iload_n 1, 1, .inl (1, 0), false) := rfl
theorem lk_Sc_sight_21 : sc_lk tb_Sc_sight 21 = some (.aaload, 1, .inr (.inr 0), false) := rfl
theorem lk_Sc_sight_22 : sc_lk tb_Sc_sight 22 = some (.astore 4, 2, .inl (4, 0), false) := rfl
theorem lk_Sc_sight_24 : sc_lk tb_Sc_sight 24 = some (.aload 4, 2, .inl (4, 0), false) := rfl
theorem lk_Sc_sight_26 : sc_lk tb_Sc_sight 26 = some (.dup, 1, .inr (.inr 0), false) := rfl
theorem lk_Sc_sight_27 : sc_lk tb_Sc_sight 27 = some (.getfield 100, 3, .inl (2, 4), false) := rfl
theorem lk_Sc_sight_30 : sc_lk tb_Sc_sight 30 = some (.iconst 1, 1, .inr (.inr 0), false) := rfl
theorem lk_Sc_sight_31 : sc_lk tb_Sc_sight 31 = some (.iload_n 2, 1, .inl (2, 0), false) := rfl
theorem lk_Sc_sight_32 : sc_lk tb_Sc_sight 32 = some (.ishl, 1, .inr (.inr 0), false) := rfl
theorem lk_Sc_sight_33 : sc_lk tb_Sc_sight 33 = some (.ior, 1, .inr (.inr 0), false) := rfl
theorem lk_Sc_sight_34 : sc_lk tb_Sc_sight 34 = some (.putfield 100, 3, .inl (2, 4), false) := rfl
theorem lk_Sc_sight_37 : sc_lk tb_Sc_sight 37 = some (.aload 4, 2, .inl (4, 0), false) := rfl
theorem lk_Sc_sight_39 : sc_lk tb_Sc_sight 39 = some (.getfield 100, 3, .inl (2, 4), false) := rfl
theorem lk_Sc_sight_42 : sc_lk tb_Sc_sight 42 = some (.invokestatic 103, 3, .inr (.inl (100, 1, mq_In_bitCount)), false) := rfl
theorem lk_Sc_sight_45 : sc_lk tb_Sc_sight 45 = some (.ireturn, 1, .inr (.inr 0), false) := rfl
def tb_Sc_refuseSight : sc_T := [(0, .aload_n 0, 1, .inl (0, 0), false), (1, .getfield 20, 3, .inl (4, 1), false), (4, .iload_n 1, 1, .inl (1, 0), false), (5, .invokevirtual 63, 3, .inr (.inl (0, 1, mq_Ch_has)), false), (8, .ifCond .eq 19, 3, .inl (27, 0), false), (11, .aload_n 0, 1, .inl (0, 0), false), (12, .getfield 20, 3, .inl (4, 1), false), (15, .iload_n 2, 1, .inl (2, 0), false), (16, .invokevirtual 63, 3, .inr (.inl (0, 1, mq_Ch_has)), false), (19, .ifCond .eq 8, 3, .inl (27, 0), false), (22, .iload_n 2, 1, .inl (2, 0), false), (23, .iload_n 1, 1, .inl (1, 0), false), (24, .if_icmp .lt 5, 3, .inl (29, 0), false), (27, .iconst (-1), 1, .inr (.inr 0), false), (28, .ireturn, 1, .inr (.inr 0), false), (29, .aload_n 0, 1, .inl (0, 0), false), (30, .getfield 20, 3, .inl (4, 1), false), (33, .getfield 67, 3, .inl (0, 0), false), (36, .iload_n 1, 1, .inl (1, 0), false), (37, .aaload, 1, .inr (.inr 0), false), (38, .astore_n 3, 1, .inl (3, 0), false), (39, .aload_n 3, 1, .inl (3, 0), false), (40, .getfield 71, 3, .inl (2, 0), false), (43, .iconst 2, 1, .inr (.inr 0), false), (44, .if_icmp .ne 19, 3, .inl (63, 0), false), (47, .aload_n 0, 1, .inl (0, 0), false), (48, .getfield 20, 3, .inl (4, 1), false), (51, .getfield 67, 3, .inl (0, 0), false), (54, .iload_n 2, 1, .inl (2, 0), false), (55, .aaload, 1, .inr (.inr 0), false), (56, .getfield 71, 3, .inl (2, 0), false), (59, .iconst 1, 1, .inr (.inr 0), false), (60, .if_icmp .eq 9, 3, .inl (69, 0), false), (63, .aload_n 0, 1, .inl (0, 0), false), (64, .iconst 3, 1, .inr (.inr 0), false), (65, .invokevirtual 79, 3, .inr (.inl (4, 1, mq_Sc_find)), false), (68, .ireturn, 1, .inr (.inr 0), false), (69, .aload_n 3, 1, .inl (3, 0), false), (70, .iload_n 2, 1, .inl (2, 0), false), (71, .invokevirtual 250, 3, .inr (.inl (2, 1, mq_No_sees)), false), (74, .ifCond .eq 8, 3, .inl (82, 0), false), (77, .bipush (-4), 2, .inr (.inr 0), false), (79, .goto 4, 3, .inl (83, 0), false), (82, .iconst 0, 1, .inr (.inr 0), false), (83, .ireturn, 1, .inr (.inr 0), false)]
theorem tk_Sc_refuseSight : sc_ok mq_Sc_refuseSight tb_Sc_refuseSight = true := by decide +kernel
theorem lk_Sc_refuseSight_0 : sc_lk tb_Sc_refuseSight 0 = some (.aload_n 0, 1, .inl (0, 0), false) := rfl
theorem lk_Sc_refuseSight_1 : sc_lk tb_Sc_refuseSight 1 = some (.getfield 20, 3, .inl (4, 1), false) := rfl
theorem lk_Sc_refuseSight_4 : sc_lk tb_Sc_refuseSight 4 = some (.iload_n 1, 1, .inl (1, 0), false) := rfl
theorem lk_Sc_refuseSight_5 : sc_lk tb_Sc_refuseSight 5 = some (.invokevirtual 63, 3, .inr (.inl (0, 1, mq_Ch_has)), false) := rfl
theorem lk_Sc_refuseSight_8 : sc_lk tb_Sc_refuseSight 8 = some (.ifCond .eq 19, 3, .inl (27, 0), false) := rfl
theorem lk_Sc_refuseSight_11 : sc_lk tb_Sc_refuseSight 11 = some (.aload_n 0, 1, .inl (0, 0), false) := rfl
theorem lk_Sc_refuseSight_12 : sc_lk tb_Sc_refuseSight 12 = some (.getfield 20, 3, .inl (4, 1), false) := rfl
theorem lk_Sc_refuseSight_15 : sc_lk tb_Sc_refuseSight 15 = some (.iload_n 2, 1, .inl (2, 0), false) := rfl
theorem lk_Sc_refuseSight_16 : sc_lk tb_Sc_refuseSight 16 = some (.invokevirtual 63, 3, .inr (.inl (0, 1, mq_Ch_has)), false) := rfl
theorem lk_Sc_refuseSight_19 : sc_lk tb_Sc_refuseSight 19 = some (.ifCond .eq 8, 3, .inl (27, 0), false) := rfl
theorem lk_Sc_refuseSight_22 : sc_lk tb_Sc_refuseSight 22 = some (.iload_n 2, 1, .inl (2, 0), false) := rfl
theorem lk_Sc_refuseSight_23 : sc_lk tb_Sc_refuseSight 23 = some (.iload_n 1, 1, .inl (1, 0), false) := rfl
theorem lk_Sc_refuseSight_24 : sc_lk tb_Sc_refuseSight 24 = some (.if_icmp .lt 5, 3, .inl (29, 0), false) := rfl
theorem lk_Sc_refuseSight_27 : sc_lk tb_Sc_refuseSight 27 = some (.iconst (-1), 1, .inr (.inr 0), false) := rfl
theorem lk_Sc_refuseSight_28 : sc_lk tb_Sc_refuseSight 28 = some (.ireturn, 1, .inr (.inr 0), false) := rfl
theorem lk_Sc_refuseSight_29 : sc_lk tb_Sc_refuseSight 29 = some (.aload_n 0, 1, .inl (0, 0), false) := rfl
theorem lk_Sc_refuseSight_30 : sc_lk tb_Sc_refuseSight 30 = some (.getfield 20, 3, .inl (4, 1), false) := rfl
theorem lk_Sc_refuseSight_33 : sc_lk tb_Sc_refuseSight 33 = some (.getfield 67, 3, .inl (0, 0), false) := rfl
theorem lk_Sc_refuseSight_36 : sc_lk tb_Sc_refuseSight 36 = some (.iload_n 1, 1, .inl (1, 0), false) := rfl
theorem lk_Sc_refuseSight_37 : sc_lk tb_Sc_refuseSight 37 = some (.aaload, 1, .inr (.inr 0), false) := rfl
theorem lk_Sc_refuseSight_38 : sc_lk tb_Sc_refuseSight 38 = some (.astore_n 3, 1, .inl (3, 0), false) := rfl
theorem lk_Sc_refuseSight_39 : sc_lk tb_Sc_refuseSight 39 = some (.aload_n 3, 1, .inl (3, 0), false) := rfl
theorem lk_Sc_refuseSight_40 : sc_lk tb_Sc_refuseSight 40 = some (.getfield 71, 3, .inl (2, 0), false) := rfl
theorem lk_Sc_refuseSight_43 : sc_lk tb_Sc_refuseSight 43 = some (.iconst 2, 1, .inr (.inr 0), false) := rfl
theorem lk_Sc_refuseSight_44 : sc_lk tb_Sc_refuseSight 44 = some (.if_icmp .ne 19, 3, .inl (63, 0), false) := rfl
theorem lk_Sc_refuseSight_47 : sc_lk tb_Sc_refuseSight 47 = some (.aload_n 0, 1, .inl (0, 0), false) := rfl
theorem lk_Sc_refuseSight_48 : sc_lk tb_Sc_refuseSight 48 = some (.getfield 20, 3, .inl (4, 1), false) := rfl
theorem lk_Sc_refuseSight_51 : sc_lk tb_Sc_refuseSight 51 = some (.getfield 67, 3, .inl (0, 0), false) := rfl
theorem lk_Sc_refuseSight_54 : sc_lk tb_Sc_refuseSight 54 = some (.iload_n 2, 1, .inl (2, 0), false) := rfl
theorem lk_Sc_refuseSight_55 : sc_lk tb_Sc_refuseSight 55 = some (.aaload, 1, .inr (.inr 0), false) := rfl
theorem lk_Sc_refuseSight_56 : sc_lk tb_Sc_refuseSight 56 = some (.getfield 71, 3, .inl (2, 0), false) := rfl
theorem lk_Sc_refuseSight_59 : sc_lk tb_Sc_refuseSight 59 = some (.iconst 1, 1, .inr (.inr 0), false) := rfl
theorem lk_Sc_refuseSight_60 : sc_lk tb_Sc_refuseSight 60 = some (.if_icmp .eq 9, 3, .inl (69, 0), false) := rfl
theorem lk_Sc_refuseSight_63 : sc_lk tb_Sc_refuseSight 63 = some (.aload_n 0, 1, .inl (0, 0), false) := rfl
theorem lk_Sc_refuseSight_64 : sc_lk tb_Sc_refuseSight 64 = some (.iconst 3, 1, .inr (.inr 0), false) := rfl
theorem lk_Sc_refuseSight_65 : sc_lk tb_Sc_refuseSight 65 = some (.invokevirtual 79, 3, .inr (.inl (4, 1, mq_Sc_find)), false) := rfl
theorem lk_Sc_refuseSight_68 : sc_lk tb_Sc_refuseSight 68 = some (.ireturn, 1, .inr (.inr 0), false) := rfl
theorem lk_Sc_refuseSight_69 : sc_lk tb_Sc_refuseSight 69 = some (.aload_n 3, 1, .inl (3, 0), false) := rfl
theorem lk_Sc_refuseSight_70 : sc_lk tb_Sc_refuseSight 70 = some (.iload_n 2, 1, .inl (2, 0), false) := rfl
theorem lk_Sc_refuseSight_71 : sc_lk tb_Sc_refuseSight 71 = some (.invokevirtual 250, 3, .inr (.inl (2, 1, mq_No_sees)), false) := rfl
theorem lk_Sc_refuseSight_74 : sc_lk tb_Sc_refuseSight 74 = some (.ifCond .eq 8, 3, .inl (82, 0), false) := rfl
theorem lk_Sc_refuseSight_77 : sc_lk tb_Sc_refuseSight 77 = some (.bipush (-4), 2, .inr (.inr 0), false) := rfl
theorem lk_Sc_refuseSight_79 : sc_lk tb_Sc_refuseSight 79 = some (.goto 4, 3, .inl (83, 0), false) := rfl
theorem lk_Sc_refuseSight_82 : sc_lk tb_Sc_refuseSight 82 = some (.iconst 0, 1, .inr (.inr 0), false) := rfl
theorem lk_Sc_refuseSight_83 : sc_lk tb_Sc_refuseSight 83 = some (.ireturn, 1, .inr (.inr 0), false) := rfl
def tb_Sc_blind : sc_T := [(0, .aload_n 0, 1, .inl (0, 0), false), (1, .iload_n 1, 1, .inl (1, 0), false), (2, .iload_n 2, 1, .inl (2, 0), false), (3, .invokevirtual 108, 3, .inr (.inl (4, 2, mq_Sc_refuseBlind)), false), (6, .istore_n 3, 1, .inl (3, 0), false), (7, .iload_n 3, 1, .inl (3, 0), false), (8, .ifCond .eq 5, 3, .inl (13, 0), false), (11, .iload_n 3, 1, .inl (3, 0), false), (12, .ireturn, 1, .inr (.inr 0), false), (13, .aload_n 0, 1, .inl (0, 0), false), (14, .getfield 20, 3, .inl (4, 1), false), (17, .getfield 67, 3, .inl (0, 0), false), (20, .iload_n 1, 1, .inl (1, 0), false), (21, .aaload, 1, .inr (.inr 0), false), (22, .astore 4, 2, .inl (4, 0), false), (24, .aload 4, 2, .inl (4, 0), false), (26, .dup, 1, .inr (.inr 0), false), (27, .getfield 100, 3, .inl (2, 4), false), (30, .iconst 1, 1, .inr (.inr 0), false), (31, .iload_n 2, 1, .inl (2, 0), false), (32, .ishl, 1, .inr (.inr 0), false), (33, .iconst (-1), 1, .inr (.inr 0), false), (34, .ixor, 1, .inr (.inr 0), false), (35, .iand, 1, .inr (.inr 0), false), (36, .putfield 100, 3, .inl (2, 4), false), (39, .aload 4, 2, .inl (4, 0), false), (41, .getfield 100, 3, .inl (2, 4), false), (44, .invokestatic 103, 3, .inr (.inl (100, 1, mq_In_bitCount)), false), (47, .ireturn, 1, .inr (.inr 0), false)]
theorem tk_Sc_blind : sc_ok mq_Sc_blind tb_Sc_blind = true := by decide +kernel
theorem lk_Sc_blind_0 : sc_lk tb_Sc_blind 0 = some (.aload_n 0, 1, .inl (0, 0), false) := rfl
theorem lk_Sc_blind_1 : sc_lk tb_Sc_blind 1 = some (.iload_n 1, 1, .inl (1, 0), false) := rfl
theorem lk_Sc_blind_2 : sc_lk tb_Sc_blind 2 = some (.iload_n 2, 1, .inl (2, 0), false) := rfl
theorem lk_Sc_blind_3 : sc_lk tb_Sc_blind 3 = some (.invokevirtual 108, 3, .inr (.inl (4, 2, mq_Sc_refuseBlind)), false) := rfl
theorem lk_Sc_blind_6 : sc_lk tb_Sc_blind 6 = some (.istore_n 3, 1, .inl (3, 0), false) := rfl
theorem lk_Sc_blind_7 : sc_lk tb_Sc_blind 7 = some (.iload_n 3, 1, .inl (3, 0), false) := rfl
theorem lk_Sc_blind_8 : sc_lk tb_Sc_blind 8 = some (.ifCond .eq 5, 3, .inl (13, 0), false) := rfl
theorem lk_Sc_blind_11 : sc_lk tb_Sc_blind 11 = some (.iload_n 3, 1, .inl (3, 0), false) := rfl
theorem lk_Sc_blind_12 : sc_lk tb_Sc_blind 12 = some (.ireturn, 1, .inr (.inr 0), false) := rfl
theorem lk_Sc_blind_13 : sc_lk tb_Sc_blind 13 = some (.aload_n 0, 1, .inl (0, 0), false) := rfl
theorem lk_Sc_blind_14 : sc_lk tb_Sc_blind 14 = some (.getfield 20, 3, .inl (4, 1), false) := rfl
theorem lk_Sc_blind_17 : sc_lk tb_Sc_blind 17 = some (.getfield 67, 3, .inl (0, 0), false) := rfl
theorem lk_Sc_blind_20 : sc_lk tb_Sc_blind 20 = some (.iload_n 1, 1, .inl (1, 0), false) := rfl
theorem lk_Sc_blind_21 : sc_lk tb_Sc_blind 21 = some (.aaload, 1, .inr (.inr 0), false) := rfl
theorem lk_Sc_blind_22 : sc_lk tb_Sc_blind 22 = some (.astore 4, 2, .inl (4, 0), false) := rfl
theorem lk_Sc_blind_24 : sc_lk tb_Sc_blind 24 = some (.aload 4, 2, .inl (4, 0), false) := rfl
theorem lk_Sc_blind_26 : sc_lk tb_Sc_blind 26 = some (.dup, 1, .inr (.inr 0), false) := rfl
theorem lk_Sc_blind_27 : sc_lk tb_Sc_blind 27 = some (.getfield 100, 3, .inl (2, 4), false) := rfl
theorem lk_Sc_blind_30 : sc_lk tb_Sc_blind 30 = some (.iconst 1, 1, .inr (.inr 0), false) := rfl
theorem lk_Sc_blind_31 : sc_lk tb_Sc_blind 31 = some (.iload_n 2, 1, .inl (2, 0), false) := rfl
theorem lk_Sc_blind_32 : sc_lk tb_Sc_blind 32 = some (.ishl, 1, .inr (.inr 0), false) := rfl
theorem lk_Sc_blind_33 : sc_lk tb_Sc_blind 33 = some (.iconst (-1), 1, .inr (.inr 0), false) := rfl
theorem lk_Sc_blind_34 : sc_lk tb_Sc_blind 34 = some (.ixor, 1, .inr (.inr 0), false) := rfl
theorem lk_Sc_blind_35 : sc_lk tb_Sc_blind 35 = some (.iand, 1, .inr (.inr 0), false) := rfl
theorem lk_Sc_blind_36 : sc_lk tb_Sc_blind 36 = some (.putfield 100, 3, .inl (2, 4), false) := rfl
theorem lk_Sc_blind_39 : sc_lk tb_Sc_blind 39 = some (.aload 4, 2, .inl (4, 0), false) := rfl
theorem lk_Sc_blind_41 : sc_lk tb_Sc_blind 41 = some (.getfield 100, 3, .inl (2, 4), false) := rfl
theorem lk_Sc_blind_44 : sc_lk tb_Sc_blind 44 = some (.invokestatic 103, 3, .inr (.inl (100, 1, mq_In_bitCount)), false) := rfl
theorem lk_Sc_blind_47 : sc_lk tb_Sc_blind 47 = some (.ireturn, 1, .inr (.inr 0), false) := rfl
def tb_Sc_refuseBlind : sc_T := [(0, .aload_n 0, 1, .inl (0, 0), false), (1, .getfield 20, 3, .inl (4, 1), false), (4, .iload_n 1, 1, .inl (1, 0), false), (5, .invokevirtual 63, 3, .inr (.inl (0, 1, mq_Ch_has)), false), (8, .ifCond .eq 14, 3, .inl (22, 0), false), (11, .aload_n 0, 1, .inl (0, 0), false), (12, .getfield 20, 3, .inl (4, 1), false), (15, .iload_n 2, 1, .inl (2, 0), false), (16, .invokevirtual 63, 3, .inr (.inl (0, 1, mq_Ch_has)), false), (19, .ifCond .ne 5, 3, .inl (24, 0), false), (22, .iconst (-1), 1, .inr (.inr 0), false), (23, .ireturn, 1, .inr (.inr 0), false), (24, .aload_n 0, 1, .inl (0, 0), false), (25, .getfield 20, 3, .inl (4, 1), false), (28, .getfield 67, 3, .inl (0, 0), false), (31, .iload_n 1, 1, .inl (1, 0), false), (32, .aaload, 1, .inr (.inr 0), false), (33, .astore_n 3, 1, .inl (3, 0), false), (34, .aload_n 3, 1, .inl (3, 0), false), (35, .getfield 71, 3, .inl (2, 0), false), (38, .iconst 2, 1, .inr (.inr 0), false), (39, .if_icmp .eq 9, 3, .inl (48, 0), false), (42, .aload_n 0, 1, .inl (0, 0), false), (43, .iconst 3, 1, .inr (.inr 0), false), (44, .invokevirtual 79, 3, .inr (.inl (4, 1, mq_Sc_find)), false), (47, .ireturn, 1, .inr (.inr 0), false), (48, .aload_n 3, 1, .inl (3, 0), false), (49, .iload_n 2, 1, .inl (2, 0), false), (50, .invokevirtual 250, 3, .inr (.inl (2, 1, mq_No_sees)), false), (53, .ifCond .eq 7, 3, .inl (60, 0), false), (56, .iconst 0, 1, .inr (.inr 0), false), (57, .goto 5, 3, .inl (62, 0), false), (60, .bipush (-4), 2, .inr (.inr 0), false), (62, .ireturn, 1, .inr (.inr 0), false)]
theorem tk_Sc_refuseBlind : sc_ok mq_Sc_refuseBlind tb_Sc_refuseBlind = true := by decide +kernel
theorem lk_Sc_refuseBlind_0 : sc_lk tb_Sc_refuseBlind 0 = some (.aload_n 0, 1, .inl (0, 0), false) := rfl
theorem lk_Sc_refuseBlind_1 : sc_lk tb_Sc_refuseBlind 1 = some (.getfield 20, 3, .inl (4, 1), false) := rfl
theorem lk_Sc_refuseBlind_4 : sc_lk tb_Sc_refuseBlind 4 = some (.iload_n 1, 1, .inl (1, 0), false) := rfl
theorem lk_Sc_refuseBlind_5 : sc_lk tb_Sc_refuseBlind 5 = some (.invokevirtual 63, 3, .inr (.inl (0, 1, mq_Ch_has)), false) := rfl
theorem lk_Sc_refuseBlind_8 : sc_lk tb_Sc_refuseBlind 8 = some (.ifCond .eq 14, 3, .inl (22, 0), false) := rfl
theorem lk_Sc_refuseBlind_11 : sc_lk tb_Sc_refuseBlind 11 = some (.aload_n 0, 1, .inl (0, 0), false) := rfl
theorem lk_Sc_refuseBlind_12 : sc_lk tb_Sc_refuseBlind 12 = some (.getfield 20, 3, .inl (4, 1), false) := rfl
theorem lk_Sc_refuseBlind_15 : sc_lk tb_Sc_refuseBlind 15 = some (.iload_n 2, 1, .inl (2, 0), false) := rfl
theorem lk_Sc_refuseBlind_16 : sc_lk tb_Sc_refuseBlind 16 = some (.invokevirtual 63, 3, .inr (.inl (0, 1, mq_Ch_has)), false) := rfl
theorem lk_Sc_refuseBlind_19 : sc_lk tb_Sc_refuseBlind 19 = some (.ifCond .ne 5, 3, .inl (24, 0), false) := rfl
theorem lk_Sc_refuseBlind_22 : sc_lk tb_Sc_refuseBlind 22 = some (.iconst (-1), 1, .inr (.inr 0), false) := rfl
theorem lk_Sc_refuseBlind_23 : sc_lk tb_Sc_refuseBlind 23 = some (.ireturn, 1, .inr (.inr 0), false) := rfl
theorem lk_Sc_refuseBlind_24 : sc_lk tb_Sc_refuseBlind 24 = some (.aload_n 0, 1, .inl (0, 0), false) := rfl
theorem lk_Sc_refuseBlind_25 : sc_lk tb_Sc_refuseBlind 25 = some (.getfield 20, 3, .inl (4, 1), false) := rfl
theorem lk_Sc_refuseBlind_28 : sc_lk tb_Sc_refuseBlind 28 = some (.getfield 67, 3, .inl (0, 0), false) := rfl
theorem lk_Sc_refuseBlind_31 : sc_lk tb_Sc_refuseBlind 31 = some (.iload_n 1, 1, .inl (1, 0), false) := rfl
theorem lk_Sc_refuseBlind_32 : sc_lk tb_Sc_refuseBlind 32 = some (.aaload, 1, .inr (.inr 0), false) := rfl
theorem lk_Sc_refuseBlind_33 : sc_lk tb_Sc_refuseBlind 33 = some (.astore_n 3, 1, .inl (3, 0), false) := rfl
theorem lk_Sc_refuseBlind_34 : sc_lk tb_Sc_refuseBlind 34 = some (.aload_n 3, 1, .inl (3, 0), false) := rfl
theorem lk_Sc_refuseBlind_35 : sc_lk tb_Sc_refuseBlind 35 = some (.getfield 71, 3, .inl (2, 0), false) := rfl
theorem lk_Sc_refuseBlind_38 : sc_lk tb_Sc_refuseBlind 38 = some (.iconst 2, 1, .inr (.inr 0), false) := rfl
theorem lk_Sc_refuseBlind_39 : sc_lk tb_Sc_refuseBlind 39 = some (.if_icmp .eq 9, 3, .inl (48, 0), false) := rfl
theorem lk_Sc_refuseBlind_42 : sc_lk tb_Sc_refuseBlind 42 = some (.aload_n 0, 1, .inl (0, 0), false) := rfl
theorem lk_Sc_refuseBlind_43 : sc_lk tb_Sc_refuseBlind 43 = some (.iconst 3, 1, .inr (.inr 0), false) := rfl
theorem lk_Sc_refuseBlind_44 : sc_lk tb_Sc_refuseBlind 44 = some (.invokevirtual 79, 3, .inr (.inl (4, 1, mq_Sc_find)), false) := rfl
theorem lk_Sc_refuseBlind_47 : sc_lk tb_Sc_refuseBlind 47 = some (.ireturn, 1, .inr (.inr 0), false) := rfl
theorem lk_Sc_refuseBlind_48 : sc_lk tb_Sc_refuseBlind 48 = some (.aload_n 3, 1, .inl (3, 0), false) := rfl
theorem lk_Sc_refuseBlind_49 : sc_lk tb_Sc_refuseBlind 49 = some (.iload_n 2, 1, .inl (2, 0), false) := rfl
theorem lk_Sc_refuseBlind_50 : sc_lk tb_Sc_refuseBlind 50 = some (.invokevirtual 250, 3, .inr (.inl (2, 1, mq_No_sees)), false) := rfl
theorem lk_Sc_refuseBlind_53 : sc_lk tb_Sc_refuseBlind 53 = some (.ifCond .eq 7, 3, .inl (60, 0), false) := rfl
theorem lk_Sc_refuseBlind_56 : sc_lk tb_Sc_refuseBlind 56 = some (.iconst 0, 1, .inr (.inr 0), false) := rfl
theorem lk_Sc_refuseBlind_57 : sc_lk tb_Sc_refuseBlind 57 = some (.goto 5, 3, .inl (62, 0), false) := rfl
theorem lk_Sc_refuseBlind_60 : sc_lk tb_Sc_refuseBlind 60 = some (.bipush (-4), 2, .inr (.inr 0), false) := rfl
theorem lk_Sc_refuseBlind_62 : sc_lk tb_Sc_refuseBlind 62 = some (.ireturn, 1, .inr (.inr 0), false) := rfl
def tb_Sc_weigh : sc_T := [(0, .aload_n 0, 1, .inl (0, 0), false), (1, .getfield 20, 3, .inl (4, 1), false), (4, .iload_n 1, 1, .inl (1, 0), false), (5, .invokevirtual 63, 3, .inr (.inl (0, 1, mq_Ch_has)), false), (8, .ifCond .ne 5, 3, .inl (13, 0), false), (11, .iconst (-1), 1, .inr (.inr 0), false), (12, .ireturn, 1, .inr (.inr 0), false), (13, .aload_n 0, 1, .inl (0, 0), false), (14, .getfield 20, 3, .inl (4, 1), false), (17, .getfield 67, 3, .inl (0, 0), false), (20, .iload_n 1, 1, .inl (1, 0), false), (21, .aaload, 1, .inr (.inr 0), false), (22, .astore 5, 2, .inl (5, 0), false), (24, .iload_n 3, 1, .inl (3, 0), false), (25, .iload 4, 2, .inl (4, 0), false), (27, .invokestatic 111, 3, .inr (.inl (100, 2, mq_Sc_areWeights)), false), (30, .ifCond .eq 18, 3, .inl (48, 0), false), (33, .aload 5, 2, .inl (5, 0), false), (35, .bipush 12, 2, .inr (.inr 0), false), (37, .iload_n 3, 1, .inl (3, 0), false), (38, .isub, 1, .inr (.inr 0), false), (39, .iload 4, 2, .inl (4, 0), false), (41, .isub, 1, .inr (.inr 0), false), (42, .invokevirtual 115, 3, .inr (.inl (2, 1, mq_No_mayLeave)), false), (45, .ifCond .ne 5, 3, .inl (50, 0), false), (48, .iconst (-1), 1, .inr (.inr 0), false), (49, .ireturn, 1, .inr (.inr 0), false), (50, .aload 5, 2, .inl (5, 0), false), (52, .getfield 71, 3, .inl (2, 0), false), (55, .iconst 1, 1, .inr (.inr 0), false), (56, .if_icmp .eq 9, 3, .inl (65, 0), false), (59, .aload_n 0, 1, .inl (0, 0), false), (60, .iconst 3, 1, .inr (.inr 0), false), (61, .invokevirtual 79, 3, .inr (.inl (4, 1, mq_Sc_find)), false), (64, .ireturn, 1, .inr (.inr 0), false), (65, .aload 5, 2, .inl (5, 0), false), (67, .iload_n 2, 1, .inl (2, 0), false), (68, .invokevirtual 118, 3, .inr (.inl (2, 1, mq_No_hasPlace)), false), (71, .ifCond .ne 9, 3, .inl (80, 0), false), (74, .aload_n 0, 1, .inl (0, 0), false), (75, .iconst 2, 1, .inr (.inr 0), false), (76, .invokevirtual 79, 3, .inr (.inl (4, 1, mq_Sc_find)), false), (79, .ireturn, 1, .inr (.inr 0), false), (80, .iload_n 2, 1, .inl (2, 0), false), (81, .aload 5, 2, .inl (5, 0), false), (83, .getfield 90, 3, .inl (2, 1), false), (86, .imul, 1, .inr (.inr 0), false), (87, .istore 6, 2, .inl (6, 0), false), (89, .aload 5, 2, .inl (5, 0), false), (91, .iload 6, 2, .inl (6, 0), false), (93, .iload_n 3, 1, .inl (3, 0), false), (94, .invokevirtual 121, 3, .inr (.inl (2, 2, mq_No_put)), false), (97, .aload 5, 2, .inl (5, 0), false), (99, .iload 6, 2, .inl (6, 0), false), (101, .iconst 1, 1, .inr (.inr 0), false), (102, .iadd, 1, .inr (.inr 0), false), (103, .iload 4, 2, .inl (4, 0), false), (105, .invokevirtual 121, 3, .inr (.inl (2, 2, mq_No_put)), false), (108, .aload 5, 2, .inl (5, 0), false), (110, .getfield 90, 3, .inl (2, 1), false), (113, .iconst 3, 1, .inr (.inr 0), false), (114, .if_icmp .ne 19, 3, .inl (133, 0), false), (117, .aload 5, 2, .inl (5, 0), false), (119, .iload 6, 2, .inl (6, 0), false), (121, .iconst 2, 1, .inr (.inr 0), false), (122, .iadd, 1, .inr (.inr 0), false), (123, .bipush 12, 2, .inr (.inr 0), false), (125, .iload_n 3, 1, .inl (3, 0), false), (126, .isub, 1, .inr (.inr 0), false), (127, .iload 4, 2, .inl (4, 0), false), (129, .isub, 1, .inr (.inr 0), false), (130, .invokevirtual 121, 3, .inr (.inl (2, 2, mq_No_put)), false), (133, .iconst 1, 1, .inr (.inr 0), false), (134, .ireturn, 1, .inr (.inr 0), false)]
theorem tk_Sc_weigh : sc_ok mq_Sc_weigh tb_Sc_weigh = true := by decide +kernel
theorem lk_Sc_weigh_0 : sc_lk tb_Sc_weigh 0 = some (.aload_n 0, 1, .inl (0, 0), false) := rfl
theorem lk_Sc_weigh_1 : sc_lk tb_Sc_weigh 1 = some (.getfield 20, 3, .inl (4, 1), false) := rfl
theorem lk_Sc_weigh_4 : sc_lk tb_Sc_weigh 4 = some (.iload_n 1, 1, .inl (1, 0), false) := rfl
theorem lk_Sc_weigh_5 : sc_lk tb_Sc_weigh 5 = some (.invokevirtual 63, 3, .inr (.inl (0, 1, mq_Ch_has)), false) := rfl
theorem lk_Sc_weigh_8 : sc_lk tb_Sc_weigh 8 = some (.ifCond .ne 5, 3, .inl (13, 0), false) := rfl
theorem lk_Sc_weigh_11 : sc_lk tb_Sc_weigh 11 = some (.iconst (-1), 1, .inr (.inr 0), false) := rfl
theorem lk_Sc_weigh_12 : sc_lk tb_Sc_weigh 12 = some (.ireturn, 1, .inr (.inr 0), false) := rfl
theorem lk_Sc_weigh_13 : sc_lk tb_Sc_weigh 13 = some (.aload_n 0, 1, .inl (0, 0), false) := rfl
theorem lk_Sc_weigh_14 : sc_lk tb_Sc_weigh 14 = some (.getfield 20, 3, .inl (4, 1), false) := rfl
theorem lk_Sc_weigh_17 : sc_lk tb_Sc_weigh 17 = some (.getfield 67, 3, .inl (0, 0), false) := rfl
theorem lk_Sc_weigh_20 : sc_lk tb_Sc_weigh 20 = some (.iload_n 1, 1, .inl (1, 0), false) := rfl
theorem lk_Sc_weigh_21 : sc_lk tb_Sc_weigh 21 = some (.aaload, 1, .inr (.inr 0), false) := rfl
theorem lk_Sc_weigh_22 : sc_lk tb_Sc_weigh 22 = some (.astore 5, 2, .inl (5, 0), false) := rfl
theorem lk_Sc_weigh_24 : sc_lk tb_Sc_weigh 24 = some (.iload_n 3, 1, .inl (3, 0), false) := rfl
theorem lk_Sc_weigh_25 : sc_lk tb_Sc_weigh 25 = some (.iload 4, 2, .inl (4, 0), false) := rfl
theorem lk_Sc_weigh_27 : sc_lk tb_Sc_weigh 27 = some (.invokestatic 111, 3, .inr (.inl (100, 2, mq_Sc_areWeights)), false) := rfl
theorem lk_Sc_weigh_30 : sc_lk tb_Sc_weigh 30 = some (.ifCond .eq 18, 3, .inl (48, 0), false) := rfl
theorem lk_Sc_weigh_33 : sc_lk tb_Sc_weigh 33 = some (.aload 5, 2, .inl (5, 0), false) := rfl
theorem lk_Sc_weigh_35 : sc_lk tb_Sc_weigh 35 = some (.bipush 12, 2, .inr (.inr 0), false) := rfl
theorem lk_Sc_weigh_37 : sc_lk tb_Sc_weigh 37 = some (.iload_n 3, 1, .inl (3, 0), false) := rfl
theorem lk_Sc_weigh_38 : sc_lk tb_Sc_weigh 38 = some (.isub, 1, .inr (.inr 0), false) := rfl
theorem lk_Sc_weigh_39 : sc_lk tb_Sc_weigh 39 = some (.iload 4, 2, .inl (4, 0), false) := rfl
theorem lk_Sc_weigh_41 : sc_lk tb_Sc_weigh 41 = some (.isub, 1, .inr (.inr 0), false) := rfl
theorem lk_Sc_weigh_42 : sc_lk tb_Sc_weigh 42 = some (.invokevirtual 115, 3, .inr (.inl (2, 1, mq_No_mayLeave)), false) := rfl
theorem lk_Sc_weigh_45 : sc_lk tb_Sc_weigh 45 = some (.ifCond .ne 5, 3, .inl (50, 0), false) := rfl
theorem lk_Sc_weigh_48 : sc_lk tb_Sc_weigh 48 = some (.iconst (-1), 1, .inr (.inr 0), false) := rfl
theorem lk_Sc_weigh_49 : sc_lk tb_Sc_weigh 49 = some (.ireturn, 1, .inr (.inr 0), false) := rfl
theorem lk_Sc_weigh_50 : sc_lk tb_Sc_weigh 50 = some (.aload 5, 2, .inl (5, 0), false) := rfl
theorem lk_Sc_weigh_52 : sc_lk tb_Sc_weigh 52 = some (.getfield 71, 3, .inl (2, 0), false) := rfl
theorem lk_Sc_weigh_55 : sc_lk tb_Sc_weigh 55 = some (.iconst 1, 1, .inr (.inr 0), false) := rfl
theorem lk_Sc_weigh_56 : sc_lk tb_Sc_weigh 56 = some (.if_icmp .eq 9, 3, .inl (65, 0), false) := rfl
theorem lk_Sc_weigh_59 : sc_lk tb_Sc_weigh 59 = some (.aload_n 0, 1, .inl (0, 0), false) := rfl
theorem lk_Sc_weigh_60 : sc_lk tb_Sc_weigh 60 = some (.iconst 3, 1, .inr (.inr 0), false) := rfl
theorem lk_Sc_weigh_61 : sc_lk tb_Sc_weigh 61 = some (.invokevirtual 79, 3, .inr (.inl (4, 1, mq_Sc_find)), false) := rfl
theorem lk_Sc_weigh_64 : sc_lk tb_Sc_weigh 64 = some (.ireturn, 1, .inr (.inr 0), false) := rfl
theorem lk_Sc_weigh_65 : sc_lk tb_Sc_weigh 65 = some (.aload 5, 2, .inl (5, 0), false) := rfl
theorem lk_Sc_weigh_67 : sc_lk tb_Sc_weigh 67 = some (.iload_n 2, 1, .inl (2, 0), false) := rfl
theorem lk_Sc_weigh_68 : sc_lk tb_Sc_weigh 68 = some (.invokevirtual 118, 3, .inr (.inl (2, 1, mq_No_hasPlace)), false) := rfl
theorem lk_Sc_weigh_71 : sc_lk tb_Sc_weigh 71 = some (.ifCond .ne 9, 3, .inl (80, 0), false) := rfl
theorem lk_Sc_weigh_74 : sc_lk tb_Sc_weigh 74 = some (.aload_n 0, 1, .inl (0, 0), false) := rfl
theorem lk_Sc_weigh_75 : sc_lk tb_Sc_weigh 75 = some (.iconst 2, 1, .inr (.inr 0), false) := rfl
theorem lk_Sc_weigh_76 : sc_lk tb_Sc_weigh 76 = some (.invokevirtual 79, 3, .inr (.inl (4, 1, mq_Sc_find)), false) := rfl
theorem lk_Sc_weigh_79 : sc_lk tb_Sc_weigh 79 = some (.ireturn, 1, .inr (.inr 0), false) := rfl
theorem lk_Sc_weigh_80 : sc_lk tb_Sc_weigh 80 = some (.iload_n 2, 1, .inl (2, 0), false) := rfl
theorem lk_Sc_weigh_81 : sc_lk tb_Sc_weigh 81 = some (.aload 5, 2, .inl (5, 0), false) := rfl
theorem lk_Sc_weigh_83 : sc_lk tb_Sc_weigh 83 = some (.getfield 90, 3, .inl (2, 1), false) := rfl
theorem lk_Sc_weigh_86 : sc_lk tb_Sc_weigh 86 = some (.imul, 1, .inr (.inr 0), false) := rfl
theorem lk_Sc_weigh_87 : sc_lk tb_Sc_weigh 87 = some (.istore 6, 2, .inl (6, 0), false) := rfl
theorem lk_Sc_weigh_89 : sc_lk tb_Sc_weigh 89 = some (.aload 5, 2, .inl (5, 0), false) := rfl
theorem lk_Sc_weigh_91 : sc_lk tb_Sc_weigh 91 = some (.iload 6, 2, .inl (6, 0), false) := rfl
theorem lk_Sc_weigh_93 : sc_lk tb_Sc_weigh 93 = some (.iload_n 3, 1, .inl (3, 0), false) := rfl
theorem lk_Sc_weigh_94 : sc_lk tb_Sc_weigh 94 = some (.invokevirtual 121, 3, .inr (.inl (2, 2, mq_No_put)), false) := rfl
theorem lk_Sc_weigh_97 : sc_lk tb_Sc_weigh 97 = some (.aload 5, 2, .inl (5, 0), false) := rfl
theorem lk_Sc_weigh_99 : sc_lk tb_Sc_weigh 99 = some (.iload 6, 2, .inl (6, 0), false) := rfl
theorem lk_Sc_weigh_101 : sc_lk tb_Sc_weigh 101 = some (.iconst 1, 1, .inr (.inr 0), false) := rfl
theorem lk_Sc_weigh_102 : sc_lk tb_Sc_weigh 102 = some (.iadd, 1, .inr (.inr 0), false) := rfl
theorem lk_Sc_weigh_103 : sc_lk tb_Sc_weigh 103 = some (.iload 4, 2, .inl (4, 0), false) := rfl
theorem lk_Sc_weigh_105 : sc_lk tb_Sc_weigh 105 = some (.invokevirtual 121, 3, .inr (.inl (2, 2, mq_No_put)), false) := rfl
theorem lk_Sc_weigh_108 : sc_lk tb_Sc_weigh 108 = some (.aload 5, 2, .inl (5, 0), false) := rfl
theorem lk_Sc_weigh_110 : sc_lk tb_Sc_weigh 110 = some (.getfield 90, 3, .inl (2, 1), false) := rfl
theorem lk_Sc_weigh_113 : sc_lk tb_Sc_weigh 113 = some (.iconst 3, 1, .inr (.inr 0), false) := rfl
theorem lk_Sc_weigh_114 : sc_lk tb_Sc_weigh 114 = some (.if_icmp .ne 19, 3, .inl (133, 0), false) := rfl
theorem lk_Sc_weigh_117 : sc_lk tb_Sc_weigh 117 = some (.aload 5, 2, .inl (5, 0), false) := rfl
theorem lk_Sc_weigh_119 : sc_lk tb_Sc_weigh 119 = some (.iload 6, 2, .inl (6, 0), false) := rfl
theorem lk_Sc_weigh_121 : sc_lk tb_Sc_weigh 121 = some (.iconst 2, 1, .inr (.inr 0), false) := rfl
theorem lk_Sc_weigh_122 : sc_lk tb_Sc_weigh 122 = some (.iadd, 1, .inr (.inr 0), false) := rfl
theorem lk_Sc_weigh_123 : sc_lk tb_Sc_weigh 123 = some (.bipush 12, 2, .inr (.inr 0), false) := rfl
theorem lk_Sc_weigh_125 : sc_lk tb_Sc_weigh 125 = some (.iload_n 3, 1, .inl (3, 0), false) := rfl
theorem lk_Sc_weigh_126 : sc_lk tb_Sc_weigh 126 = some (.isub, 1, .inr (.inr 0), false) := rfl
theorem lk_Sc_weigh_127 : sc_lk tb_Sc_weigh 127 = some (.iload 4, 2, .inl (4, 0), false) := rfl
theorem lk_Sc_weigh_129 : sc_lk tb_Sc_weigh 129 = some (.isub, 1, .inr (.inr 0), false) := rfl
theorem lk_Sc_weigh_130 : sc_lk tb_Sc_weigh 130 = some (.invokevirtual 121, 3, .inr (.inl (2, 2, mq_No_put)), false) := rfl
theorem lk_Sc_weigh_133 : sc_lk tb_Sc_weigh 133 = some (.iconst 1, 1, .inr (.inr 0), false) := rfl
theorem lk_Sc_weigh_134 : sc_lk tb_Sc_weigh 134 = some (.ireturn, 1, .inr (.inr 0), false) := rfl
def tb_Sc_areWeights : sc_T := [(0, .iload_n 0, 1, .inl (0, 0), false), (1, .ifCond .lt 25, 3, .inl (26, 0), false), (4, .iload_n 0, 1, .inl (0, 0), false), (5, .bipush 12, 2, .inr (.inr 0), false), (7, .if_icmp .gt 19, 3, .inl (26, 0), false), (10, .iload_n 1, 1, .inl (1, 0), false), (11, .ifCond .lt 15, 3, .inl (26, 0), false), (14, .iload_n 1, 1, .inl (1, 0), false), (15, .bipush 12, 2, .inr (.inr 0), false), (17, .iload_n 0, 1, .inl (0, 0), false), (18, .isub, 1, .inr (.inr 0), false), (19, .if_icmp .gt 7, 3, .inl (26, 0), false), (22, .iconst 1, 1, .inr (.inr 0), false), (23, .goto 4, 3, .inl (27, 0), false), (26, .iconst 0, 1, .inr (.inr 0), false), (27, .ireturn, 1, .inr (.inr 0), false)]
theorem tk_Sc_areWeights : sc_ok mq_Sc_areWeights tb_Sc_areWeights = true := by decide +kernel
theorem lk_Sc_areWeights_0 : sc_lk tb_Sc_areWeights 0 = some (.iload_n 0, 1, .inl (0, 0), false) := rfl
theorem lk_Sc_areWeights_1 : sc_lk tb_Sc_areWeights 1 = some (.ifCond .lt 25, 3, .inl (26, 0), false) := rfl
theorem lk_Sc_areWeights_4 : sc_lk tb_Sc_areWeights 4 = some (.iload_n 0, 1, .inl (0, 0), false) := rfl
theorem lk_Sc_areWeights_5 : sc_lk tb_Sc_areWeights 5 = some (.bipush 12, 2, .inr (.inr 0), false) := rfl
theorem lk_Sc_areWeights_7 : sc_lk tb_Sc_areWeights 7 = some (.if_icmp .gt 19, 3, .inl (26, 0), false) := rfl
theorem lk_Sc_areWeights_10 : sc_lk tb_Sc_areWeights 10 = some (.iload_n 1, 1, .inl (1, 0), false) := rfl
theorem lk_Sc_areWeights_11 : sc_lk tb_Sc_areWeights 11 = some (.ifCond .lt 15, 3, .inl (26, 0), false) := rfl
theorem lk_Sc_areWeights_14 : sc_lk tb_Sc_areWeights 14 = some (.iload_n 1, 1, .inl (1, 0), false) := rfl
theorem lk_Sc_areWeights_15 : sc_lk tb_Sc_areWeights 15 = some (.bipush 12, 2, .inr (.inr 0), false) := rfl
theorem lk_Sc_areWeights_17 : sc_lk tb_Sc_areWeights 17 = some (.iload_n 0, 1, .inl (0, 0), false) := rfl
theorem lk_Sc_areWeights_18 : sc_lk tb_Sc_areWeights 18 = some (.isub, 1, .inr (.inr 0), false) := rfl
theorem lk_Sc_areWeights_19 : sc_lk tb_Sc_areWeights 19 = some (.if_icmp .gt 7, 3, .inl (26, 0), false) := rfl
theorem lk_Sc_areWeights_22 : sc_lk tb_Sc_areWeights 22 = some (.iconst 1, 1, .inr (.inr 0), false) := rfl
theorem lk_Sc_areWeights_23 : sc_lk tb_Sc_areWeights 23 = some (.goto 4, 3, .inl (27, 0), false) := rfl
theorem lk_Sc_areWeights_26 : sc_lk tb_Sc_areWeights 26 = some (.iconst 0, 1, .inr (.inr 0), false) := rfl
theorem lk_Sc_areWeights_27 : sc_lk tb_Sc_areWeights 27 = some (.ireturn, 1, .inr (.inr 0), false) := rfl
def tb_Sc_weight : sc_T := [(0, .aload_n 0, 1, .inl (0, 0), false), (1, .getfield 20, 3, .inl (4, 1), false), (4, .iload_n 1, 1, .inl (1, 0), false), (5, .invokevirtual 63, 3, .inr (.inl (0, 1, mq_Ch_has)), false), (8, .ifCond .ne 5, 3, .inl (13, 0), false), (11, .iconst (-1), 1, .inr (.inr 0), false), (12, .ireturn, 1, .inr (.inr 0), false), (13, .aload_n 0, 1, .inl (0, 0), false), (14, .getfield 20, 3, .inl (4, 1), false), (17, .getfield 67, 3, .inl (0, 0), false), (20, .iload_n 1, 1, .inl (1, 0), false), (21, .aaload, 1, .inr (.inr 0), false), (22, .astore 4, 2, .inl (4, 0), false), (24, .aload 4, 2, .inl (4, 0), false), (26, .getfield 71, 3, .inl (2, 0), false), (29, .iconst 1, 1, .inr (.inr 0), false), (30, .if_icmp .eq 9, 3, .inl (39, 0), false), (33, .aload_n 0, 1, .inl (0, 0), false), (34, .iconst 3, 1, .inr (.inr 0), false), (35, .invokevirtual 79, 3, .inr (.inl (4, 1, mq_Sc_find)), false), (38, .ireturn, 1, .inr (.inr 0), false), (39, .aload 4, 2, .inl (4, 0), false), (41, .iload_n 2, 1, .inl (2, 0), false), (42, .invokevirtual 118, 3, .inr (.inl (2, 1, mq_No_hasPlace)), false), (45, .ifCond .eq 12, 3, .inl (57, 0), false), (48, .aload 4, 2, .inl (4, 0), false), (50, .iload_n 3, 1, .inl (3, 0), false), (51, .invokevirtual 124, 3, .inr (.inl (2, 1, mq_No_hasState)), false), (54, .ifCond .ne 9, 3, .inl (63, 0), false), (57, .aload_n 0, 1, .inl (0, 0), false), (58, .iconst 2, 1, .inr (.inr 0), false), (59, .invokevirtual 79, 3, .inr (.inl (4, 1, mq_Sc_find)), false), (62, .ireturn, 1, .inr (.inr 0), false), (63, .aload 4, 2, .inl (4, 0), false), (65, .iload_n 2, 1, .inl (2, 0), false), (66, .aload 4, 2, .inl (4, 0), false), (68, .getfield 90, 3, .inl (2, 1), false), (71, .imul, 1, .inr (.inr 0), false), (72, .iload_n 3, 1, .inl (3, 0), false), (73, .iadd, 1, .inr (.inr 0), false), (74, .invokevirtual 127, 3, .inr (.inl (2, 1, mq_No_get)), false), (77, .ireturn, 1, .inr (.inr 0), false)]
theorem tk_Sc_weight : sc_ok mq_Sc_weight tb_Sc_weight = true := by decide +kernel
theorem lk_Sc_weight_0 : sc_lk tb_Sc_weight 0 = some (.aload_n 0, 1, .inl (0, 0), false) := rfl
theorem lk_Sc_weight_1 : sc_lk tb_Sc_weight 1 = some (.getfield 20, 3, .inl (4, 1), false) := rfl
theorem lk_Sc_weight_4 : sc_lk tb_Sc_weight 4 = some (.iload_n 1, 1, .inl (1, 0), false) := rfl
theorem lk_Sc_weight_5 : sc_lk tb_Sc_weight 5 = some (.invokevirtual 63, 3, .inr (.inl (0, 1, mq_Ch_has)), false) := rfl
theorem lk_Sc_weight_8 : sc_lk tb_Sc_weight 8 = some (.ifCond .ne 5, 3, .inl (13, 0), false) := rfl
theorem lk_Sc_weight_11 : sc_lk tb_Sc_weight 11 = some (.iconst (-1), 1, .inr (.inr 0), false) := rfl
theorem lk_Sc_weight_12 : sc_lk tb_Sc_weight 12 = some (.ireturn, 1, .inr (.inr 0), false) := rfl
theorem lk_Sc_weight_13 : sc_lk tb_Sc_weight 13 = some (.aload_n 0, 1, .inl (0, 0), false) := rfl
theorem lk_Sc_weight_14 : sc_lk tb_Sc_weight 14 = some (.getfield 20, 3, .inl (4, 1), false) := rfl
theorem lk_Sc_weight_17 : sc_lk tb_Sc_weight 17 = some (.getfield 67, 3, .inl (0, 0), false) := rfl
theorem lk_Sc_weight_20 : sc_lk tb_Sc_weight 20 = some (.iload_n 1, 1, .inl (1, 0), false) := rfl
theorem lk_Sc_weight_21 : sc_lk tb_Sc_weight 21 = some (.aaload, 1, .inr (.inr 0), false) := rfl
theorem lk_Sc_weight_22 : sc_lk tb_Sc_weight 22 = some (.astore 4, 2, .inl (4, 0), false) := rfl
theorem lk_Sc_weight_24 : sc_lk tb_Sc_weight 24 = some (.aload 4, 2, .inl (4, 0), false) := rfl
theorem lk_Sc_weight_26 : sc_lk tb_Sc_weight 26 = some (.getfield 71, 3, .inl (2, 0), false) := rfl
theorem lk_Sc_weight_29 : sc_lk tb_Sc_weight 29 = some (.iconst 1, 1, .inr (.inr 0), false) := rfl
theorem lk_Sc_weight_30 : sc_lk tb_Sc_weight 30 = some (.if_icmp .eq 9, 3, .inl (39, 0), false) := rfl
theorem lk_Sc_weight_33 : sc_lk tb_Sc_weight 33 = some (.aload_n 0, 1, .inl (0, 0), false) := rfl
theorem lk_Sc_weight_34 : sc_lk tb_Sc_weight 34 = some (.iconst 3, 1, .inr (.inr 0), false) := rfl
theorem lk_Sc_weight_35 : sc_lk tb_Sc_weight 35 = some (.invokevirtual 79, 3, .inr (.inl (4, 1, mq_Sc_find)), false) := rfl
theorem lk_Sc_weight_38 : sc_lk tb_Sc_weight 38 = some (.ireturn, 1, .inr (.inr 0), false) := rfl
theorem lk_Sc_weight_39 : sc_lk tb_Sc_weight 39 = some (.aload 4, 2, .inl (4, 0), false) := rfl
theorem lk_Sc_weight_41 : sc_lk tb_Sc_weight 41 = some (.iload_n 2, 1, .inl (2, 0), false) := rfl
theorem lk_Sc_weight_42 : sc_lk tb_Sc_weight 42 = some (.invokevirtual 118, 3, .inr (.inl (2, 1, mq_No_hasPlace)), false) := rfl
theorem lk_Sc_weight_45 : sc_lk tb_Sc_weight 45 = some (.ifCond .eq 12, 3, .inl (57, 0), false) := rfl
theorem lk_Sc_weight_48 : sc_lk tb_Sc_weight 48 = some (.aload 4, 2, .inl (4, 0), false) := rfl
theorem lk_Sc_weight_50 : sc_lk tb_Sc_weight 50 = some (.iload_n 3, 1, .inl (3, 0), false) := rfl
theorem lk_Sc_weight_51 : sc_lk tb_Sc_weight 51 = some (.invokevirtual 124, 3, .inr (.inl (2, 1, mq_No_hasState)), false) := rfl
theorem lk_Sc_weight_54 : sc_lk tb_Sc_weight 54 = some (.ifCond .ne 9, 3, .inl (63, 0), false) := rfl
theorem lk_Sc_weight_57 : sc_lk tb_Sc_weight 57 = some (.aload_n 0, 1, .inl (0, 0), false) := rfl
theorem lk_Sc_weight_58 : sc_lk tb_Sc_weight 58 = some (.iconst 2, 1, .inr (.inr 0), false) := rfl
theorem lk_Sc_weight_59 : sc_lk tb_Sc_weight 59 = some (.invokevirtual 79, 3, .inr (.inl (4, 1, mq_Sc_find)), false) := rfl
theorem lk_Sc_weight_62 : sc_lk tb_Sc_weight 62 = some (.ireturn, 1, .inr (.inr 0), false) := rfl
theorem lk_Sc_weight_63 : sc_lk tb_Sc_weight 63 = some (.aload 4, 2, .inl (4, 0), false) := rfl
theorem lk_Sc_weight_65 : sc_lk tb_Sc_weight 65 = some (.iload_n 2, 1, .inl (2, 0), false) := rfl
theorem lk_Sc_weight_66 : sc_lk tb_Sc_weight 66 = some (.aload 4, 2, .inl (4, 0), false) := rfl
theorem lk_Sc_weight_68 : sc_lk tb_Sc_weight 68 = some (.getfield 90, 3, .inl (2, 1), false) := rfl
theorem lk_Sc_weight_71 : sc_lk tb_Sc_weight 71 = some (.imul, 1, .inr (.inr 0), false) := rfl
theorem lk_Sc_weight_72 : sc_lk tb_Sc_weight 72 = some (.iload_n 3, 1, .inl (3, 0), false) := rfl
theorem lk_Sc_weight_73 : sc_lk tb_Sc_weight 73 = some (.iadd, 1, .inr (.inr 0), false) := rfl
theorem lk_Sc_weight_74 : sc_lk tb_Sc_weight 74 = some (.invokevirtual 127, 3, .inr (.inl (2, 1, mq_No_get)), false) := rfl
theorem lk_Sc_weight_77 : sc_lk tb_Sc_weight 77 = some (.ireturn, 1, .inr (.inr 0), false) := rfl
def tb_Sc_worth : sc_T := [(0, .aload_n 0, 1, .inl (0, 0), false), (1, .getfield 20, 3, .inl (4, 1), false), (4, .iload_n 1, 1, .inl (1, 0), false), (5, .invokevirtual 63, 3, .inr (.inl (0, 1, mq_Ch_has)), false), (8, .ifCond .eq 15, 3, .inl (23, 0), false), (11, .iload_n 3, 1, .inl (3, 0), false), (12, .bipush (-100), 2, .inr (.inr 0), false), (14, .if_icmp .lt 9, 3, .inl (23, 0), false), (17, .iload_n 3, 1, .inl (3, 0), false), (18, .bipush 100, 2, .inr (.inr 0), false), (20, .if_icmp .le 5, 3, .inl (25, 0), false), (23, .iconst (-1), 1, .inr (.inr 0), false), (24, .ireturn, 1, .inr (.inr 0), false), (25, .aload_n 0, 1, .inl (0, 0), false), (26, .getfield 20, 3, .inl (4, 1), false), (29, .getfield 67, 3, .inl (0, 0), false), (32, .iload_n 1, 1, .inl (1, 0), false), (33, .aaload, 1, .inr (.inr 0), false), (34, .astore 4, 2, .inl (4, 0), false), (36, .aload 4, 2, .inl (4, 0), false), (38, .getfield 71, 3, .inl (2, 0), false), (41, .ifCond .eq 9, 3, .inl (50, 0), false), (44, .aload_n 0, 1, .inl (0, 0), false), (45, .iconst 3, 1, .inr (.inr 0), false), (46, .invokevirtual 79, 3, .inr (.inl (4, 1, mq_Sc_find)), false), (49, .ireturn, 1, .inr (.inr 0), false), (50, .aload 4, 2, .inl (4, 0), false), (52, .iload_n 2, 1, .inl (2, 0), false), (53, .invokevirtual 118, 3, .inr (.inl (2, 1, mq_No_hasPlace)), false), (56, .ifCond .ne 9, 3, .inl (65, 0), false), (59, .aload_n 0, 1, .inl (0, 0), false), (60, .iconst 2, 1, .inr (.inr 0), false), (61, .invokevirtual 79, 3, .inr (.inl (4, 1, mq_Sc_find)), false), (64, .ireturn, 1, .inr (.inr 0), false), (65, .aload 4, 2, .inl (4, 0), false), (67, .iload_n 2, 1, .inl (2, 0), false), (68, .invokevirtual 127, 3, .inr (.inl (2, 1, mq_No_get)), false), (71, .istore 5, 2, .inl (5, 0), false), (73, .aload 4, 2, .inl (4, 0), false), (75, .iload_n 2, 1, .inl (2, 0), false), (76, .iload_n 3, 1, .inl (3, 0), false), (77, .invokevirtual 121, 3, .inr (.inl (2, 2, mq_No_put)), false), (80, .aload_n 0, 1, .inl (0, 0), false), (81, .iload 5, 2, .inl (5, 0), false), (83, .invokevirtual 130, 3, .inr (.inl (4, 1, mq_Sc_ask)), false), (86, .ireturn, 1, .inr (.inr 0), false)]
theorem tk_Sc_worth : sc_ok mq_Sc_worth tb_Sc_worth = true := by decide +kernel
theorem lk_Sc_worth_0 : sc_lk tb_Sc_worth 0 = some (.aload_n 0, 1, .inl (0, 0), false) := rfl
theorem lk_Sc_worth_1 : sc_lk tb_Sc_worth 1 = some (.getfield 20, 3, .inl (4, 1), false) := rfl
theorem lk_Sc_worth_4 : sc_lk tb_Sc_worth 4 = some (.iload_n 1, 1, .inl (1, 0), false) := rfl
theorem lk_Sc_worth_5 : sc_lk tb_Sc_worth 5 = some (.invokevirtual 63, 3, .inr (.inl (0, 1, mq_Ch_has)), false) := rfl
theorem lk_Sc_worth_8 : sc_lk tb_Sc_worth 8 = some (.ifCond .eq 15, 3, .inl (23, 0), false) := rfl
theorem lk_Sc_worth_11 : sc_lk tb_Sc_worth 11 = some (.iload_n 3, 1, .inl (3, 0), false) := rfl
theorem lk_Sc_worth_12 : sc_lk tb_Sc_worth 12 = some (.bipush (-100), 2, .inr (.inr 0), false) := rfl
theorem lk_Sc_worth_14 : sc_lk tb_Sc_worth 14 = some (.if_icmp .lt 9, 3, .inl (23, 0), false) := rfl
theorem lk_Sc_worth_17 : sc_lk tb_Sc_worth 17 = some (.iload_n 3, 1, .inl (3, 0), false) := rfl
theorem lk_Sc_worth_18 : sc_lk tb_Sc_worth 18 = some (.bipush 100, 2, .inr (.inr 0), false) := rfl
theorem lk_Sc_worth_20 : sc_lk tb_Sc_worth 20 = some (.if_icmp .le 5, 3, .inl (25, 0), false) := rfl
theorem lk_Sc_worth_23 : sc_lk tb_Sc_worth 23 = some (.iconst (-1), 1, .inr (.inr 0), false) := rfl
theorem lk_Sc_worth_24 : sc_lk tb_Sc_worth 24 = some (.ireturn, 1, .inr (.inr 0), false) := rfl
theorem lk_Sc_worth_25 : sc_lk tb_Sc_worth 25 = some (.aload_n 0, 1, .inl (0, 0), false) := rfl
theorem lk_Sc_worth_26 : sc_lk tb_Sc_worth 26 = some (.getfield 20, 3, .inl (4, 1), false) := rfl
theorem lk_Sc_worth_29 : sc_lk tb_Sc_worth 29 = some (.getfield 67, 3, .inl (0, 0), false) := rfl
theorem lk_Sc_worth_32 : sc_lk tb_Sc_worth 32 = some (.iload_n 1, 1, .inl (1, 0), false) := rfl
theorem lk_Sc_worth_33 : sc_lk tb_Sc_worth 33 = some (.aaload, 1, .inr (.inr 0), false) := rfl
theorem lk_Sc_worth_34 : sc_lk tb_Sc_worth 34 = some (.astore 4, 2, .inl (4, 0), false) := rfl
theorem lk_Sc_worth_36 : sc_lk tb_Sc_worth 36 = some (.aload 4, 2, .inl (4, 0), false) := rfl
theorem lk_Sc_worth_38 : sc_lk tb_Sc_worth 38 = some (.getfield 71, 3, .inl (2, 0), false) := rfl
theorem lk_Sc_worth_41 : sc_lk tb_Sc_worth 41 = some (.ifCond .eq 9, 3, .inl (50, 0), false) := rfl
theorem lk_Sc_worth_44 : sc_lk tb_Sc_worth 44 = some (.aload_n 0, 1, .inl (0, 0), false) := rfl
theorem lk_Sc_worth_45 : sc_lk tb_Sc_worth 45 = some (.iconst 3, 1, .inr (.inr 0), false) := rfl
theorem lk_Sc_worth_46 : sc_lk tb_Sc_worth 46 = some (.invokevirtual 79, 3, .inr (.inl (4, 1, mq_Sc_find)), false) := rfl
theorem lk_Sc_worth_49 : sc_lk tb_Sc_worth 49 = some (.ireturn, 1, .inr (.inr 0), false) := rfl
theorem lk_Sc_worth_50 : sc_lk tb_Sc_worth 50 = some (.aload 4, 2, .inl (4, 0), false) := rfl
theorem lk_Sc_worth_52 : sc_lk tb_Sc_worth 52 = some (.iload_n 2, 1, .inl (2, 0), false) := rfl
theorem lk_Sc_worth_53 : sc_lk tb_Sc_worth 53 = some (.invokevirtual 118, 3, .inr (.inl (2, 1, mq_No_hasPlace)), false) := rfl
theorem lk_Sc_worth_56 : sc_lk tb_Sc_worth 56 = some (.ifCond .ne 9, 3, .inl (65, 0), false) := rfl
theorem lk_Sc_worth_59 : sc_lk tb_Sc_worth 59 = some (.aload_n 0, 1, .inl (0, 0), false) := rfl
theorem lk_Sc_worth_60 : sc_lk tb_Sc_worth 60 = some (.iconst 2, 1, .inr (.inr 0), false) := rfl
theorem lk_Sc_worth_61 : sc_lk tb_Sc_worth 61 = some (.invokevirtual 79, 3, .inr (.inl (4, 1, mq_Sc_find)), false) := rfl
theorem lk_Sc_worth_64 : sc_lk tb_Sc_worth 64 = some (.ireturn, 1, .inr (.inr 0), false) := rfl
theorem lk_Sc_worth_65 : sc_lk tb_Sc_worth 65 = some (.aload 4, 2, .inl (4, 0), false) := rfl
theorem lk_Sc_worth_67 : sc_lk tb_Sc_worth 67 = some (.iload_n 2, 1, .inl (2, 0), false) := rfl
theorem lk_Sc_worth_68 : sc_lk tb_Sc_worth 68 = some (.invokevirtual 127, 3, .inr (.inl (2, 1, mq_No_get)), false) := rfl
theorem lk_Sc_worth_71 : sc_lk tb_Sc_worth 71 = some (.istore 5, 2, .inl (5, 0), false) := rfl
theorem lk_Sc_worth_73 : sc_lk tb_Sc_worth 73 = some (.aload 4, 2, .inl (4, 0), false) := rfl
theorem lk_Sc_worth_75 : sc_lk tb_Sc_worth 75 = some (.iload_n 2, 1, .inl (2, 0), false) := rfl
theorem lk_Sc_worth_76 : sc_lk tb_Sc_worth 76 = some (.iload_n 3, 1, .inl (3, 0), false) := rfl
theorem lk_Sc_worth_77 : sc_lk tb_Sc_worth 77 = some (.invokevirtual 121, 3, .inr (.inl (2, 2, mq_No_put)), false) := rfl
theorem lk_Sc_worth_80 : sc_lk tb_Sc_worth 80 = some (.aload_n 0, 1, .inl (0, 0), false) := rfl
theorem lk_Sc_worth_81 : sc_lk tb_Sc_worth 81 = some (.iload 5, 2, .inl (5, 0), false) := rfl
theorem lk_Sc_worth_83 : sc_lk tb_Sc_worth 83 = some (.invokevirtual 130, 3, .inr (.inl (4, 1, mq_Sc_ask)), false) := rfl
theorem lk_Sc_worth_86 : sc_lk tb_Sc_worth 86 = some (.ireturn, 1, .inr (.inr 0), false) := rfl
def tb_Sc_ask : sc_T := [(0, .aload_n 0, 1, .inl (0, 0), false), (1, .iload_n 1, 1, .inl (1, 0), false), (2, .putfield 233, 3, .inl (4, 7), false), (5, .iconst 1, 1, .inr (.inr 0), false), (6, .ireturn, 1, .inr (.inr 0), false)]
theorem tk_Sc_ask : sc_ok mq_Sc_ask tb_Sc_ask = true := by decide +kernel
theorem lk_Sc_ask_0 : sc_lk tb_Sc_ask 0 = some (.aload_n 0, 1, .inl (0, 0), false) := rfl
theorem lk_Sc_ask_1 : sc_lk tb_Sc_ask 1 = some (.iload_n 1, 1, .inl (1, 0), false) := rfl
theorem lk_Sc_ask_2 : sc_lk tb_Sc_ask 2 = some (.putfield 233, 3, .inl (4, 7), false) := rfl
theorem lk_Sc_ask_5 : sc_lk tb_Sc_ask 5 = some (.iconst 1, 1, .inr (.inr 0), false) := rfl
theorem lk_Sc_ask_6 : sc_lk tb_Sc_ask 6 = some (.ireturn, 1, .inr (.inr 0), false) := rfl
def tb_Sc_firm : sc_T := [(0, .aload_n 0, 1, .inl (0, 0), false), (1, .getfield 20, 3, .inl (4, 1), false), (4, .iload_n 1, 1, .inl (1, 0), false), (5, .invokevirtual 63, 3, .inr (.inl (0, 1, mq_Ch_has)), false), (8, .ifCond .ne 5, 3, .inl (13, 0), false), (11, .iconst (-1), 1, .inr (.inr 0), false), (12, .ireturn, 1, .inr (.inr 0), false), (13, .aload_n 0, 1, .inl (0, 0), false), (14, .getfield 20, 3, .inl (4, 1), false), (17, .getfield 67, 3, .inl (0, 0), false), (20, .iload_n 1, 1, .inl (1, 0), false), (21, .aaload, 1, .inr (.inr 0), false), (22, .astore_n 3, 1, .inl (3, 0), false), (23, .aload_n 3, 1, .inl (3, 0), false), (24, .getfield 71, 3, .inl (2, 0), false), (27, .iconst 2, 1, .inr (.inr 0), false), (28, .if_icmp .eq 9, 3, .inl (37, 0), false), (31, .aload_n 0, 1, .inl (0, 0), false), (32, .iconst 3, 1, .inr (.inr 0), false), (33, .invokevirtual 79, 3, .inr (.inl (4, 1, mq_Sc_find)), false), (36, .ireturn, 1, .inr (.inr 0), false), (37, .iload_n 2, 1, .inl (2, 0), false), (38, .bipush (-9), 2, .inr (.inr 0), false), (40, .if_icmp .eq 17, 3, .inl (57, 0), false), (43, .aload_n 3, 1, .inl (3, 0), false), (44, .iload_n 2, 1, .inl (2, 0), false), (45, .invokevirtual 124, 3, .inr (.inl (2, 1, mq_No_hasState)), false), (48, .ifCond .ne 9, 3, .inl (57, 0), false), (51, .aload_n 0, 1, .inl (0, 0), false), (52, .iconst 2, 1, .inr (.inr 0), false), (53, .invokevirtual 79, 3, .inr (.inl (4, 1, mq_Sc_find)), false), (56, .ireturn, 1, .inr (.inr 0), false), (57, .aload_n 3, 1, .inl (3, 0), false), (58, .getfield 133, 3, .inl (2, 3), false), (61, .istore 4, 2, .inl (4, 0), false), (63, .aload_n 3, 1, .inl (3, 0), false), (64, .iload_n 2, 1, .inl (2, 0), false), (65, .putfield 133, 3, .inl (2, 3), false), (68, .iload 4, 2, .inl (4, 0), false), (70, .ireturn, 1, .inr (.inr 0), false)]
theorem tk_Sc_firm : sc_ok mq_Sc_firm tb_Sc_firm = true := by decide +kernel
theorem lk_Sc_firm_0 : sc_lk tb_Sc_firm 0 = some (.aload_n 0, 1, .inl (0, 0), false) := rfl
theorem lk_Sc_firm_1 : sc_lk tb_Sc_firm 1 = some (.getfield 20, 3, .inl (4, 1), false) := rfl
theorem lk_Sc_firm_4 : sc_lk tb_Sc_firm 4 = some (.iload_n 1, 1, .inl (1, 0), false) := rfl
theorem lk_Sc_firm_5 : sc_lk tb_Sc_firm 5 = some (.invokevirtual 63, 3, .inr (.inl (0, 1, mq_Ch_has)), false) := rfl
theorem lk_Sc_firm_8 : sc_lk tb_Sc_firm 8 = some (.ifCond .ne 5, 3, .inl (13, 0), false) := rfl
theorem lk_Sc_firm_11 : sc_lk tb_Sc_firm 11 = some (.iconst (-1), 1, .inr (.inr 0), false) := rfl
theorem lk_Sc_firm_12 : sc_lk tb_Sc_firm 12 = some (.ireturn, 1, .inr (.inr 0), false) := rfl
theorem lk_Sc_firm_13 : sc_lk tb_Sc_firm 13 = some (.aload_n 0, 1, .inl (0, 0), false) := rfl
theorem lk_Sc_firm_14 : sc_lk tb_Sc_firm 14 = some (.getfield 20, 3, .inl (4, 1), false) := rfl
theorem lk_Sc_firm_17 : sc_lk tb_Sc_firm 17 = some (.getfield 67, 3, .inl (0, 0), false) := rfl
theorem lk_Sc_firm_20 : sc_lk tb_Sc_firm 20 = some (.iload_n 1, 1, .inl (1, 0), false) := rfl
theorem lk_Sc_firm_21 : sc_lk tb_Sc_firm 21 = some (.aaload, 1, .inr (.inr 0), false) := rfl
theorem lk_Sc_firm_22 : sc_lk tb_Sc_firm 22 = some (.astore_n 3, 1, .inl (3, 0), false) := rfl
theorem lk_Sc_firm_23 : sc_lk tb_Sc_firm 23 = some (.aload_n 3, 1, .inl (3, 0), false) := rfl
theorem lk_Sc_firm_24 : sc_lk tb_Sc_firm 24 = some (.getfield 71, 3, .inl (2, 0), false) := rfl
theorem lk_Sc_firm_27 : sc_lk tb_Sc_firm 27 = some (.iconst 2, 1, .inr (.inr 0), false) := rfl
theorem lk_Sc_firm_28 : sc_lk tb_Sc_firm 28 = some (.if_icmp .eq 9, 3, .inl (37, 0), false) := rfl
theorem lk_Sc_firm_31 : sc_lk tb_Sc_firm 31 = some (.aload_n 0, 1, .inl (0, 0), false) := rfl
theorem lk_Sc_firm_32 : sc_lk tb_Sc_firm 32 = some (.iconst 3, 1, .inr (.inr 0), false) := rfl
theorem lk_Sc_firm_33 : sc_lk tb_Sc_firm 33 = some (.invokevirtual 79, 3, .inr (.inl (4, 1, mq_Sc_find)), false) := rfl
theorem lk_Sc_firm_36 : sc_lk tb_Sc_firm 36 = some (.ireturn, 1, .inr (.inr 0), false) := rfl
theorem lk_Sc_firm_37 : sc_lk tb_Sc_firm 37 = some (.iload_n 2, 1, .inl (2, 0), false) := rfl
theorem lk_Sc_firm_38 : sc_lk tb_Sc_firm 38 = some (.bipush (-9), 2, .inr (.inr 0), false) := rfl
theorem lk_Sc_firm_40 : sc_lk tb_Sc_firm 40 = some (.if_icmp .eq 17, 3, .inl (57, 0), false) := rfl
theorem lk_Sc_firm_43 : sc_lk tb_Sc_firm 43 = some (.aload_n 3, 1, .inl (3, 0), false) := rfl
theorem lk_Sc_firm_44 : sc_lk tb_Sc_firm 44 = some (.iload_n 2, 1, .inl (2, 0), false) := rfl
theorem lk_Sc_firm_45 : sc_lk tb_Sc_firm 45 = some (.invokevirtual 124, 3, .inr (.inl (2, 1, mq_No_hasState)), false) := rfl
theorem lk_Sc_firm_48 : sc_lk tb_Sc_firm 48 = some (.ifCond .ne 9, 3, .inl (57, 0), false) := rfl
theorem lk_Sc_firm_51 : sc_lk tb_Sc_firm 51 = some (.aload_n 0, 1, .inl (0, 0), false) := rfl
theorem lk_Sc_firm_52 : sc_lk tb_Sc_firm 52 = some (.iconst 2, 1, .inr (.inr 0), false) := rfl
theorem lk_Sc_firm_53 : sc_lk tb_Sc_firm 53 = some (.invokevirtual 79, 3, .inr (.inl (4, 1, mq_Sc_find)), false) := rfl
theorem lk_Sc_firm_56 : sc_lk tb_Sc_firm 56 = some (.ireturn, 1, .inr (.inr 0), false) := rfl
theorem lk_Sc_firm_57 : sc_lk tb_Sc_firm 57 = some (.aload_n 3, 1, .inl (3, 0), false) := rfl
theorem lk_Sc_firm_58 : sc_lk tb_Sc_firm 58 = some (.getfield 133, 3, .inl (2, 3), false) := rfl
theorem lk_Sc_firm_61 : sc_lk tb_Sc_firm 61 = some (.istore 4, 2, .inl (4, 0), false) := rfl
theorem lk_Sc_firm_63 : sc_lk tb_Sc_firm 63 = some (.aload_n 3, 1, .inl (3, 0), false) := rfl
theorem lk_Sc_firm_64 : sc_lk tb_Sc_firm 64 = some (.iload_n 2, 1, .inl (2, 0), false) := rfl
theorem lk_Sc_firm_65 : sc_lk tb_Sc_firm 65 = some (.putfield 133, 3, .inl (2, 3), false) := rfl
theorem lk_Sc_firm_68 : sc_lk tb_Sc_firm 68 = some (.iload 4, 2, .inl (4, 0), false) := rfl
theorem lk_Sc_firm_70 : sc_lk tb_Sc_firm 70 = some (.ireturn, 1, .inr (.inr 0), false) := rfl
def tb_Sc_told : sc_T := [(0, .aload_n 0, 1, .inl (0, 0), false), (1, .getfield 20, 3, .inl (4, 1), false), (4, .iload_n 1, 1, .inl (1, 0), false), (5, .invokevirtual 63, 3, .inr (.inl (0, 1, mq_Ch_has)), false), (8, .ifCond .eq 12, 3, .inl (20, 0), false), (11, .iload_n 2, 1, .inl (2, 0), false), (12, .ifCond .lt 8, 3, .inl (20, 0), false), (15, .iload_n 2, 1, .inl (2, 0), false), (16, .iconst 4, 1, .inr (.inr 0), false), (17, .if_icmp .le 5, 3, .inl (22, 0), false), (20, .iconst (-1), 1, .inr (.inr 0), false), (21, .ireturn, 1, .inr (.inr 0), false), (22, .aload_n 0, 1, .inl (0, 0), false), (23, .getfield 20, 3, .inl (4, 1), false), (26, .getfield 67, 3, .inl (0, 0), false), (29, .iload_n 1, 1, .inl (1, 0), false), (30, .aaload, 1, .inr (.inr 0), false), (31, .iload_n 2, 1, .inl (2, 0), false), (32, .invokevirtual 136, 3, .inr (.inl (2, 1, mq_No_tell)), false), (35, .ireturn, 1, .inr (.inr 0), false)]
theorem tk_Sc_told : sc_ok mq_Sc_told tb_Sc_told = true := by decide +kernel
theorem lk_Sc_told_0 : sc_lk tb_Sc_told 0 = some (.aload_n 0, 1, .inl (0, 0), false) := rfl
theorem lk_Sc_told_1 : sc_lk tb_Sc_told 1 = some (.getfield 20, 3, .inl (4, 1), false) := rfl
theorem lk_Sc_told_4 : sc_lk tb_Sc_told 4 = some (.iload_n 1, 1, .inl (1, 0), false) := rfl
theorem lk_Sc_told_5 : sc_lk tb_Sc_told 5 = some (.invokevirtual 63, 3, .inr (.inl (0, 1, mq_Ch_has)), false) := rfl
theorem lk_Sc_told_8 : sc_lk tb_Sc_told 8 = some (.ifCond .eq 12, 3, .inl (20, 0), false) := rfl
theorem lk_Sc_told_11 : sc_lk tb_Sc_told 11 = some (.iload_n 2, 1, .inl (2, 0), false) := rfl
theorem lk_Sc_told_12 : sc_lk tb_Sc_told 12 = some (.ifCond .lt 8, 3, .inl (20, 0), false) := rfl
theorem lk_Sc_told_15 : sc_lk tb_Sc_told 15 = some (.iload_n 2, 1, .inl (2, 0), false) := rfl
theorem lk_Sc_told_16 : sc_lk tb_Sc_told 16 = some (.iconst 4, 1, .inr (.inr 0), false) := rfl
theorem lk_Sc_told_17 : sc_lk tb_Sc_told 17 = some (.if_icmp .le 5, 3, .inl (22, 0), false) := rfl
theorem lk_Sc_told_20 : sc_lk tb_Sc_told 20 = some (.iconst (-1), 1, .inr (.inr 0), false) := rfl
theorem lk_Sc_told_21 : sc_lk tb_Sc_told 21 = some (.ireturn, 1, .inr (.inr 0), false) := rfl
theorem lk_Sc_told_22 : sc_lk tb_Sc_told 22 = some (.aload_n 0, 1, .inl (0, 0), false) := rfl
theorem lk_Sc_told_23 : sc_lk tb_Sc_told 23 = some (.getfield 20, 3, .inl (4, 1), false) := rfl
theorem lk_Sc_told_26 : sc_lk tb_Sc_told 26 = some (.getfield 67, 3, .inl (0, 0), false) := rfl
theorem lk_Sc_told_29 : sc_lk tb_Sc_told 29 = some (.iload_n 1, 1, .inl (1, 0), false) := rfl
theorem lk_Sc_told_30 : sc_lk tb_Sc_told 30 = some (.aaload, 1, .inr (.inr 0), false) := rfl
theorem lk_Sc_told_31 : sc_lk tb_Sc_told 31 = some (.iload_n 2, 1, .inl (2, 0), false) := rfl
theorem lk_Sc_told_32 : sc_lk tb_Sc_told 32 = some (.invokevirtual 136, 3, .inr (.inl (2, 1, mq_No_tell)), false) := rfl
theorem lk_Sc_told_35 : sc_lk tb_Sc_told 35 = some (.ireturn, 1, .inr (.inr 0), false) := rfl
def tb_Sc_mark : sc_T := [(0, .aload_n 0, 1, .inl (0, 0), false), (1, .getfield 20, 3, .inl (4, 1), false), (4, .iload_n 1, 1, .inl (1, 0), false), (5, .invokevirtual 63, 3, .inr (.inl (0, 1, mq_Ch_has)), false), (8, .ifCond .eq 13, 3, .inl (21, 0), false), (11, .iload_n 2, 1, .inl (2, 0), false), (12, .iconst 1, 1, .inr (.inr 0), false), (13, .if_icmp .lt 8, 3, .inl (21, 0), false), (16, .iload_n 2, 1, .inl (2, 0), false), (17, .iconst 3, 1, .inr (.inr 0), false), (18, .if_icmp .le 5, 3, .inl (23, 0), false), (21, .iconst (-1), 1, .inr (.inr 0), false), (22, .ireturn, 1, .inr (.inr 0), false), (23, .aload_n 0, 1, .inl (0, 0), false), (24, .getfield 20, 3, .inl (4, 1), false), (27, .getfield 67, 3, .inl (0, 0), false), (30, .iload_n 1, 1, .inl (1, 0), false), (31, .aaload, 1, .inr (.inr 0), false), (32, .astore_n 3, 1, .inl (3, 0), false), (33, .aload_n 3, 1, .inl (3, 0), false), (34, .iload_n 2, 1, .inl (2, 0), false), (35, .invokevirtual 139, 3, .inr (.inl (2, 1, mq_No_is)), false), (38, .ifCond .ne 9, 3, .inl (47, 0), false), (41, .aload_n 0, 1, .inl (0, 0), false), (42, .iconst 3, 1, .inr (.inr 0), false), (43, .invokevirtual 79, 3, .inr (.inl (4, 1, mq_Sc_find)), false), (46, .ireturn, 1, .inr (.inr 0), false), (47, .iload_n 2, 1, .inl (2, 0), false), (48, .iconst 3, 1, .inr (.inr 0), false), (49, .if_icmp .ne 8, 3, .inl (57, 0), false), (52, .aload_n 3, 1, .inl (3, 0), false), (53, .getfield 133, 3, .inl (2, 3), false), (56, .ireturn, 1, .inr (.inr 0), false), (57, .iload_n 2, 1, .inl (2, 0), false), (58, .iconst 1, 1, .inr (.inr 0), false), (59, .if_icmp .ne 14, 3, .inl (73, 0), false), (62, .aload_n 0, 1, .inl (0, 0), false), (63, .getfield 20, 3, .inl (4, 1), false), (66, .iload_n 1, 1, .inl (1, 0), false), (67, .invokevirtual 142, 3, .inr (.inl (0, 1, mq_Ch_countSeeing)), false), (70, .goto 11, 3, .inl (81, 0), false), (73, .aload_n 0, 1, .inl (0, 0), false), (74, .getfield 20, 3, .inl (4, 1), false), (77, .iload_n 1, 1, .inl (1, 0), false), (78, .invokevirtual 145, 3, .inr (.inl (0, 1, mq_Ch_countChildren)), false), (81, .ireturn, 1, .inr (.inr 0), false)]
theorem tk_Sc_mark : sc_ok mq_Sc_mark tb_Sc_mark = true := by decide +kernel
theorem lk_Sc_mark_0 : sc_lk tb_Sc_mark 0 = some (.aload_n 0, 1, .inl (0, 0), false) := rfl
theorem lk_Sc_mark_1 : sc_lk tb_Sc_mark 1 = some (.getfield 20, 3, .inl (4, 1), false) := rfl
theorem lk_Sc_mark_4 : sc_lk tb_Sc_mark 4 = some (.iload_n 1, 1, .inl (1, 0), false) := rfl
theorem lk_Sc_mark_5 : sc_lk tb_Sc_mark 5 = some (.invokevirtual 63, 3, .inr (.inl (0, 1, mq_Ch_has)), false) := rfl
theorem lk_Sc_mark_8 : sc_lk tb_Sc_mark 8 = some (.ifCond .eq 13, 3, .inl (21, 0), false) := rfl
theorem lk_Sc_mark_11 : sc_lk tb_Sc_mark 11 = some (.iload_n 2, 1, .inl (2, 0), false) := rfl
theorem lk_Sc_mark_12 : sc_lk tb_Sc_mark 12 = some (.iconst 1, 1, .inr (.inr 0), false) := rfl
theorem lk_Sc_mark_13 : sc_lk tb_Sc_mark 13 = some (.if_icmp .lt 8, 3, .inl (21, 0), false) := rfl
theorem lk_Sc_mark_16 : sc_lk tb_Sc_mark 16 = some (.iload_n 2, 1, .inl (2, 0), false) := rfl
theorem lk_Sc_mark_17 : sc_lk tb_Sc_mark 17 = some (.iconst 3, 1, .inr (.inr 0), false) := rfl
theorem lk_Sc_mark_18 : sc_lk tb_Sc_mark 18 = some (.if_icmp .le 5, 3, .inl (23, 0), false) := rfl
theorem lk_Sc_mark_21 : sc_lk tb_Sc_mark 21 = some (.iconst (-1), 1, .inr (.inr 0), false) := rfl
theorem lk_Sc_mark_22 : sc_lk tb_Sc_mark 22 = some (.ireturn, 1, .inr (.inr 0), false) := rfl
theorem lk_Sc_mark_23 : sc_lk tb_Sc_mark 23 = some (.aload_n 0, 1, .inl (0, 0), false) := rfl
theorem lk_Sc_mark_24 : sc_lk tb_Sc_mark 24 = some (.getfield 20, 3, .inl (4, 1), false) := rfl
theorem lk_Sc_mark_27 : sc_lk tb_Sc_mark 27 = some (.getfield 67, 3, .inl (0, 0), false) := rfl
theorem lk_Sc_mark_30 : sc_lk tb_Sc_mark 30 = some (.iload_n 1, 1, .inl (1, 0), false) := rfl
theorem lk_Sc_mark_31 : sc_lk tb_Sc_mark 31 = some (.aaload, 1, .inr (.inr 0), false) := rfl
theorem lk_Sc_mark_32 : sc_lk tb_Sc_mark 32 = some (.astore_n 3, 1, .inl (3, 0), false) := rfl
theorem lk_Sc_mark_33 : sc_lk tb_Sc_mark 33 = some (.aload_n 3, 1, .inl (3, 0), false) := rfl
theorem lk_Sc_mark_34 : sc_lk tb_Sc_mark 34 = some (.iload_n 2, 1, .inl (2, 0), false) := rfl
theorem lk_Sc_mark_35 : sc_lk tb_Sc_mark 35 = some (.invokevirtual 139, 3, .inr (.inl (2, 1, mq_No_is)), false) := rfl
theorem lk_Sc_mark_38 : sc_lk tb_Sc_mark 38 = some (.ifCond .ne 9, 3, .inl (47, 0), false) := rfl
theorem lk_Sc_mark_41 : sc_lk tb_Sc_mark 41 = some (.aload_n 0, 1, .inl (0, 0), false) := rfl
theorem lk_Sc_mark_42 : sc_lk tb_Sc_mark 42 = some (.iconst 3, 1, .inr (.inr 0), false) := rfl
theorem lk_Sc_mark_43 : sc_lk tb_Sc_mark 43 = some (.invokevirtual 79, 3, .inr (.inl (4, 1, mq_Sc_find)), false) := rfl
theorem lk_Sc_mark_46 : sc_lk tb_Sc_mark 46 = some (.ireturn, 1, .inr (.inr 0), false) := rfl
theorem lk_Sc_mark_47 : sc_lk tb_Sc_mark 47 = some (.iload_n 2, 1, .inl (2, 0), false) := rfl
theorem lk_Sc_mark_48 : sc_lk tb_Sc_mark 48 = some (.iconst 3, 1, .inr (.inr 0), false) := rfl
theorem lk_Sc_mark_49 : sc_lk tb_Sc_mark 49 = some (.if_icmp .ne 8, 3, .inl (57, 0), false) := rfl
theorem lk_Sc_mark_52 : sc_lk tb_Sc_mark 52 = some (.aload_n 3, 1, .inl (3, 0), false) := rfl
theorem lk_Sc_mark_53 : sc_lk tb_Sc_mark 53 = some (.getfield 133, 3, .inl (2, 3), false) := rfl
theorem lk_Sc_mark_56 : sc_lk tb_Sc_mark 56 = some (.ireturn, 1, .inr (.inr 0), false) := rfl
theorem lk_Sc_mark_57 : sc_lk tb_Sc_mark 57 = some (.iload_n 2, 1, .inl (2, 0), false) := rfl
theorem lk_Sc_mark_58 : sc_lk tb_Sc_mark 58 = some (.iconst 1, 1, .inr (.inr 0), false) := rfl
theorem lk_Sc_mark_59 : sc_lk tb_Sc_mark 59 = some (.if_icmp .ne 14, 3, .inl (73, 0), false) := rfl
theorem lk_Sc_mark_62 : sc_lk tb_Sc_mark 62 = some (.aload_n 0, 1, .inl (0, 0), false) := rfl
theorem lk_Sc_mark_63 : sc_lk tb_Sc_mark 63 = some (.getfield 20, 3, .inl (4, 1), false) := rfl
theorem lk_Sc_mark_66 : sc_lk tb_Sc_mark 66 = some (.iload_n 1, 1, .inl (1, 0), false) := rfl
theorem lk_Sc_mark_67 : sc_lk tb_Sc_mark 67 = some (.invokevirtual 142, 3, .inr (.inl (0, 1, mq_Ch_countSeeing)), false) := rfl
theorem lk_Sc_mark_70 : sc_lk tb_Sc_mark 70 = some (.goto 11, 3, .inl (81, 0), false) := rfl
theorem lk_Sc_mark_73 : sc_lk tb_Sc_mark 73 = some (.aload_n 0, 1, .inl (0, 0), false) := rfl
theorem lk_Sc_mark_74 : sc_lk tb_Sc_mark 74 = some (.getfield 20, 3, .inl (4, 1), false) := rfl
theorem lk_Sc_mark_77 : sc_lk tb_Sc_mark 77 = some (.iload_n 1, 1, .inl (1, 0), false) := rfl
theorem lk_Sc_mark_78 : sc_lk tb_Sc_mark 78 = some (.invokevirtual 145, 3, .inr (.inl (0, 1, mq_Ch_countChildren)), false) := rfl
theorem lk_Sc_mark_81 : sc_lk tb_Sc_mark 81 = some (.ireturn, 1, .inr (.inr 0), false) := rfl
def tb_Sc_mean : sc_T := [(0, .aload_n 0, 1, .inl (0, 0), false), (1, .getfield 20, 3, .inl (4, 1), false), (4, .iload_n 1, 1, .inl (1, 0), false), (5, .invokevirtual 63, 3, .inr (.inl (0, 1, mq_Ch_has)), false), (8, .ifCond .ne 5, 3, .inl (13, 0), false), (11, .iconst (-1), 1, .inr (.inr 0), false), (12, .ireturn, 1, .inr (.inr 0), false), (13, .aload_n 0, 1, .inl (0, 0), false), (14, .getfield 20, 3, .inl (4, 1), false), (17, .getfield 67, 3, .inl (0, 0), false), (20, .iload_n 1, 1, .inl (1, 0), false), (21, .aaload, 1, .inr (.inr 0), false), (22, .astore_n 2, 1, .inl (2, 0), false), (23, .aload_n 2, 1, .inl (2, 0), false), (24, .getfield 71, 3, .inl (2, 0), false), (27, .ifCond .eq 9, 3, .inl (36, 0), false), (30, .aload_n 0, 1, .inl (0, 0), false), (31, .iconst 3, 1, .inr (.inr 0), false), (32, .invokevirtual 79, 3, .inr (.inl (4, 1, mq_Sc_find)), false), (35, .ireturn, 1, .inr (.inr 0), false), (36, .aload_n 2, 1, .inl (2, 0), false), (37, .getfield 148, 3, .inl (2, 6), false), (40, .iconst 1, 1, .inr (.inr 0), false), (41, .if_icmp .ge 9, 3, .inl (50, 0), false), (44, .aload_n 0, 1, .inl (0, 0), false), (45, .iconst 4, 1, .inr (.inr 0), false), (46, .invokevirtual 79, 3, .inr (.inl (4, 1, mq_Sc_find)), false), (49, .ireturn, 1, .inr (.inr 0), false), (50, .iconst 0, 1, .inr (.inr 0), false), (51, .istore_n 3, 1, .inl (3, 0), false), (52, .iconst 0, 1, .inr (.inr 0), false), (53, .istore 4, 2, .inl (4, 0), false), (55, .iload 4, 2, .inl (4, 0), true), (57, .aload_n 2, 1, .inl (2, 0), false), (58, .getfield 148, 3, .inl (2, 6), false), (61, .if_icmp .ge 18, 3, .inl (79, 0), false), (64, .iload_n 3, 1, .inl (3, 0), false), (65, .aload_n 2, 1, .inl (2, 0), false), (66, .iload 4, 2, .inl (4, 0), false), (68, .invokevirtual 127, 3, .inr (.inl (2, 1, mq_No_get)), false), (71, .iadd, 1, .inr (.inr 0), false), (72, .istore_n 3, 1, .inl (3, 0), false), (73, .iinc 4 1, 3, .inl (4, 0), false), (76, .goto (-21), 3, .inl (55, 0), false), (79, .aload_n 0, 1, .inl (0, 0), false), (80, .iload_n 3, 1, .inl (3, 0), false), (81, .aload_n 2, 1, .inl (2, 0), false), (82, .getfield 148, 3, .inl (2, 6), false), (85, .idiv, 1, .inr (.inr 0), false), (86, .invokevirtual 130, 3, .inr (.inl (4, 1, mq_Sc_ask)), false), (89, .ireturn, 1, .inr (.inr 0), false)]
theorem tk_Sc_mean : sc_ok mq_Sc_mean tb_Sc_mean = true := by decide +kernel
theorem lk_Sc_mean_0 : sc_lk tb_Sc_mean 0 = some (.aload_n 0, 1, .inl (0, 0), false) := rfl
theorem lk_Sc_mean_1 : sc_lk tb_Sc_mean 1 = some (.getfield 20, 3, .inl (4, 1), false) := rfl
theorem lk_Sc_mean_4 : sc_lk tb_Sc_mean 4 = some (.iload_n 1, 1, .inl (1, 0), false) := rfl
theorem lk_Sc_mean_5 : sc_lk tb_Sc_mean 5 = some (.invokevirtual 63, 3, .inr (.inl (0, 1, mq_Ch_has)), false) := rfl
theorem lk_Sc_mean_8 : sc_lk tb_Sc_mean 8 = some (.ifCond .ne 5, 3, .inl (13, 0), false) := rfl
theorem lk_Sc_mean_11 : sc_lk tb_Sc_mean 11 = some (.iconst (-1), 1, .inr (.inr 0), false) := rfl
theorem lk_Sc_mean_12 : sc_lk tb_Sc_mean 12 = some (.ireturn, 1, .inr (.inr 0), false) := rfl
theorem lk_Sc_mean_13 : sc_lk tb_Sc_mean 13 = some (.aload_n 0, 1, .inl (0, 0), false) := rfl
theorem lk_Sc_mean_14 : sc_lk tb_Sc_mean 14 = some (.getfield 20, 3, .inl (4, 1), false) := rfl
theorem lk_Sc_mean_17 : sc_lk tb_Sc_mean 17 = some (.getfield 67, 3, .inl (0, 0), false) := rfl
theorem lk_Sc_mean_20 : sc_lk tb_Sc_mean 20 = some (.iload_n 1, 1, .inl (1, 0), false) := rfl
theorem lk_Sc_mean_21 : sc_lk tb_Sc_mean 21 = some (.aaload, 1, .inr (.inr 0), false) := rfl
theorem lk_Sc_mean_22 : sc_lk tb_Sc_mean 22 = some (.astore_n 2, 1, .inl (2, 0), false) := rfl
theorem lk_Sc_mean_23 : sc_lk tb_Sc_mean 23 = some (.aload_n 2, 1, .inl (2, 0), false) := rfl
theorem lk_Sc_mean_24 : sc_lk tb_Sc_mean 24 = some (.getfield 71, 3, .inl (2, 0), false) := rfl
theorem lk_Sc_mean_27 : sc_lk tb_Sc_mean 27 = some (.ifCond .eq 9, 3, .inl (36, 0), false) := rfl
theorem lk_Sc_mean_30 : sc_lk tb_Sc_mean 30 = some (.aload_n 0, 1, .inl (0, 0), false) := rfl
theorem lk_Sc_mean_31 : sc_lk tb_Sc_mean 31 = some (.iconst 3, 1, .inr (.inr 0), false) := rfl
theorem lk_Sc_mean_32 : sc_lk tb_Sc_mean 32 = some (.invokevirtual 79, 3, .inr (.inl (4, 1, mq_Sc_find)), false) := rfl
theorem lk_Sc_mean_35 : sc_lk tb_Sc_mean 35 = some (.ireturn, 1, .inr (.inr 0), false) := rfl
theorem lk_Sc_mean_36 : sc_lk tb_Sc_mean 36 = some (.aload_n 2, 1, .inl (2, 0), false) := rfl
theorem lk_Sc_mean_37 : sc_lk tb_Sc_mean 37 = some (.getfield 148, 3, .inl (2, 6), false) := rfl
theorem lk_Sc_mean_40 : sc_lk tb_Sc_mean 40 = some (.iconst 1, 1, .inr (.inr 0), false) := rfl
theorem lk_Sc_mean_41 : sc_lk tb_Sc_mean 41 = some (.if_icmp .ge 9, 3, .inl (50, 0), false) := rfl
theorem lk_Sc_mean_44 : sc_lk tb_Sc_mean 44 = some (.aload_n 0, 1, .inl (0, 0), false) := rfl
theorem lk_Sc_mean_45 : sc_lk tb_Sc_mean 45 = some (.iconst 4, 1, .inr (.inr 0), false) := rfl
theorem lk_Sc_mean_46 : sc_lk tb_Sc_mean 46 = some (.invokevirtual 79, 3, .inr (.inl (4, 1, mq_Sc_find)), false) := rfl
theorem lk_Sc_mean_49 : sc_lk tb_Sc_mean 49 = some (.ireturn, 1, .inr (.inr 0), false) := rfl
theorem lk_Sc_mean_50 : sc_lk tb_Sc_mean 50 = some (.iconst 0, 1, .inr (.inr 0), false) := rfl
theorem lk_Sc_mean_51 : sc_lk tb_Sc_mean 51 = some (.istore_n 3, 1, .inl (3, 0), false) := rfl
theorem lk_Sc_mean_52 : sc_lk tb_Sc_mean 52 = some (.iconst 0, 1, .inr (.inr 0), false) := rfl
theorem lk_Sc_mean_53 : sc_lk tb_Sc_mean 53 = some (.istore 4, 2, .inl (4, 0), false) := rfl
theorem lk_Sc_mean_55 : sc_lk tb_Sc_mean 55 = some (.iload 4, 2, .inl (4, 0), true) := rfl
theorem lk_Sc_mean_57 : sc_lk tb_Sc_mean 57 = some (.aload_n 2, 1, .inl (2, 0), false) := rfl
theorem lk_Sc_mean_58 : sc_lk tb_Sc_mean 58 = some (.getfield 148, 3, .inl (2, 6), false) := rfl
theorem lk_Sc_mean_61 : sc_lk tb_Sc_mean 61 = some (.if_icmp .ge 18, 3, .inl (79, 0), false) := rfl
theorem lk_Sc_mean_64 : sc_lk tb_Sc_mean 64 = some (.iload_n 3, 1, .inl (3, 0), false) := rfl
theorem lk_Sc_mean_65 : sc_lk tb_Sc_mean 65 = some (.aload_n 2, 1, .inl (2, 0), false) := rfl
theorem lk_Sc_mean_66 : sc_lk tb_Sc_mean 66 = some (.iload 4, 2, .inl (4, 0), false) := rfl
theorem lk_Sc_mean_68 : sc_lk tb_Sc_mean 68 = some (.invokevirtual 127, 3, .inr (.inl (2, 1, mq_No_get)), false) := rfl
theorem lk_Sc_mean_71 : sc_lk tb_Sc_mean 71 = some (.iadd, 1, .inr (.inr 0), false) := rfl
theorem lk_Sc_mean_72 : sc_lk tb_Sc_mean 72 = some (.istore_n 3, 1, .inl (3, 0), false) := rfl
theorem lk_Sc_mean_73 : sc_lk tb_Sc_mean 73 = some (.iinc 4 1, 3, .inl (4, 0), false) := rfl
theorem lk_Sc_mean_76 : sc_lk tb_Sc_mean 76 = some (.goto (-21), 3, .inl (55, 0), false) := rfl
theorem lk_Sc_mean_79 : sc_lk tb_Sc_mean 79 = some (.aload_n 0, 1, .inl (0, 0), false) := rfl
theorem lk_Sc_mean_80 : sc_lk tb_Sc_mean 80 = some (.iload_n 3, 1, .inl (3, 0), false) := rfl
theorem lk_Sc_mean_81 : sc_lk tb_Sc_mean 81 = some (.aload_n 2, 1, .inl (2, 0), false) := rfl
theorem lk_Sc_mean_82 : sc_lk tb_Sc_mean 82 = some (.getfield 148, 3, .inl (2, 6), false) := rfl
theorem lk_Sc_mean_85 : sc_lk tb_Sc_mean 85 = some (.idiv, 1, .inr (.inr 0), false) := rfl
theorem lk_Sc_mean_86 : sc_lk tb_Sc_mean 86 = some (.invokevirtual 130, 3, .inr (.inl (4, 1, mq_Sc_ask)), false) := rfl
theorem lk_Sc_mean_89 : sc_lk tb_Sc_mean 89 = some (.ireturn, 1, .inr (.inr 0), false) := rfl
def tb_Sc_meanSights : sc_T := [(0, .aload_n 0, 1, .inl (0, 0), false), (1, .getfield 20, 3, .inl (4, 1), false), (4, .iconst 2, 1, .inr (.inr 0), false), (5, .invokevirtual 151, 3, .inr (.inl (0, 1, mq_Ch_countKind)), false), (8, .istore_n 1, 1, .inl (1, 0), false), (9, .iload_n 1, 1, .inl (1, 0), false), (10, .iconst 1, 1, .inr (.inr 0), false), (11, .if_icmp .ge 9, 3, .inl (20, 0), false), (14, .aload_n 0, 1, .inl (0, 0), false), (15, .iconst 4, 1, .inr (.inr 0), false), (16, .invokevirtual 79, 3, .inr (.inl (4, 1, mq_Sc_find)), false), (19, .ireturn, 1, .inr (.inr 0), false), (20, .iconst 0, 1, .inr (.inr 0), false), (21, .istore_n 2, 1, .inl (2, 0), false), (22, .iconst 0, 1, .inr (.inr 0), false), (23, .istore_n 3, 1, .inl (3, 0), false), (24, .iload_n 3, 1, .inl (3, 0), true), (25, .aload_n 0, 1, .inl (0, 0), false), (26, .getfield 20, 3, .inl (4, 1), false), (29, .getfield 50, 3, .inl (0, 1), false), (32, .if_icmp .ge 27, 3, .inl (59, 0), false), (35, .iload_n 2, 1, .inl (2, 0), false), (36, .aload_n 0, 1, .inl (0, 0), false), (37, .getfield 20, 3, .inl (4, 1), false), (40, .getfield 67, 3, .inl (0, 0), false), (43, .iload_n 3, 1, .inl (3, 0), false), (44, .aaload, 1, .inr (.inr 0), false), (45, .getfield 100, 3, .inl (2, 4), false), (48, .invokestatic 103, 3, .inr (.inl (100, 1, mq_In_bitCount)), false), (51, .iadd, 1, .inr (.inr 0), false), (52, .istore_n 2, 1, .inl (2, 0), false), (53, .iinc 3 1, 3, .inl (3, 0), false), (56, .goto (-32), 3, .inl (24, 0), false), (59, .iload_n 2, 1, .inl (2, 0), false), (60, .iload_n 1, 1, .inl (1, 0), false), (61, .idiv, 1, .inr (.inr 0), false), (62, .ireturn, 1, .inr (.inr 0), false)]
theorem tk_Sc_meanSights : sc_ok mq_Sc_meanSights tb_Sc_meanSights = true := by decide +kernel
theorem lk_Sc_meanSights_0 : sc_lk tb_Sc_meanSights 0 = some (.aload_n 0, 1, .inl (0, 0), false) := rfl
theorem lk_Sc_meanSights_1 : sc_lk tb_Sc_meanSights 1 = some (.getfield 20, 3, .inl (4, 1), false) := rfl
theorem lk_Sc_meanSights_4 : sc_lk tb_Sc_meanSights 4 = some (.iconst 2, 1, .inr (.inr 0), false) := rfl
theorem lk_Sc_meanSights_5 : sc_lk tb_Sc_meanSights 5 = some (.invokevirtual 151, 3, .inr (.inl (0, 1, mq_Ch_countKind)), false) := rfl
theorem lk_Sc_meanSights_8 : sc_lk tb_Sc_meanSights 8 = some (.istore_n 1, 1, .inl (1, 0), false) := rfl
theorem lk_Sc_meanSights_9 : sc_lk tb_Sc_meanSights 9 = some (.iload_n 1, 1, .inl (1, 0), false) := rfl
theorem lk_Sc_meanSights_10 : sc_lk tb_Sc_meanSights 10 = some (.iconst 1, 1, .inr (.inr 0), false) := rfl
theorem lk_Sc_meanSights_11 : sc_lk tb_Sc_meanSights 11 = some (.if_icmp .ge 9, 3, .inl (20, 0), false) := rfl
theorem lk_Sc_meanSights_14 : sc_lk tb_Sc_meanSights 14 = some (.aload_n 0, 1, .inl (0, 0), false) := rfl
theorem lk_Sc_meanSights_15 : sc_lk tb_Sc_meanSights 15 = some (.iconst 4, 1, .inr (.inr 0), false) := rfl
theorem lk_Sc_meanSights_16 : sc_lk tb_Sc_meanSights 16 = some (.invokevirtual 79, 3, .inr (.inl (4, 1, mq_Sc_find)), false) := rfl
theorem lk_Sc_meanSights_19 : sc_lk tb_Sc_meanSights 19 = some (.ireturn, 1, .inr (.inr 0), false) := rfl
theorem lk_Sc_meanSights_20 : sc_lk tb_Sc_meanSights 20 = some (.iconst 0, 1, .inr (.inr 0), false) := rfl
theorem lk_Sc_meanSights_21 : sc_lk tb_Sc_meanSights 21 = some (.istore_n 2, 1, .inl (2, 0), false) := rfl
theorem lk_Sc_meanSights_22 : sc_lk tb_Sc_meanSights 22 = some (.iconst 0, 1, .inr (.inr 0), false) := rfl
theorem lk_Sc_meanSights_23 : sc_lk tb_Sc_meanSights 23 = some (.istore_n 3, 1, .inl (3, 0), false) := rfl
theorem lk_Sc_meanSights_24 : sc_lk tb_Sc_meanSights 24 = some (.iload_n 3, 1, .inl (3, 0), true) := rfl
theorem lk_Sc_meanSights_25 : sc_lk tb_Sc_meanSights 25 = some (.aload_n 0, 1, .inl (0, 0), false) := rfl
theorem lk_Sc_meanSights_26 : sc_lk tb_Sc_meanSights 26 = some (.getfield 20, 3, .inl (4, 1), false) := rfl
theorem lk_Sc_meanSights_29 : sc_lk tb_Sc_meanSights 29 = some (.getfield 50, 3, .inl (0, 1), false) := rfl
theorem lk_Sc_meanSights_32 : sc_lk tb_Sc_meanSights 32 = some (.if_icmp .ge 27, 3, .inl (59, 0), false) := rfl
theorem lk_Sc_meanSights_35 : sc_lk tb_Sc_meanSights 35 = some (.iload_n 2, 1, .inl (2, 0), false) := rfl
theorem lk_Sc_meanSights_36 : sc_lk tb_Sc_meanSights 36 = some (.aload_n 0, 1, .inl (0, 0), false) := rfl
theorem lk_Sc_meanSights_37 : sc_lk tb_Sc_meanSights 37 = some (.getfield 20, 3, .inl (4, 1), false) := rfl
theorem lk_Sc_meanSights_40 : sc_lk tb_Sc_meanSights 40 = some (.getfield 67, 3, .inl (0, 0), false) := rfl
theorem lk_Sc_meanSights_43 : sc_lk tb_Sc_meanSights 43 = some (.iload_n 3, 1, .inl (3, 0), false) := rfl
theorem lk_Sc_meanSights_44 : sc_lk tb_Sc_meanSights 44 = some (.aaload, 1, .inr (.inr 0), false) := rfl
theorem lk_Sc_meanSights_45 : sc_lk tb_Sc_meanSights 45 = some (.getfield 100, 3, .inl (2, 4), false) := rfl
theorem lk_Sc_meanSights_48 : sc_lk tb_Sc_meanSights 48 = some (.invokestatic 103, 3, .inr (.inl (100, 1, mq_In_bitCount)), false) := rfl
theorem lk_Sc_meanSights_51 : sc_lk tb_Sc_meanSights 51 = some (.iadd, 1, .inr (.inr 0), false) := rfl
theorem lk_Sc_meanSights_52 : sc_lk tb_Sc_meanSights 52 = some (.istore_n 2, 1, .inl (2, 0), false) := rfl
theorem lk_Sc_meanSights_53 : sc_lk tb_Sc_meanSights 53 = some (.iinc 3 1, 3, .inl (3, 0), false) := rfl
theorem lk_Sc_meanSights_56 : sc_lk tb_Sc_meanSights 56 = some (.goto (-32), 3, .inl (24, 0), false) := rfl
theorem lk_Sc_meanSights_59 : sc_lk tb_Sc_meanSights 59 = some (.iload_n 2, 1, .inl (2, 0), false) := rfl
theorem lk_Sc_meanSights_60 : sc_lk tb_Sc_meanSights 60 = some (.iload_n 1, 1, .inl (1, 0), false) := rfl
theorem lk_Sc_meanSights_61 : sc_lk tb_Sc_meanSights 61 = some (.idiv, 1, .inr (.inr 0), false) := rfl
theorem lk_Sc_meanSights_62 : sc_lk tb_Sc_meanSights 62 = some (.ireturn, 1, .inr (.inr 0), false) := rfl
def tb_Sc_best : sc_T := [(0, .aload_n 0, 1, .inl (0, 0), false), (1, .aload_n 0, 1, .inl (0, 0), false), (2, .invokevirtual 154, 3, .inr (.inl (4, 0, mq_Sc_bestOfChart)), false), (5, .invokevirtual 158, 3, .inr (.inl (4, 1, mq_Sc_tellFraction)), false), (8, .ireturn, 1, .inr (.inr 0), false)]
theorem tk_Sc_best : sc_ok mq_Sc_best tb_Sc_best = true := by decide +kernel
theorem lk_Sc_best_0 : sc_lk tb_Sc_best 0 = some (.aload_n 0, 1, .inl (0, 0), false) := rfl
theorem lk_Sc_best_1 : sc_lk tb_Sc_best 1 = some (.aload_n 0, 1, .inl (0, 0), false) := rfl
theorem lk_Sc_best_2 : sc_lk tb_Sc_best 2 = some (.invokevirtual 154, 3, .inr (.inl (4, 0, mq_Sc_bestOfChart)), false) := rfl
theorem lk_Sc_best_5 : sc_lk tb_Sc_best 5 = some (.invokevirtual 158, 3, .inr (.inl (4, 1, mq_Sc_tellFraction)), false) := rfl
theorem lk_Sc_best_8 : sc_lk tb_Sc_best 8 = some (.ireturn, 1, .inr (.inr 0), false) := rfl
def tb_Sc_bestOfChart : sc_T := [(0, .aload_n 0, 1, .inl (0, 0), false), (1, .getfield 10, 3, .inl (4, 0), false), (4, .invokevirtual 165, 3, .inr (.inl (3, 0, mq_Wo_takeChart)), false), (7, .aload_n 0, 1, .inl (0, 0), false), (8, .getfield 10, 3, .inl (4, 0), false), (11, .invokevirtual 189, 3, .inr (.inl (3, 0, mq_Wo_greatest)), false), (14, .lreturn, 1, .inr (.inr 0), false)]
theorem tk_Sc_bestOfChart : sc_ok mq_Sc_bestOfChart tb_Sc_bestOfChart = true := by decide +kernel
theorem lk_Sc_bestOfChart_0 : sc_lk tb_Sc_bestOfChart 0 = some (.aload_n 0, 1, .inl (0, 0), false) := rfl
theorem lk_Sc_bestOfChart_1 : sc_lk tb_Sc_bestOfChart 1 = some (.getfield 10, 3, .inl (4, 0), false) := rfl
theorem lk_Sc_bestOfChart_4 : sc_lk tb_Sc_bestOfChart 4 = some (.invokevirtual 165, 3, .inr (.inl (3, 0, mq_Wo_takeChart)), false) := rfl
theorem lk_Sc_bestOfChart_7 : sc_lk tb_Sc_bestOfChart 7 = some (.aload_n 0, 1, .inl (0, 0), false) := rfl
theorem lk_Sc_bestOfChart_8 : sc_lk tb_Sc_bestOfChart 8 = some (.getfield 10, 3, .inl (4, 0), false) := rfl
theorem lk_Sc_bestOfChart_11 : sc_lk tb_Sc_bestOfChart 11 = some (.invokevirtual 189, 3, .inr (.inl (3, 0, mq_Wo_greatest)), false) := rfl
theorem lk_Sc_bestOfChart_14 : sc_lk tb_Sc_bestOfChart 14 = some (.lreturn, 1, .inr (.inr 0), false) := rfl
def tb_Sc_tellFraction : sc_T := [(0, .aload_n 0, 1, .inl (0, 0), false), (1, .getfield 20, 3, .inl (4, 1), false), (4, .invokevirtual 253, 3, .inr (.inl (0, 0, mq_Ch_wholeWeight)), false), (7, .lstore_n 3, 1, .inl (3, 0), false), (8, .lload_n 1, 1, .inl (1, 0), false), (9, .invokestatic 256, 3, .inr (.inl (100, 1, mq_Ma_abs)), false), (12, .lload_n 3, 1, .inl (3, 0), false), (13, .invokestatic 259, 3, .inr (.inl (100, 2, mq_Sc_commonDivisor)), false), (16, .lstore 5, 2, .inl (5, 0), false), (18, .lload 5, 2, .inl (5, 0), false), (20, .lconst 1, 1, .inr (.inr 1), false), (21, .lcmp, 1, .inr (.inr 0), false), (22, .ifCond .ge 5, 3, .inl (27, 0), false), (25, .iconst 1, 1, .inr (.inr 0), false), (26, .ireturn, 1, .inr (.inr 0), false), (27, .aload_n 0, 1, .inl (0, 0), false), (28, .lload_n 1, 1, .inl (1, 0), false), (29, .lload 5, 2, .inl (5, 0), false), (31, .ldiv, 1, .inr (.inr 0), false), (32, .putfield 236, 3, .inl (4, 8), false), (35, .aload_n 0, 1, .inl (0, 0), false), (36, .lload_n 3, 1, .inl (3, 0), false), (37, .lload 5, 2, .inl (5, 0), false), (39, .ldiv, 1, .inr (.inr 0), false), (40, .putfield 46, 3, .inl (4, 9), false), (43, .iconst 1, 1, .inr (.inr 0), false), (44, .ireturn, 1, .inr (.inr 0), false)]
theorem tk_Sc_tellFraction : sc_ok mq_Sc_tellFraction tb_Sc_tellFraction = true := by decide +kernel
theorem lk_Sc_tellFraction_0 : sc_lk tb_Sc_tellFraction 0 = some (.aload_n 0, 1, .inl (0, 0), false) := rfl
theorem lk_Sc_tellFraction_1 : sc_lk tb_Sc_tellFraction 1 = some (.getfield 20, 3, .inl (4, 1), false) := rfl
theorem lk_Sc_tellFraction_4 : sc_lk tb_Sc_tellFraction 4 = some (.invokevirtual 253, 3, .inr (.inl (0, 0, mq_Ch_wholeWeight)), false) := rfl
theorem lk_Sc_tellFraction_7 : sc_lk tb_Sc_tellFraction 7 = some (.lstore_n 3, 1, .inl (3, 0), false) := rfl
theorem lk_Sc_tellFraction_8 : sc_lk tb_Sc_tellFraction 8 = some (.lload_n 1, 1, .inl (1, 0), false) := rfl
theorem lk_Sc_tellFraction_9 : sc_lk tb_Sc_tellFraction 9 = some (.invokestatic 256, 3, .inr (.inl (100, 1, mq_Ma_abs)), false) := rfl
theorem lk_Sc_tellFraction_12 : sc_lk tb_Sc_tellFraction 12 = some (.lload_n 3, 1, .inl (3, 0), false) := rfl
theorem lk_Sc_tellFraction_13 : sc_lk tb_Sc_tellFraction 13 = some (.invokestatic 259, 3, .inr (.inl (100, 2, mq_Sc_commonDivisor)), false) := rfl
theorem lk_Sc_tellFraction_16 : sc_lk tb_Sc_tellFraction 16 = some (.lstore 5, 2, .inl (5, 0), false) := rfl
theorem lk_Sc_tellFraction_18 : sc_lk tb_Sc_tellFraction 18 = some (.lload 5, 2, .inl (5, 0), false) := rfl
theorem lk_Sc_tellFraction_20 : sc_lk tb_Sc_tellFraction 20 = some (.lconst 1, 1, .inr (.inr 1), false) := rfl
theorem lk_Sc_tellFraction_21 : sc_lk tb_Sc_tellFraction 21 = some (.lcmp, 1, .inr (.inr 0), false) := rfl
theorem lk_Sc_tellFraction_22 : sc_lk tb_Sc_tellFraction 22 = some (.ifCond .ge 5, 3, .inl (27, 0), false) := rfl
theorem lk_Sc_tellFraction_25 : sc_lk tb_Sc_tellFraction 25 = some (.iconst 1, 1, .inr (.inr 0), false) := rfl
theorem lk_Sc_tellFraction_26 : sc_lk tb_Sc_tellFraction 26 = some (.ireturn, 1, .inr (.inr 0), false) := rfl
theorem lk_Sc_tellFraction_27 : sc_lk tb_Sc_tellFraction 27 = some (.aload_n 0, 1, .inl (0, 0), false) := rfl
theorem lk_Sc_tellFraction_28 : sc_lk tb_Sc_tellFraction 28 = some (.lload_n 1, 1, .inl (1, 0), false) := rfl
theorem lk_Sc_tellFraction_29 : sc_lk tb_Sc_tellFraction 29 = some (.lload 5, 2, .inl (5, 0), false) := rfl
theorem lk_Sc_tellFraction_31 : sc_lk tb_Sc_tellFraction 31 = some (.ldiv, 1, .inr (.inr 0), false) := rfl
theorem lk_Sc_tellFraction_32 : sc_lk tb_Sc_tellFraction 32 = some (.putfield 236, 3, .inl (4, 8), false) := rfl
theorem lk_Sc_tellFraction_35 : sc_lk tb_Sc_tellFraction 35 = some (.aload_n 0, 1, .inl (0, 0), false) := rfl
theorem lk_Sc_tellFraction_36 : sc_lk tb_Sc_tellFraction 36 = some (.lload_n 3, 1, .inl (3, 0), false) := rfl
theorem lk_Sc_tellFraction_37 : sc_lk tb_Sc_tellFraction 37 = some (.lload 5, 2, .inl (5, 0), false) := rfl
theorem lk_Sc_tellFraction_39 : sc_lk tb_Sc_tellFraction 39 = some (.ldiv, 1, .inr (.inr 0), false) := rfl
theorem lk_Sc_tellFraction_40 : sc_lk tb_Sc_tellFraction 40 = some (.putfield 46, 3, .inl (4, 9), false) := rfl
theorem lk_Sc_tellFraction_43 : sc_lk tb_Sc_tellFraction 43 = some (.iconst 1, 1, .inr (.inr 0), false) := rfl
theorem lk_Sc_tellFraction_44 : sc_lk tb_Sc_tellFraction 44 = some (.ireturn, 1, .inr (.inr 0), false) := rfl
def tb_Sc_commonDivisor : sc_T := [(0, .lload_n 0, 1, .inl (0, 0), false), (1, .lstore 4, 2, .inl (4, 0), false), (3, .lload_n 2, 1, .inl (2, 0), false), (4, .lstore 6, 2, .inl (6, 0), false), (6, .iconst 0, 1, .inr (.inr 0), false), (7, .istore 8, 2, .inl (8, 0), false), (9, .iload 8, 2, .inl (8, 0), true), (11, .sipush 200, 3, .inr (.inr 0), false), (14, .if_icmp .ge 31, 3, .inl (45, 0), false), (17, .lload 6, 2, .inl (6, 0), false), (19, .lconst 0, 1, .inr (.inr 0), false), (20, .lcmp, 1, .inr (.inr 0), false), (21, .ifCond .eq 24, 3, .inl (45, 0), false), (24, .lload 4, 2, .inl (4, 0), false), (26, .lload 6, 2, .inl (6, 0), false), (28, .lrem, 1, .inr (.inr 0), false), (29, .lstore 9, 2, .inl (9, 0), false), (31, .lload 6, 2, .inl (6, 0), false), (33, .lstore 4, 2, .inl (4, 0), false), (35, .lload 9, 2, .inl (9, 0), false), (37, .lstore 6, 2, .inl (6, 0), false), (39, .iinc 8 1, 3, .inl (8, 0), false), (42, .goto (-33), 3, .inl (9, 0), false), (45, .lload 4, 2, .inl (4, 0), false), (47, .lreturn, 1, .inr (.inr 0), false)]
theorem tk_Sc_commonDivisor : sc_ok mq_Sc_commonDivisor tb_Sc_commonDivisor = true := by decide +kernel
theorem lk_Sc_commonDivisor_0 : sc_lk tb_Sc_commonDivisor 0 = some (.lload_n 0, 1, .inl (0, 0), false) := rfl
theorem lk_Sc_commonDivisor_1 : sc_lk tb_Sc_commonDivisor 1 = some (.lstore 4, 2, .inl (4, 0), false) := rfl
theorem lk_Sc_commonDivisor_3 : sc_lk tb_Sc_commonDivisor 3 = some (.lload_n 2, 1, .inl (2, 0), false) := rfl
theorem lk_Sc_commonDivisor_4 : sc_lk tb_Sc_commonDivisor 4 = some (.lstore 6, 2, .inl (6, 0), false) := rfl
theorem lk_Sc_commonDivisor_6 : sc_lk tb_Sc_commonDivisor 6 = some (.iconst 0, 1, .inr (.inr 0), false) := rfl
theorem lk_Sc_commonDivisor_7 : sc_lk tb_Sc_commonDivisor 7 = some (.istore 8, 2, .inl (8, 0), false) := rfl
theorem lk_Sc_commonDivisor_9 : sc_lk tb_Sc_commonDivisor 9 = some (.iload 8, 2, .inl (8, 0), true) := rfl
theorem lk_Sc_commonDivisor_11 : sc_lk tb_Sc_commonDivisor 11 = some (.sipush 200, 3, .inr (.inr 0), false) := rfl
theorem lk_Sc_commonDivisor_14 : sc_lk tb_Sc_commonDivisor 14 = some (.if_icmp .ge 31, 3, .inl (45, 0), false) := rfl
theorem lk_Sc_commonDivisor_17 : sc_lk tb_Sc_commonDivisor 17 = some (.lload 6, 2, .inl (6, 0), false) := rfl
theorem lk_Sc_commonDivisor_19 : sc_lk tb_Sc_commonDivisor 19 = some (.lconst 0, 1, .inr (.inr 0), false) := rfl
theorem lk_Sc_commonDivisor_20 : sc_lk tb_Sc_commonDivisor 20 = some (.lcmp, 1, .inr (.inr 0), false) := rfl
theorem lk_Sc_commonDivisor_21 : sc_lk tb_Sc_commonDivisor 21 = some (.ifCond .eq 24, 3, .inl (45, 0), false) := rfl
theorem lk_Sc_commonDivisor_24 : sc_lk tb_Sc_commonDivisor 24 = some (.lload 4, 2, .inl (4, 0), false) := rfl
theorem lk_Sc_commonDivisor_26 : sc_lk tb_Sc_commonDivisor 26 = some (.lload 6, 2, .inl (6, 0), false) := rfl
theorem lk_Sc_commonDivisor_28 : sc_lk tb_Sc_commonDivisor 28 = some (.lrem, 1, .inr (.inr 0), false) := rfl
theorem lk_Sc_commonDivisor_29 : sc_lk tb_Sc_commonDivisor 29 = some (.lstore 9, 2, .inl (9, 0), false) := rfl
theorem lk_Sc_commonDivisor_31 : sc_lk tb_Sc_commonDivisor 31 = some (.lload 6, 2, .inl (6, 0), false) := rfl
theorem lk_Sc_commonDivisor_33 : sc_lk tb_Sc_commonDivisor 33 = some (.lstore 4, 2, .inl (4, 0), false) := rfl
theorem lk_Sc_commonDivisor_35 : sc_lk tb_Sc_commonDivisor 35 = some (.lload 9, 2, .inl (9, 0), false) := rfl
theorem lk_Sc_commonDivisor_37 : sc_lk tb_Sc_commonDivisor 37 = some (.lstore 6, 2, .inl (6, 0), false) := rfl
theorem lk_Sc_commonDivisor_39 : sc_lk tb_Sc_commonDivisor 39 = some (.iinc 8 1, 3, .inl (8, 0), false) := rfl
theorem lk_Sc_commonDivisor_42 : sc_lk tb_Sc_commonDivisor 42 = some (.goto (-33), 3, .inl (9, 0), false) := rfl
theorem lk_Sc_commonDivisor_45 : sc_lk tb_Sc_commonDivisor 45 = some (.lload 4, 2, .inl (4, 0), false) := rfl
theorem lk_Sc_commonDivisor_47 : sc_lk tb_Sc_commonDivisor 47 = some (.lreturn, 1, .inr (.inr 0), false) := rfl
def tb_Sc_does : sc_T := [(0, .aload_n 0, 1, .inl (0, 0), false), (1, .getfield 20, 3, .inl (4, 1), false), (4, .iload_n 1, 1, .inl (1, 0), false), (5, .invokevirtual 63, 3, .inr (.inl (0, 1, mq_Ch_has)), false), (8, .ifCond .eq 10, 3, .inl (18, 0), false), (11, .iload_n 2, 1, .inl (2, 0), false), (12, .invokestatic 162, 3, .inr (.inl (100, 1, mq_Sc_isRow)), false), (15, .ifCond .ne 5, 3, .inl (20, 0), false), (18, .iconst (-1), 1, .inr (.inr 0), false), (19, .ireturn, 1, .inr (.inr 0), false), (20, .aload_n 0, 1, .inl (0, 0), false), (21, .getfield 20, 3, .inl (4, 1), false), (24, .getfield 67, 3, .inl (0, 0), false), (27, .iload_n 1, 1, .inl (1, 0), false), (28, .aaload, 1, .inr (.inr 0), false), (29, .astore_n 3, 1, .inl (3, 0), false), (30, .aload_n 3, 1, .inl (3, 0), false), (31, .getfield 71, 3, .inl (2, 0), false), (34, .iconst 2, 1, .inr (.inr 0), false), (35, .if_icmp .eq 9, 3, .inl (44, 0), false), (38, .aload_n 0, 1, .inl (0, 0), false), (39, .iconst 3, 1, .inr (.inr 0), false), (40, .invokevirtual 79, 3, .inr (.inl (4, 1, mq_Sc_find)), false), (43, .ireturn, 1, .inr (.inr 0), false), (44, .aload_n 0, 1, .inl (0, 0), false), (45, .getfield 33, 3, .inl (4, 4), false), (48, .iload_n 2, 1, .inl (2, 0), false), (49, .iaload, 1, .inr (.inr 0), false), (50, .iconst (-1), 1, .inr (.inr 0), false), (51, .if_icmp .ne 9, 3, .inl (60, 0), false), (54, .aload_n 0, 1, .inl (0, 0), false), (55, .iconst 1, 1, .inr (.inr 0), false), (56, .invokevirtual 79, 3, .inr (.inl (4, 1, mq_Sc_find)), false), (59, .ireturn, 1, .inr (.inr 0), false), (60, .aload_n 0, 1, .inl (0, 0), false), (61, .getfield 33, 3, .inl (4, 4), false), (64, .iload_n 2, 1, .inl (2, 0), false), (65, .iaload, 1, .inr (.inr 0), false), (66, .iload_n 1, 1, .inl (1, 0), false), (67, .if_icmp .ge 9, 3, .inl (76, 0), false), (70, .aload_n 0, 1, .inl (0, 0), false), (71, .iconst 5, 1, .inr (.inr 0), false), (72, .invokevirtual 79, 3, .inr (.inl (4, 1, mq_Sc_find)), false), (75, .ireturn, 1, .inr (.inr 0), false), (76, .aload_n 0, 1, .inl (0, 0), false), (77, .getfield 10, 3, .inl (4, 0), false), (80, .invokevirtual 165, 3, .inr (.inl (3, 0, mq_Wo_takeChart)), false), (83, .aload_n 0, 1, .inl (0, 0), false), (84, .getfield 10, 3, .inl (4, 0), false), (87, .invokevirtual 168, 3, .inr (.inl (3, 0, mq_Wo_layOut)), false), (90, .aload_n 0, 1, .inl (0, 0), false), (91, .getfield 10, 3, .inl (4, 0), false), (94, .iload_n 1, 1, .inl (1, 0), false), (95, .aload_n 0, 1, .inl (0, 0), false), (96, .getfield 30, 3, .inl (4, 3), false), (99, .iload_n 2, 1, .inl (2, 0), false), (100, .aaload, 1, .inr (.inr 0), false), (101, .invokevirtual 171, 3, .inr (.inl (3, 2, mq_Wo_keyOfRow)), false), (104, .istore 4, 2, .inl (4, 0), false), (106, .iload 4, 2, .inl (4, 0), false), (108, .bipush (-9), 2, .inr (.inr 0), false), (110, .if_icmp .ne 9, 3, .inl (119, 0), false), (113, .aload_n 0, 1, .inl (0, 0), false), (114, .iconst 2, 1, .inr (.inr 0), false), (115, .invokevirtual 79, 3, .inr (.inl (4, 1, mq_Sc_find)), false), (118, .ireturn, 1, .inr (.inr 0), false), (119, .aload_n 3, 1, .inl (3, 0), false), (120, .getfield 133, 3, .inl (2, 3), false), (123, .bipush (-9), 2, .inr (.inr 0), false), (125, .if_icmp .eq 10, 3, .inl (135, 0), false), (128, .aload_n 3, 1, .inl (3, 0), false), (129, .getfield 133, 3, .inl (2, 3), false), (132, .goto 13, 3, .inl (145, 0), false), (135, .aload_n 0, 1, .inl (0, 0), false), (136, .getfield 10, 3, .inl (4, 0), false), (139, .iload_n 1, 1, .inl (1, 0), false), (140, .iload 4, 2, .inl (4, 0), false), (142, .invokevirtual 175, 3, .inr (.inl (3, 2, mq_Wo_decide)), false), (145, .ireturn, 1, .inr (.inr 0), false)]
theorem tk_Sc_does : sc_ok mq_Sc_does tb_Sc_does = true := by decide +kernel
theorem lk_Sc_does_0 : sc_lk tb_Sc_does 0 = some (.aload_n 0, 1, .inl (0, 0), false) := rfl
theorem lk_Sc_does_1 : sc_lk tb_Sc_does 1 = some (.getfield 20, 3, .inl (4, 1), false) := rfl
theorem lk_Sc_does_4 : sc_lk tb_Sc_does 4 = some (.iload_n 1, 1, .inl (1, 0), false) := rfl
theorem lk_Sc_does_5 : sc_lk tb_Sc_does 5 = some (.invokevirtual 63, 3, .inr (.inl (0, 1, mq_Ch_has)), false) := rfl
theorem lk_Sc_does_8 : sc_lk tb_Sc_does 8 = some (.ifCond .eq 10, 3, .inl (18, 0), false) := rfl
theorem lk_Sc_does_11 : sc_lk tb_Sc_does 11 = some (.iload_n 2, 1, .inl (2, 0), false) := rfl
theorem lk_Sc_does_12 : sc_lk tb_Sc_does 12 = some (.invokestatic 162, 3, .inr (.inl (100, 1, mq_Sc_isRow)), false) := rfl
theorem lk_Sc_does_15 : sc_lk tb_Sc_does 15 = some (.ifCond .ne 5, 3, .inl (20, 0), false) := rfl
theorem lk_Sc_does_18 : sc_lk tb_Sc_does 18 = some (.iconst (-1), 1, .inr (.inr 0), false) := rfl
theorem lk_Sc_does_19 : sc_lk tb_Sc_does 19 = some (.ireturn, 1, .inr (.inr 0), false) := rfl
theorem lk_Sc_does_20 : sc_lk tb_Sc_does 20 = some (.aload_n 0, 1, .inl (0, 0), false) := rfl
theorem lk_Sc_does_21 : sc_lk tb_Sc_does 21 = some (.getfield 20, 3, .inl (4, 1), false) := rfl
theorem lk_Sc_does_24 : sc_lk tb_Sc_does 24 = some (.getfield 67, 3, .inl (0, 0), false) := rfl
theorem lk_Sc_does_27 : sc_lk tb_Sc_does 27 = some (.iload_n 1, 1, .inl (1, 0), false) := rfl
theorem lk_Sc_does_28 : sc_lk tb_Sc_does 28 = some (.aaload, 1, .inr (.inr 0), false) := rfl
theorem lk_Sc_does_29 : sc_lk tb_Sc_does 29 = some (.astore_n 3, 1, .inl (3, 0), false) := rfl
theorem lk_Sc_does_30 : sc_lk tb_Sc_does 30 = some (.aload_n 3, 1, .inl (3, 0), false) := rfl
theorem lk_Sc_does_31 : sc_lk tb_Sc_does 31 = some (.getfield 71, 3, .inl (2, 0), false) := rfl
theorem lk_Sc_does_34 : sc_lk tb_Sc_does 34 = some (.iconst 2, 1, .inr (.inr 0), false) := rfl
theorem lk_Sc_does_35 : sc_lk tb_Sc_does 35 = some (.if_icmp .eq 9, 3, .inl (44, 0), false) := rfl
theorem lk_Sc_does_38 : sc_lk tb_Sc_does 38 = some (.aload_n 0, 1, .inl (0, 0), false) := rfl
theorem lk_Sc_does_39 : sc_lk tb_Sc_does 39 = some (.iconst 3, 1, .inr (.inr 0), false) := rfl
theorem lk_Sc_does_40 : sc_lk tb_Sc_does 40 = some (.invokevirtual 79, 3, .inr (.inl (4, 1, mq_Sc_find)), false) := rfl
theorem lk_Sc_does_43 : sc_lk tb_Sc_does 43 = some (.ireturn, 1, .inr (.inr 0), false) := rfl
theorem lk_Sc_does_44 : sc_lk tb_Sc_does 44 = some (.aload_n 0, 1, .inl (0, 0), false) := rfl
theorem lk_Sc_does_45 : sc_lk tb_Sc_does 45 = some (.getfield 33, 3, .inl (4, 4), false) := rfl
theorem lk_Sc_does_48 : sc_lk tb_Sc_does 48 = some (.iload_n 2, 1, .inl (2, 0), false) := rfl
theorem lk_Sc_does_49 : sc_lk tb_Sc_does 49 = some (.iaload, 1, .inr (.inr 0), false) := rfl
theorem lk_Sc_does_50 : sc_lk tb_Sc_does 50 = some (.iconst (-1), 1, .inr (.inr 0), false) := rfl
theorem lk_Sc_does_51 : sc_lk tb_Sc_does 51 = some (.if_icmp .ne 9, 3, .inl (60, 0), false) := rfl
theorem lk_Sc_does_54 : sc_lk tb_Sc_does 54 = some (.aload_n 0, 1, .inl (0, 0), false) := rfl
theorem lk_Sc_does_55 : sc_lk tb_Sc_does 55 = some (.iconst 1, 1, .inr (.inr 0), false) := rfl
theorem lk_Sc_does_56 : sc_lk tb_Sc_does 56 = some (.invokevirtual 79, 3, .inr (.inl (4, 1, mq_Sc_find)), false) := rfl
theorem lk_Sc_does_59 : sc_lk tb_Sc_does 59 = some (.ireturn, 1, .inr (.inr 0), false) := rfl
theorem lk_Sc_does_60 : sc_lk tb_Sc_does 60 = some (.aload_n 0, 1, .inl (0, 0), false) := rfl
theorem lk_Sc_does_61 : sc_lk tb_Sc_does 61 = some (.getfield 33, 3, .inl (4, 4), false) := rfl
theorem lk_Sc_does_64 : sc_lk tb_Sc_does 64 = some (.iload_n 2, 1, .inl (2, 0), false) := rfl
theorem lk_Sc_does_65 : sc_lk tb_Sc_does 65 = some (.iaload, 1, .inr (.inr 0), false) := rfl
theorem lk_Sc_does_66 : sc_lk tb_Sc_does 66 = some (.iload_n 1, 1, .inl (1, 0), false) := rfl
theorem lk_Sc_does_67 : sc_lk tb_Sc_does 67 = some (.if_icmp .ge 9, 3, .inl (76, 0), false) := rfl
theorem lk_Sc_does_70 : sc_lk tb_Sc_does 70 = some (.aload_n 0, 1, .inl (0, 0), false) := rfl
theorem lk_Sc_does_71 : sc_lk tb_Sc_does 71 = some (.iconst 5, 1, .inr (.inr 0), false) := rfl
theorem lk_Sc_does_72 : sc_lk tb_Sc_does 72 = some (.invokevirtual 79, 3, .inr (.inl (4, 1, mq_Sc_find)), false) := rfl
theorem lk_Sc_does_75 : sc_lk tb_Sc_does 75 = some (.ireturn, 1, .inr (.inr 0), false) := rfl
theorem lk_Sc_does_76 : sc_lk tb_Sc_does 76 = some (.aload_n 0, 1, .inl (0, 0), false) := rfl
theorem lk_Sc_does_77 : sc_lk tb_Sc_does 77 = some (.getfield 10, 3, .inl (4, 0), false) := rfl
theorem lk_Sc_does_80 : sc_lk tb_Sc_does 80 = some (.invokevirtual 165, 3, .inr (.inl (3, 0, mq_Wo_takeChart)), false) := rfl
theorem lk_Sc_does_83 : sc_lk tb_Sc_does 83 = some (.aload_n 0, 1, .inl (0, 0), false) := rfl
theorem lk_Sc_does_84 : sc_lk tb_Sc_does 84 = some (.getfield 10, 3, .inl (4, 0), false) := rfl
theorem lk_Sc_does_87 : sc_lk tb_Sc_does 87 = some (.invokevirtual 168, 3, .inr (.inl (3, 0, mq_Wo_layOut)), false) := rfl
theorem lk_Sc_does_90 : sc_lk tb_Sc_does 90 = some (.aload_n 0, 1, .inl (0, 0), false) := rfl
theorem lk_Sc_does_91 : sc_lk tb_Sc_does 91 = some (.getfield 10, 3, .inl (4, 0), false) := rfl
theorem lk_Sc_does_94 : sc_lk tb_Sc_does 94 = some (.iload_n 1, 1, .inl (1, 0), false) := rfl
theorem lk_Sc_does_95 : sc_lk tb_Sc_does 95 = some (.aload_n 0, 1, .inl (0, 0), false) := rfl
theorem lk_Sc_does_96 : sc_lk tb_Sc_does 96 = some (.getfield 30, 3, .inl (4, 3), false) := rfl
theorem lk_Sc_does_99 : sc_lk tb_Sc_does 99 = some (.iload_n 2, 1, .inl (2, 0), false) := rfl
theorem lk_Sc_does_100 : sc_lk tb_Sc_does 100 = some (.aaload, 1, .inr (.inr 0), false) := rfl
theorem lk_Sc_does_101 : sc_lk tb_Sc_does 101 = some (.invokevirtual 171, 3, .inr (.inl (3, 2, mq_Wo_keyOfRow)), false) := rfl
theorem lk_Sc_does_104 : sc_lk tb_Sc_does 104 = some (.istore 4, 2, .inl (4, 0), false) := rfl
theorem lk_Sc_does_106 : sc_lk tb_Sc_does 106 = some (.iload 4, 2, .inl (4, 0), false) := rfl
theorem lk_Sc_does_108 : sc_lk tb_Sc_does 108 = some (.bipush (-9), 2, .inr (.inr 0), false) := rfl
theorem lk_Sc_does_110 : sc_lk tb_Sc_does 110 = some (.if_icmp .ne 9, 3, .inl (119, 0), false) := rfl
theorem lk_Sc_does_113 : sc_lk tb_Sc_does 113 = some (.aload_n 0, 1, .inl (0, 0), false) := rfl
theorem lk_Sc_does_114 : sc_lk tb_Sc_does 114 = some (.iconst 2, 1, .inr (.inr 0), false) := rfl
theorem lk_Sc_does_115 : sc_lk tb_Sc_does 115 = some (.invokevirtual 79, 3, .inr (.inl (4, 1, mq_Sc_find)), false) := rfl
theorem lk_Sc_does_118 : sc_lk tb_Sc_does 118 = some (.ireturn, 1, .inr (.inr 0), false) := rfl
theorem lk_Sc_does_119 : sc_lk tb_Sc_does 119 = some (.aload_n 3, 1, .inl (3, 0), false) := rfl
theorem lk_Sc_does_120 : sc_lk tb_Sc_does 120 = some (.getfield 133, 3, .inl (2, 3), false) := rfl
theorem lk_Sc_does_123 : sc_lk tb_Sc_does 123 = some (.bipush (-9), 2, .inr (.inr 0), false) := rfl
theorem lk_Sc_does_125 : sc_lk tb_Sc_does 125 = some (.if_icmp .eq 10, 3, .inl (135, 0), false) := rfl
theorem lk_Sc_does_128 : sc_lk tb_Sc_does 128 = some (.aload_n 3, 1, .inl (3, 0), false) := rfl
theorem lk_Sc_does_129 : sc_lk tb_Sc_does 129 = some (.getfield 133, 3, .inl (2, 3), false) := rfl
theorem lk_Sc_does_132 : sc_lk tb_Sc_does 132 = some (.goto 13, 3, .inl (145, 0), false) := rfl
theorem lk_Sc_does_135 : sc_lk tb_Sc_does 135 = some (.aload_n 0, 1, .inl (0, 0), false) := rfl
theorem lk_Sc_does_136 : sc_lk tb_Sc_does 136 = some (.getfield 10, 3, .inl (4, 0), false) := rfl
theorem lk_Sc_does_139 : sc_lk tb_Sc_does 139 = some (.iload_n 1, 1, .inl (1, 0), false) := rfl
theorem lk_Sc_does_140 : sc_lk tb_Sc_does 140 = some (.iload 4, 2, .inl (4, 0), false) := rfl
theorem lk_Sc_does_142 : sc_lk tb_Sc_does 142 = some (.invokevirtual 175, 3, .inr (.inl (3, 2, mq_Wo_decide)), false) := rfl
theorem lk_Sc_does_145 : sc_lk tb_Sc_does 145 = some (.ireturn, 1, .inr (.inr 0), false) := rfl
def tb_Sc_isRow : sc_T := [(0, .iload_n 0, 1, .inl (0, 0), false), (1, .ifCond .lt 12, 3, .inl (13, 0), false), (4, .iload_n 0, 1, .inl (0, 0), false), (5, .iconst 4, 1, .inr (.inr 0), false), (6, .if_icmp .ge 7, 3, .inl (13, 0), false), (9, .iconst 1, 1, .inr (.inr 0), false), (10, .goto 4, 3, .inl (14, 0), false), (13, .iconst 0, 1, .inr (.inr 0), false), (14, .ireturn, 1, .inr (.inr 0), false)]
theorem tk_Sc_isRow : sc_ok mq_Sc_isRow tb_Sc_isRow = true := by decide +kernel
theorem lk_Sc_isRow_0 : sc_lk tb_Sc_isRow 0 = some (.iload_n 0, 1, .inl (0, 0), false) := rfl
theorem lk_Sc_isRow_1 : sc_lk tb_Sc_isRow 1 = some (.ifCond .lt 12, 3, .inl (13, 0), false) := rfl
theorem lk_Sc_isRow_4 : sc_lk tb_Sc_isRow 4 = some (.iload_n 0, 1, .inl (0, 0), false) := rfl
theorem lk_Sc_isRow_5 : sc_lk tb_Sc_isRow 5 = some (.iconst 4, 1, .inr (.inr 0), false) := rfl
theorem lk_Sc_isRow_6 : sc_lk tb_Sc_isRow 6 = some (.if_icmp .ge 7, 3, .inl (13, 0), false) := rfl
theorem lk_Sc_isRow_9 : sc_lk tb_Sc_isRow 9 = some (.iconst 1, 1, .inr (.inr 0), false) := rfl
theorem lk_Sc_isRow_10 : sc_lk tb_Sc_isRow 10 = some (.goto 4, 3, .inl (14, 0), false) := rfl
theorem lk_Sc_isRow_13 : sc_lk tb_Sc_isRow 13 = some (.iconst 0, 1, .inr (.inr 0), false) := rfl
theorem lk_Sc_isRow_14 : sc_lk tb_Sc_isRow 14 = some (.ireturn, 1, .inr (.inr 0), false) := rfl
def tb_Sc_bestForgetting : sc_T := [(0, .aload_n 0, 1, .inl (0, 0), false), (1, .getfield 24, 3, .inl (4, 2), false), (4, .aload_n 0, 1, .inl (0, 0), false), (5, .getfield 20, 3, .inl (4, 1), false), (8, .invokevirtual 178, 3, .inr (.inl (1, 1, mq_Fo_countPlans)), false), (11, .sipush 512, 3, .inr (.inr 0), false), (14, .if_icmp .le 6, 3, .inl (20, 0), false), (17, .bipush (-6), 2, .inr (.inr 0), false), (19, .ireturn, 1, .inr (.inr 0), false), (20, .aload_n 0, 1, .inl (0, 0), false), (21, .aload_n 0, 1, .inl (0, 0), false), (22, .getfield 24, 3, .inl (4, 2), false), (25, .aload_n 0, 1, .inl (0, 0), false), (26, .getfield 10, 3, .inl (4, 0), false), (29, .invokevirtual 182, 3, .inr (.inl (1, 1, mq_Fo_greatest)), false), (32, .invokevirtual 158, 3, .inr (.inl (4, 1, mq_Sc_tellFraction)), false), (35, .ireturn, 1, .inr (.inr 0), false)]
theorem tk_Sc_bestForgetting : sc_ok mq_Sc_bestForgetting tb_Sc_bestForgetting = true := by decide +kernel
theorem lk_Sc_bestForgetting_0 : sc_lk tb_Sc_bestForgetting 0 = some (.aload_n 0, 1, .inl (0, 0), false) := rfl
theorem lk_Sc_bestForgetting_1 : sc_lk tb_Sc_bestForgetting 1 = some (.getfield 24, 3, .inl (4, 2), false) := rfl
theorem lk_Sc_bestForgetting_4 : sc_lk tb_Sc_bestForgetting 4 = some (.aload_n 0, 1, .inl (0, 0), false) := rfl
theorem lk_Sc_bestForgetting_5 : sc_lk tb_Sc_bestForgetting 5 = some (.getfield 20, 3, .inl (4, 1), false) := rfl
theorem lk_Sc_bestForgetting_8 : sc_lk tb_Sc_bestForgetting 8 = some (.invokevirtual 178, 3, .inr (.inl (1, 1, mq_Fo_countPlans)), false) := rfl
theorem lk_Sc_bestForgetting_11 : sc_lk tb_Sc_bestForgetting 11 = some (.sipush 512, 3, .inr (.inr 0), false) := rfl
theorem lk_Sc_bestForgetting_14 : sc_lk tb_Sc_bestForgetting 14 = some (.if_icmp .le 6, 3, .inl (20, 0), false) := rfl
theorem lk_Sc_bestForgetting_17 : sc_lk tb_Sc_bestForgetting 17 = some (.bipush (-6), 2, .inr (.inr 0), false) := rfl
theorem lk_Sc_bestForgetting_19 : sc_lk tb_Sc_bestForgetting 19 = some (.ireturn, 1, .inr (.inr 0), false) := rfl
theorem lk_Sc_bestForgetting_20 : sc_lk tb_Sc_bestForgetting 20 = some (.aload_n 0, 1, .inl (0, 0), false) := rfl
theorem lk_Sc_bestForgetting_21 : sc_lk tb_Sc_bestForgetting 21 = some (.aload_n 0, 1, .inl (0, 0), false) := rfl
theorem lk_Sc_bestForgetting_22 : sc_lk tb_Sc_bestForgetting 22 = some (.getfield 24, 3, .inl (4, 2), false) := rfl
theorem lk_Sc_bestForgetting_25 : sc_lk tb_Sc_bestForgetting 25 = some (.aload_n 0, 1, .inl (0, 0), false) := rfl
theorem lk_Sc_bestForgetting_26 : sc_lk tb_Sc_bestForgetting 26 = some (.getfield 10, 3, .inl (4, 0), false) := rfl
theorem lk_Sc_bestForgetting_29 : sc_lk tb_Sc_bestForgetting 29 = some (.invokevirtual 182, 3, .inr (.inl (1, 1, mq_Fo_greatest)), false) := rfl
theorem lk_Sc_bestForgetting_32 : sc_lk tb_Sc_bestForgetting 32 = some (.invokevirtual 158, 3, .inr (.inl (4, 1, mq_Sc_tellFraction)), false) := rfl
theorem lk_Sc_bestForgetting_35 : sc_lk tb_Sc_bestForgetting 35 = some (.ireturn, 1, .inr (.inr 0), false) := rfl
def tb_Sc_lost : sc_T := [(0, .aload_n 0, 1, .inl (0, 0), false), (1, .getfield 24, 3, .inl (4, 2), false), (4, .aload_n 0, 1, .inl (0, 0), false), (5, .getfield 20, 3, .inl (4, 1), false), (8, .invokevirtual 178, 3, .inr (.inl (1, 1, mq_Fo_countPlans)), false), (11, .sipush 512, 3, .inr (.inr 0), false), (14, .if_icmp .le 6, 3, .inl (20, 0), false), (17, .bipush (-6), 2, .inr (.inr 0), false), (19, .ireturn, 1, .inr (.inr 0), false), (20, .aload_n 0, 1, .inl (0, 0), false), (21, .aload_n 0, 1, .inl (0, 0), false), (22, .invokevirtual 154, 3, .inr (.inl (4, 0, mq_Sc_bestOfChart)), false), (25, .aload_n 0, 1, .inl (0, 0), false), (26, .getfield 24, 3, .inl (4, 2), false), (29, .aload_n 0, 1, .inl (0, 0), false), (30, .getfield 10, 3, .inl (4, 0), false), (33, .invokevirtual 182, 3, .inr (.inl (1, 1, mq_Fo_greatest)), false), (36, .lsub, 1, .inr (.inr 0), false), (37, .invokevirtual 158, 3, .inr (.inl (4, 1, mq_Sc_tellFraction)), false), (40, .ireturn, 1, .inr (.inr 0), false)]
theorem tk_Sc_lost : sc_ok mq_Sc_lost tb_Sc_lost = true := by decide +kernel
theorem lk_Sc_lost_0 : sc_lk tb_Sc_lost 0 = some (.aload_n 0, 1, .inl (0, 0), false) := rfl
theorem lk_Sc_lost_1 : sc_lk tb_Sc_lost 1 = some (.getfield 24, 3, .inl (4, 2), false) := rfl
theorem lk_Sc_lost_4 : sc_lk tb_Sc_lost 4 = some (.aload_n 0, 1, .inl (0, 0), false) := rfl
theorem lk_Sc_lost_5 : sc_lk tb_Sc_lost 5 = some (.getfield 20, 3, .inl (4, 1), false) := rfl
theorem lk_Sc_lost_8 : sc_lk tb_Sc_lost 8 = some (.invokevirtual 178, 3, .inr (.inl (1, 1, mq_Fo_countPlans)), false) := rfl
theorem lk_Sc_lost_11 : sc_lk tb_Sc_lost 11 = some (.sipush 512, 3, .inr (.inr 0), false) := rfl
theorem lk_Sc_lost_14 : sc_lk tb_Sc_lost 14 = some (.if_icmp .le 6, 3, .inl (20, 0), false) := rfl
theorem lk_Sc_lost_17 : sc_lk tb_Sc_lost 17 = some (.bipush (-6), 2, .inr (.inr 0), false) := rfl
theorem lk_Sc_lost_19 : sc_lk tb_Sc_lost 19 = some (.ireturn, 1, .inr (.inr 0), false) := rfl
theorem lk_Sc_lost_20 : sc_lk tb_Sc_lost 20 = some (.aload_n 0, 1, .inl (0, 0), false) := rfl
theorem lk_Sc_lost_21 : sc_lk tb_Sc_lost 21 = some (.aload_n 0, 1, .inl (0, 0), false) := rfl
theorem lk_Sc_lost_22 : sc_lk tb_Sc_lost 22 = some (.invokevirtual 154, 3, .inr (.inl (4, 0, mq_Sc_bestOfChart)), false) := rfl
theorem lk_Sc_lost_25 : sc_lk tb_Sc_lost 25 = some (.aload_n 0, 1, .inl (0, 0), false) := rfl
theorem lk_Sc_lost_26 : sc_lk tb_Sc_lost 26 = some (.getfield 24, 3, .inl (4, 2), false) := rfl
theorem lk_Sc_lost_29 : sc_lk tb_Sc_lost 29 = some (.aload_n 0, 1, .inl (0, 0), false) := rfl
theorem lk_Sc_lost_30 : sc_lk tb_Sc_lost 30 = some (.getfield 10, 3, .inl (4, 0), false) := rfl
theorem lk_Sc_lost_33 : sc_lk tb_Sc_lost 33 = some (.invokevirtual 182, 3, .inr (.inl (1, 1, mq_Fo_greatest)), false) := rfl
theorem lk_Sc_lost_36 : sc_lk tb_Sc_lost 36 = some (.lsub, 1, .inr (.inr 0), false) := rfl
theorem lk_Sc_lost_37 : sc_lk tb_Sc_lost 37 = some (.invokevirtual 158, 3, .inr (.inl (4, 1, mq_Sc_tellFraction)), false) := rfl
theorem lk_Sc_lost_40 : sc_lk tb_Sc_lost 40 = some (.ireturn, 1, .inr (.inr 0), false) := rfl
def tb_Sc_worthOf : sc_T := [(0, .aload_n 0, 1, .inl (0, 0), false), (1, .iload_n 1, 1, .inl (1, 0), false), (2, .iload_n 2, 1, .inl (2, 0), false), (3, .invokevirtual 97, 3, .inr (.inl (4, 2, mq_Sc_refuseSight)), false), (6, .istore_n 3, 1, .inl (3, 0), false), (7, .iload_n 3, 1, .inl (3, 0), false), (8, .ifCond .eq 5, 3, .inl (13, 0), false), (11, .iload_n 3, 1, .inl (3, 0), false), (12, .ireturn, 1, .inr (.inr 0), false), (13, .aload_n 0, 1, .inl (0, 0), false), (14, .invokevirtual 154, 3, .inr (.inl (4, 0, mq_Sc_bestOfChart)), false), (17, .lstore 4, 2, .inl (4, 0), false), (19, .aload_n 0, 1, .inl (0, 0), false), (20, .getfield 10, 3, .inl (4, 0), false), (23, .invokevirtual 165, 3, .inr (.inl (3, 0, mq_Wo_takeChart)), false), (26, .aload_n 0, 1, .inl (0, 0), false), (27, .getfield 10, 3, .inl (4, 0), false), (30, .iload_n 1, 1, .inl (1, 0), false), (31, .iload_n 2, 1, .inl (2, 0), false), (32, .invokevirtual 186, 3, .inr (.inl (3, 2, mq_Wo_supposeSight)), false), (35, .aload_n 0, 1, .inl (0, 0), false), (36, .aload_n 0, 1, .inl (0, 0), false), (37, .getfield 10, 3, .inl (4, 0), false), (40, .invokevirtual 189, 3, .inr (.inl (3, 0, mq_Wo_greatest)), false), (43, .lload 4, 2, .inl (4, 0), false), (45, .lsub, 1, .inr (.inr 0), false), (46, .invokevirtual 158, 3, .inr (.inl (4, 1, mq_Sc_tellFraction)), false), (49, .ireturn, 1, .inr (.inr 0), false)]
theorem tk_Sc_worthOf : sc_ok mq_Sc_worthOf tb_Sc_worthOf = true := by decide +kernel
theorem lk_Sc_worthOf_0 : sc_lk tb_Sc_worthOf 0 = some (.aload_n 0, 1, .inl (0, 0), false) := rfl
theorem lk_Sc_worthOf_1 : sc_lk tb_Sc_worthOf 1 = some (.iload_n 1, 1, .inl (1, 0), false) := rfl
theorem lk_Sc_worthOf_2 : sc_lk tb_Sc_worthOf 2 = some (.iload_n 2, 1, .inl (2, 0), false) := rfl
theorem lk_Sc_worthOf_3 : sc_lk tb_Sc_worthOf 3 = some (.invokevirtual 97, 3, .inr (.inl (4, 2, mq_Sc_refuseSight)), false) := rfl
theorem lk_Sc_worthOf_6 : sc_lk tb_Sc_worthOf 6 = some (.istore_n 3, 1, .inl (3, 0), false) := rfl
theorem lk_Sc_worthOf_7 : sc_lk tb_Sc_worthOf 7 = some (.iload_n 3, 1, .inl (3, 0), false) := rfl
theorem lk_Sc_worthOf_8 : sc_lk tb_Sc_worthOf 8 = some (.ifCond .eq 5, 3, .inl (13, 0), false) := rfl
theorem lk_Sc_worthOf_11 : sc_lk tb_Sc_worthOf 11 = some (.iload_n 3, 1, .inl (3, 0), false) := rfl
theorem lk_Sc_worthOf_12 : sc_lk tb_Sc_worthOf 12 = some (.ireturn, 1, .inr (.inr 0), false) := rfl
theorem lk_Sc_worthOf_13 : sc_lk tb_Sc_worthOf 13 = some (.aload_n 0, 1, .inl (0, 0), false) := rfl
theorem lk_Sc_worthOf_14 : sc_lk tb_Sc_worthOf 14 = some (.invokevirtual 154, 3, .inr (.inl (4, 0, mq_Sc_bestOfChart)), false) := rfl
theorem lk_Sc_worthOf_17 : sc_lk tb_Sc_worthOf 17 = some (.lstore 4, 2, .inl (4, 0), false) := rfl
theorem lk_Sc_worthOf_19 : sc_lk tb_Sc_worthOf 19 = some (.aload_n 0, 1, .inl (0, 0), false) := rfl
theorem lk_Sc_worthOf_20 : sc_lk tb_Sc_worthOf 20 = some (.getfield 10, 3, .inl (4, 0), false) := rfl
theorem lk_Sc_worthOf_23 : sc_lk tb_Sc_worthOf 23 = some (.invokevirtual 165, 3, .inr (.inl (3, 0, mq_Wo_takeChart)), false) := rfl
theorem lk_Sc_worthOf_26 : sc_lk tb_Sc_worthOf 26 = some (.aload_n 0, 1, .inl (0, 0), false) := rfl
theorem lk_Sc_worthOf_27 : sc_lk tb_Sc_worthOf 27 = some (.getfield 10, 3, .inl (4, 0), false) := rfl
theorem lk_Sc_worthOf_30 : sc_lk tb_Sc_worthOf 30 = some (.iload_n 1, 1, .inl (1, 0), false) := rfl
theorem lk_Sc_worthOf_31 : sc_lk tb_Sc_worthOf 31 = some (.iload_n 2, 1, .inl (2, 0), false) := rfl
theorem lk_Sc_worthOf_32 : sc_lk tb_Sc_worthOf 32 = some (.invokevirtual 186, 3, .inr (.inl (3, 2, mq_Wo_supposeSight)), false) := rfl
theorem lk_Sc_worthOf_35 : sc_lk tb_Sc_worthOf 35 = some (.aload_n 0, 1, .inl (0, 0), false) := rfl
theorem lk_Sc_worthOf_36 : sc_lk tb_Sc_worthOf 36 = some (.aload_n 0, 1, .inl (0, 0), false) := rfl
theorem lk_Sc_worthOf_37 : sc_lk tb_Sc_worthOf 37 = some (.getfield 10, 3, .inl (4, 0), false) := rfl
theorem lk_Sc_worthOf_40 : sc_lk tb_Sc_worthOf 40 = some (.invokevirtual 189, 3, .inr (.inl (3, 0, mq_Wo_greatest)), false) := rfl
theorem lk_Sc_worthOf_43 : sc_lk tb_Sc_worthOf 43 = some (.lload 4, 2, .inl (4, 0), false) := rfl
theorem lk_Sc_worthOf_45 : sc_lk tb_Sc_worthOf 45 = some (.lsub, 1, .inr (.inr 0), false) := rfl
theorem lk_Sc_worthOf_46 : sc_lk tb_Sc_worthOf 46 = some (.invokevirtual 158, 3, .inr (.inl (4, 1, mq_Sc_tellFraction)), false) := rfl
theorem lk_Sc_worthOf_49 : sc_lk tb_Sc_worthOf 49 = some (.ireturn, 1, .inr (.inr 0), false) := rfl
def tb_Sc_knowing : sc_T := [(0, .aload_n 0, 1, .inl (0, 0), false), (1, .invokevirtual 154, 3, .inr (.inl (4, 0, mq_Sc_bestOfChart)), false), (4, .lstore_n 1, 1, .inl (1, 0), false), (5, .aload_n 0, 1, .inl (0, 0), false), (6, .getfield 10, 3, .inl (4, 0), false), (9, .invokevirtual 165, 3, .inr (.inl (3, 0, mq_Wo_takeChart)), false), (12, .aload_n 0, 1, .inl (0, 0), false), (13, .getfield 10, 3, .inl (4, 0), false), (16, .invokevirtual 191, 3, .inr (.inl (3, 0, mq_Wo_supposeAllSights)), false), (19, .aload_n 0, 1, .inl (0, 0), false), (20, .aload_n 0, 1, .inl (0, 0), false), (21, .getfield 10, 3, .inl (4, 0), false), (24, .invokevirtual 189, 3, .inr (.inl (3, 0, mq_Wo_greatest)), false), (27, .lload_n 1, 1, .inl (1, 0), false), (28, .lsub, 1, .inr (.inr 0), false), (29, .invokevirtual 158, 3, .inr (.inl (4, 1, mq_Sc_tellFraction)), false), (32, .ireturn, 1, .inr (.inr 0), false)]
theorem tk_Sc_knowing : sc_ok mq_Sc_knowing tb_Sc_knowing = true := by decide +kernel
theorem lk_Sc_knowing_0 : sc_lk tb_Sc_knowing 0 = some (.aload_n 0, 1, .inl (0, 0), false) := rfl
theorem lk_Sc_knowing_1 : sc_lk tb_Sc_knowing 1 = some (.invokevirtual 154, 3, .inr (.inl (4, 0, mq_Sc_bestOfChart)), false) := rfl
theorem lk_Sc_knowing_4 : sc_lk tb_Sc_knowing 4 = some (.lstore_n 1, 1, .inl (1, 0), false) := rfl
theorem lk_Sc_knowing_5 : sc_lk tb_Sc_knowing 5 = some (.aload_n 0, 1, .inl (0, 0), false) := rfl
theorem lk_Sc_knowing_6 : sc_lk tb_Sc_knowing 6 = some (.getfield 10, 3, .inl (4, 0), false) := rfl
theorem lk_Sc_knowing_9 : sc_lk tb_Sc_knowing 9 = some (.invokevirtual 165, 3, .inr (.inl (3, 0, mq_Wo_takeChart)), false) := rfl
theorem lk_Sc_knowing_12 : sc_lk tb_Sc_knowing 12 = some (.aload_n 0, 1, .inl (0, 0), false) := rfl
theorem lk_Sc_knowing_13 : sc_lk tb_Sc_knowing 13 = some (.getfield 10, 3, .inl (4, 0), false) := rfl
theorem lk_Sc_knowing_16 : sc_lk tb_Sc_knowing 16 = some (.invokevirtual 191, 3, .inr (.inl (3, 0, mq_Wo_supposeAllSights)), false) := rfl
theorem lk_Sc_knowing_19 : sc_lk tb_Sc_knowing 19 = some (.aload_n 0, 1, .inl (0, 0), false) := rfl
theorem lk_Sc_knowing_20 : sc_lk tb_Sc_knowing 20 = some (.aload_n 0, 1, .inl (0, 0), false) := rfl
theorem lk_Sc_knowing_21 : sc_lk tb_Sc_knowing 21 = some (.getfield 10, 3, .inl (4, 0), false) := rfl
theorem lk_Sc_knowing_24 : sc_lk tb_Sc_knowing 24 = some (.invokevirtual 189, 3, .inr (.inl (3, 0, mq_Wo_greatest)), false) := rfl
theorem lk_Sc_knowing_27 : sc_lk tb_Sc_knowing 27 = some (.lload_n 1, 1, .inl (1, 0), false) := rfl
theorem lk_Sc_knowing_28 : sc_lk tb_Sc_knowing 28 = some (.lsub, 1, .inr (.inr 0), false) := rfl
theorem lk_Sc_knowing_29 : sc_lk tb_Sc_knowing 29 = some (.invokevirtual 158, 3, .inr (.inl (4, 1, mq_Sc_tellFraction)), false) := rfl
theorem lk_Sc_knowing_32 : sc_lk tb_Sc_knowing 32 = some (.ireturn, 1, .inr (.inr 0), false) := rfl
def tb_Sc_inHand : sc_T := [(0, .aload_n 0, 1, .inl (0, 0), false), (1, .getfield 20, 3, .inl (4, 1), false), (4, .iload_n 1, 1, .inl (1, 0), false), (5, .invokevirtual 63, 3, .inr (.inl (0, 1, mq_Ch_has)), false), (8, .ifCond .ne 5, 3, .inl (13, 0), false), (11, .iconst (-1), 1, .inr (.inr 0), false), (12, .ireturn, 1, .inr (.inr 0), false), (13, .aload_n 0, 1, .inl (0, 0), false), (14, .getfield 20, 3, .inl (4, 1), false), (17, .getfield 67, 3, .inl (0, 0), false), (20, .iload_n 1, 1, .inl (1, 0), false), (21, .aaload, 1, .inr (.inr 0), false), (22, .getfield 71, 3, .inl (2, 0), false), (25, .iconst 1, 1, .inr (.inr 0), false), (26, .if_icmp .eq 9, 3, .inl (35, 0), false), (29, .aload_n 0, 1, .inl (0, 0), false), (30, .iconst 3, 1, .inr (.inr 0), false), (31, .invokevirtual 79, 3, .inr (.inl (4, 1, mq_Sc_find)), false), (34, .ireturn, 1, .inr (.inr 0), false), (35, .aload_n 0, 1, .inl (0, 0), false), (36, .invokevirtual 154, 3, .inr (.inl (4, 0, mq_Sc_bestOfChart)), false), (39, .lstore_n 2, 1, .inl (2, 0), false), (40, .aload_n 0, 1, .inl (0, 0), false), (41, .getfield 10, 3, .inl (4, 0), false), (44, .invokevirtual 165, 3, .inr (.inl (3, 0, mq_Wo_takeChart)), false), (47, .aload_n 0, 1, .inl (0, 0), false), (48, .getfield 10, 3, .inl (4, 0), false), (51, .iload_n 1, 1, .inl (1, 0), false), (52, .invokevirtual 194, 3, .inr (.inl (3, 1, mq_Wo_supposeInHand)), false), (55, .aload_n 0, 1, .inl (0, 0), false), (56, .aload_n 0, 1, .inl (0, 0), false), (57, .getfield 10, 3, .inl (4, 0), false), (60, .invokevirtual 189, 3, .inr (.inl (3, 0, mq_Wo_greatest)), false), (63, .lload_n 2, 1, .inl (2, 0), false), (64, .lsub, 1, .inr (.inr 0), false), (65, .invokevirtual 158, 3, .inr (.inl (4, 1, mq_Sc_tellFraction)), false), (68, .ireturn, 1, .inr (.inr 0), false)]
theorem tk_Sc_inHand : sc_ok mq_Sc_inHand tb_Sc_inHand = true := by decide +kernel
theorem lk_Sc_inHand_0 : sc_lk tb_Sc_inHand 0 = some (.aload_n 0, 1, .inl (0, 0), false) := rfl
theorem lk_Sc_inHand_1 : sc_lk tb_Sc_inHand 1 = some (.getfield 20, 3, .inl (4, 1), false) := rfl
theorem lk_Sc_inHand_4 : sc_lk tb_Sc_inHand 4 = some (.iload_n 1, 1, .inl (1, 0), false) := rfl
theorem lk_Sc_inHand_5 : sc_lk tb_Sc_inHand 5 = some (.invokevirtual 63, 3, .inr (.inl (0, 1, mq_Ch_has)), false) := rfl
theorem lk_Sc_inHand_8 : sc_lk tb_Sc_inHand 8 = some (.ifCond .ne 5, 3, .inl (13, 0), false) := rfl
theorem lk_Sc_inHand_11 : sc_lk tb_Sc_inHand 11 = some (.iconst (-1), 1, .inr (.inr 0), false) := rfl
theorem lk_Sc_inHand_12 : sc_lk tb_Sc_inHand 12 = some (.ireturn, 1, .inr (.inr 0), false) := rfl
theorem lk_Sc_inHand_13 : sc_lk tb_Sc_inHand 13 = some (.aload_n 0, 1, .inl (0, 0), false) := rfl
theorem lk_Sc_inHand_14 : sc_lk tb_Sc_inHand 14 = some (.getfield 20, 3, .inl (4, 1), false) := rfl
theorem lk_Sc_inHand_17 : sc_lk tb_Sc_inHand 17 = some (.getfield 67, 3, .inl (0, 0), false) := rfl
theorem lk_Sc_inHand_20 : sc_lk tb_Sc_inHand 20 = some (.iload_n 1, 1, .inl (1, 0), false) := rfl
theorem lk_Sc_inHand_21 : sc_lk tb_Sc_inHand 21 = some (.aaload, 1, .inr (.inr 0), false) := rfl
theorem lk_Sc_inHand_22 : sc_lk tb_Sc_inHand 22 = some (.getfield 71, 3, .inl (2, 0), false) := rfl
theorem lk_Sc_inHand_25 : sc_lk tb_Sc_inHand 25 = some (.iconst 1, 1, .inr (.inr 0), false) := rfl
theorem lk_Sc_inHand_26 : sc_lk tb_Sc_inHand 26 = some (.if_icmp .eq 9, 3, .inl (35, 0), false) := rfl
theorem lk_Sc_inHand_29 : sc_lk tb_Sc_inHand 29 = some (.aload_n 0, 1, .inl (0, 0), false) := rfl
theorem lk_Sc_inHand_30 : sc_lk tb_Sc_inHand 30 = some (.iconst 3, 1, .inr (.inr 0), false) := rfl
theorem lk_Sc_inHand_31 : sc_lk tb_Sc_inHand 31 = some (.invokevirtual 79, 3, .inr (.inl (4, 1, mq_Sc_find)), false) := rfl
theorem lk_Sc_inHand_34 : sc_lk tb_Sc_inHand 34 = some (.ireturn, 1, .inr (.inr 0), false) := rfl
theorem lk_Sc_inHand_35 : sc_lk tb_Sc_inHand 35 = some (.aload_n 0, 1, .inl (0, 0), false) := rfl
theorem lk_Sc_inHand_36 : sc_lk tb_Sc_inHand 36 = some (.invokevirtual 154, 3, .inr (.inl (4, 0, mq_Sc_bestOfChart)), false) := rfl
theorem lk_Sc_inHand_39 : sc_lk tb_Sc_inHand 39 = some (.lstore_n 2, 1, .inl (2, 0), false) := rfl
theorem lk_Sc_inHand_40 : sc_lk tb_Sc_inHand 40 = some (.aload_n 0, 1, .inl (0, 0), false) := rfl
theorem lk_Sc_inHand_41 : sc_lk tb_Sc_inHand 41 = some (.getfield 10, 3, .inl (4, 0), false) := rfl
theorem lk_Sc_inHand_44 : sc_lk tb_Sc_inHand 44 = some (.invokevirtual 165, 3, .inr (.inl (3, 0, mq_Wo_takeChart)), false) := rfl
theorem lk_Sc_inHand_47 : sc_lk tb_Sc_inHand 47 = some (.aload_n 0, 1, .inl (0, 0), false) := rfl
theorem lk_Sc_inHand_48 : sc_lk tb_Sc_inHand 48 = some (.getfield 10, 3, .inl (4, 0), false) := rfl
theorem lk_Sc_inHand_51 : sc_lk tb_Sc_inHand 51 = some (.iload_n 1, 1, .inl (1, 0), false) := rfl
theorem lk_Sc_inHand_52 : sc_lk tb_Sc_inHand 52 = some (.invokevirtual 194, 3, .inr (.inl (3, 1, mq_Wo_supposeInHand)), false) := rfl
theorem lk_Sc_inHand_55 : sc_lk tb_Sc_inHand 55 = some (.aload_n 0, 1, .inl (0, 0), false) := rfl
theorem lk_Sc_inHand_56 : sc_lk tb_Sc_inHand 56 = some (.aload_n 0, 1, .inl (0, 0), false) := rfl
theorem lk_Sc_inHand_57 : sc_lk tb_Sc_inHand 57 = some (.getfield 10, 3, .inl (4, 0), false) := rfl
theorem lk_Sc_inHand_60 : sc_lk tb_Sc_inHand 60 = some (.invokevirtual 189, 3, .inr (.inl (3, 0, mq_Wo_greatest)), false) := rfl
theorem lk_Sc_inHand_63 : sc_lk tb_Sc_inHand 63 = some (.lload_n 2, 1, .inl (2, 0), false) := rfl
theorem lk_Sc_inHand_64 : sc_lk tb_Sc_inHand 64 = some (.lsub, 1, .inr (.inr 0), false) := rfl
theorem lk_Sc_inHand_65 : sc_lk tb_Sc_inHand 65 = some (.invokevirtual 158, 3, .inr (.inl (4, 1, mq_Sc_tellFraction)), false) := rfl
theorem lk_Sc_inHand_68 : sc_lk tb_Sc_inHand 68 = some (.ireturn, 1, .inr (.inr 0), false) := rfl
def tb_Sc_needless : sc_T := [(0, .aload_n 0, 1, .inl (0, 0), false), (1, .iload_n 1, 1, .inl (1, 0), false), (2, .iload_n 2, 1, .inl (2, 0), false), (3, .invokevirtual 108, 3, .inr (.inl (4, 2, mq_Sc_refuseBlind)), false), (6, .istore_n 3, 1, .inl (3, 0), false), (7, .iload_n 3, 1, .inl (3, 0), false), (8, .ifCond .eq 5, 3, .inl (13, 0), false), (11, .iload_n 3, 1, .inl (3, 0), false), (12, .ireturn, 1, .inr (.inr 0), false), (13, .aload_n 0, 1, .inl (0, 0), false), (14, .invokevirtual 154, 3, .inr (.inl (4, 0, mq_Sc_bestOfChart)), false), (17, .lstore 4, 2, .inl (4, 0), false), (19, .aload_n 0, 1, .inl (0, 0), false), (20, .getfield 10, 3, .inl (4, 0), false), (23, .invokevirtual 165, 3, .inr (.inl (3, 0, mq_Wo_takeChart)), false), (26, .aload_n 0, 1, .inl (0, 0), false), (27, .getfield 10, 3, .inl (4, 0), false), (30, .iload_n 1, 1, .inl (1, 0), false), (31, .iload_n 2, 1, .inl (2, 0), false), (32, .invokevirtual 198, 3, .inr (.inl (3, 2, mq_Wo_supposeBlind)), false), (35, .aload_n 0, 1, .inl (0, 0), false), (36, .getfield 10, 3, .inl (4, 0), false), (39, .invokevirtual 189, 3, .inr (.inl (3, 0, mq_Wo_greatest)), false), (42, .lload 4, 2, .inl (4, 0), false), (44, .lcmp, 1, .inr (.inr 0), false), (45, .ifCond .ne 7, 3, .inl (52, 0), false), (48, .iconst 1, 1, .inr (.inr 0), false), (49, .goto 4, 3, .inl (53, 0), false), (52, .iconst 0, 1, .inr (.inr 0), false), (53, .ireturn, 1, .inr (.inr 0), false)]
theorem tk_Sc_needless : sc_ok mq_Sc_needless tb_Sc_needless = true := by decide +kernel
theorem lk_Sc_needless_0 : sc_lk tb_Sc_needless 0 = some (.aload_n 0, 1, .inl (0, 0), false) := rfl
theorem lk_Sc_needless_1 : sc_lk tb_Sc_needless 1 = some (.iload_n 1, 1, .inl (1, 0), false) := rfl
theorem lk_Sc_needless_2 : sc_lk tb_Sc_needless 2 = some (.iload_n 2, 1, .inl (2, 0), false) := rfl
theorem lk_Sc_needless_3 : sc_lk tb_Sc_needless 3 = some (.invokevirtual 108, 3, .inr (.inl (4, 2, mq_Sc_refuseBlind)), false) := rfl
theorem lk_Sc_needless_6 : sc_lk tb_Sc_needless 6 = some (.istore_n 3, 1, .inl (3, 0), false) := rfl
theorem lk_Sc_needless_7 : sc_lk tb_Sc_needless 7 = some (.iload_n 3, 1, .inl (3, 0), false) := rfl
theorem lk_Sc_needless_8 : sc_lk tb_Sc_needless 8 = some (.ifCond .eq 5, 3, .inl (13, 0), false) := rfl
theorem lk_Sc_needless_11 : sc_lk tb_Sc_needless 11 = some (.iload_n 3, 1, .inl (3, 0), false) := rfl
theorem lk_Sc_needless_12 : sc_lk tb_Sc_needless 12 = some (.ireturn, 1, .inr (.inr 0), false) := rfl
theorem lk_Sc_needless_13 : sc_lk tb_Sc_needless 13 = some (.aload_n 0, 1, .inl (0, 0), false) := rfl
theorem lk_Sc_needless_14 : sc_lk tb_Sc_needless 14 = some (.invokevirtual 154, 3, .inr (.inl (4, 0, mq_Sc_bestOfChart)), false) := rfl
theorem lk_Sc_needless_17 : sc_lk tb_Sc_needless 17 = some (.lstore 4, 2, .inl (4, 0), false) := rfl
theorem lk_Sc_needless_19 : sc_lk tb_Sc_needless 19 = some (.aload_n 0, 1, .inl (0, 0), false) := rfl
theorem lk_Sc_needless_20 : sc_lk tb_Sc_needless 20 = some (.getfield 10, 3, .inl (4, 0), false) := rfl
theorem lk_Sc_needless_23 : sc_lk tb_Sc_needless 23 = some (.invokevirtual 165, 3, .inr (.inl (3, 0, mq_Wo_takeChart)), false) := rfl
theorem lk_Sc_needless_26 : sc_lk tb_Sc_needless 26 = some (.aload_n 0, 1, .inl (0, 0), false) := rfl
theorem lk_Sc_needless_27 : sc_lk tb_Sc_needless 27 = some (.getfield 10, 3, .inl (4, 0), false) := rfl
theorem lk_Sc_needless_30 : sc_lk tb_Sc_needless 30 = some (.iload_n 1, 1, .inl (1, 0), false) := rfl
theorem lk_Sc_needless_31 : sc_lk tb_Sc_needless 31 = some (.iload_n 2, 1, .inl (2, 0), false) := rfl
theorem lk_Sc_needless_32 : sc_lk tb_Sc_needless 32 = some (.invokevirtual 198, 3, .inr (.inl (3, 2, mq_Wo_supposeBlind)), false) := rfl
theorem lk_Sc_needless_35 : sc_lk tb_Sc_needless 35 = some (.aload_n 0, 1, .inl (0, 0), false) := rfl
theorem lk_Sc_needless_36 : sc_lk tb_Sc_needless 36 = some (.getfield 10, 3, .inl (4, 0), false) := rfl
theorem lk_Sc_needless_39 : sc_lk tb_Sc_needless 39 = some (.invokevirtual 189, 3, .inr (.inl (3, 0, mq_Wo_greatest)), false) := rfl
theorem lk_Sc_needless_42 : sc_lk tb_Sc_needless 42 = some (.lload 4, 2, .inl (4, 0), false) := rfl
theorem lk_Sc_needless_44 : sc_lk tb_Sc_needless 44 = some (.lcmp, 1, .inr (.inr 0), false) := rfl
theorem lk_Sc_needless_45 : sc_lk tb_Sc_needless 45 = some (.ifCond .ne 7, 3, .inl (52, 0), false) := rfl
theorem lk_Sc_needless_48 : sc_lk tb_Sc_needless 48 = some (.iconst 1, 1, .inr (.inr 0), false) := rfl
theorem lk_Sc_needless_49 : sc_lk tb_Sc_needless 49 = some (.goto 4, 3, .inl (53, 0), false) := rfl
theorem lk_Sc_needless_52 : sc_lk tb_Sc_needless 52 = some (.iconst 0, 1, .inr (.inr 0), false) := rfl
theorem lk_Sc_needless_53 : sc_lk tb_Sc_needless 53 = some (.ireturn, 1, .inr (.inr 0), false) := rfl
def tb_Sc_span : sc_T := [(0, .aload_n 0, 1, .inl (0, 0), false), (1, .getfield 20, 3, .inl (4, 1), false), (4, .iload_n 1, 1, .inl (1, 0), false), (5, .invokevirtual 63, 3, .inr (.inl (0, 1, mq_Ch_has)), false), (8, .ifCond .ne 5, 3, .inl (13, 0), false), (11, .iconst (-1), 1, .inr (.inr 0), false), (12, .ireturn, 1, .inr (.inr 0), false), (13, .aload_n 0, 1, .inl (0, 0), false), (14, .getfield 20, 3, .inl (4, 1), false), (17, .getfield 67, 3, .inl (0, 0), false), (20, .iload_n 1, 1, .inl (1, 0), false), (21, .aaload, 1, .inr (.inr 0), false), (22, .astore 4, 2, .inl (4, 0), false), (24, .aload 4, 2, .inl (4, 0), false), (26, .getfield 71, 3, .inl (2, 0), false), (29, .ifCond .eq 9, 3, .inl (38, 0), false), (32, .aload_n 0, 1, .inl (0, 0), false), (33, .iconst 3, 1, .inr (.inr 0), false), (34, .invokevirtual 79, 3, .inr (.inl (4, 1, mq_Sc_find)), false), (37, .ireturn, 1, .inr (.inr 0), false), (38, .aload 4, 2, .inl (4, 0), false), (40, .iload_n 2, 1, .inl (2, 0), false), (41, .invokevirtual 118, 3, .inr (.inl (2, 1, mq_No_hasPlace)), false), (44, .ifCond .ne 9, 3, .inl (53, 0), false), (47, .aload_n 0, 1, .inl (0, 0), false), (48, .iconst 2, 1, .inr (.inr 0), false), (49, .invokevirtual 79, 3, .inr (.inl (4, 1, mq_Sc_find)), false), (52, .ireturn, 1, .inr (.inr 0), false), (53, .aload_n 0, 1, .inl (0, 0), false), (54, .getfield 20, 3, .inl (4, 1), false), (57, .invokevirtual 201, 3, .inr (.inl (0, 0, mq_Ch_firstFree)), false), (60, .istore 5, 2, .inl (5, 0), false), (62, .iload 5, 2, .inl (5, 0), false), (64, .bipush (-9), 2, .inr (.inr 0), false), (66, .if_icmp .ne 6, 3, .inl (72, 0), false), (69, .bipush (-4), 2, .inr (.inr 0), false), (71, .ireturn, 1, .inr (.inr 0), false), (72, .aload_n 0, 1, .inl (0, 0), false), (73, .getfield 10, 3, .inl (4, 0), false), (76, .invokevirtual 165, 3, .inr (.inl (3, 0, mq_Wo_takeChart)), false), (79, .aload_n 0, 1, .inl (0, 0), false), (80, .getfield 10, 3, .inl (4, 0), false), (83, .invokevirtual 168, 3, .inr (.inl (3, 0, mq_Wo_layOut)), false), (86, .aload_n 0, 1, .inl (0, 0), false), (87, .aload_n 0, 1, .inl (0, 0), false), (88, .getfield 10, 3, .inl (4, 0), false), (91, .iload 5, 2, .inl (5, 0), false), (93, .aload 4, 2, .inl (4, 0), false), (95, .iload_n 2, 1, .inl (2, 0), false), (96, .iload_n 3, 1, .inl (3, 0), false), (97, .ifCond .eq 7, 3, .inl (104, 0), false), (100, .iconst 1, 1, .inr (.inr 0), false), (101, .goto 4, 3, .inl (105, 0), false), (104, .iconst (-1), 1, .inr (.inr 0), false), (105, .invokevirtual 204, 3, .inr (.inl (3, 4, mq_Wo_farthest)), false), (108, .invokevirtual 130, 3, .inr (.inl (4, 1, mq_Sc_ask)), false), (111, .ireturn, 1, .inr (.inr 0), false)]
theorem tk_Sc_span : sc_ok mq_Sc_span tb_Sc_span = true := by decide +kernel
theorem lk_Sc_span_0 : sc_lk tb_Sc_span 0 = some (.aload_n 0, 1, .inl (0, 0), false) := rfl
theorem lk_Sc_span_1 : sc_lk tb_Sc_span 1 = some (.getfield 20, 3, .inl (4, 1), false) := rfl
theorem lk_Sc_span_4 : sc_lk tb_Sc_span 4 = some (.iload_n 1, 1, .inl (1, 0), false) := rfl
theorem lk_Sc_span_5 : sc_lk tb_Sc_span 5 = some (.invokevirtual 63, 3, .inr (.inl (0, 1, mq_Ch_has)), false) := rfl
theorem lk_Sc_span_8 : sc_lk tb_Sc_span 8 = some (.ifCond .ne 5, 3, .inl (13, 0), false) := rfl
theorem lk_Sc_span_11 : sc_lk tb_Sc_span 11 = some (.iconst (-1), 1, .inr (.inr 0), false) := rfl
theorem lk_Sc_span_12 : sc_lk tb_Sc_span 12 = some (.ireturn, 1, .inr (.inr 0), false) := rfl
theorem lk_Sc_span_13 : sc_lk tb_Sc_span 13 = some (.aload_n 0, 1, .inl (0, 0), false) := rfl
theorem lk_Sc_span_14 : sc_lk tb_Sc_span 14 = some (.getfield 20, 3, .inl (4, 1), false) := rfl
theorem lk_Sc_span_17 : sc_lk tb_Sc_span 17 = some (.getfield 67, 3, .inl (0, 0), false) := rfl
theorem lk_Sc_span_20 : sc_lk tb_Sc_span 20 = some (.iload_n 1, 1, .inl (1, 0), false) := rfl
theorem lk_Sc_span_21 : sc_lk tb_Sc_span 21 = some (.aaload, 1, .inr (.inr 0), false) := rfl
theorem lk_Sc_span_22 : sc_lk tb_Sc_span 22 = some (.astore 4, 2, .inl (4, 0), false) := rfl
theorem lk_Sc_span_24 : sc_lk tb_Sc_span 24 = some (.aload 4, 2, .inl (4, 0), false) := rfl
theorem lk_Sc_span_26 : sc_lk tb_Sc_span 26 = some (.getfield 71, 3, .inl (2, 0), false) := rfl
theorem lk_Sc_span_29 : sc_lk tb_Sc_span 29 = some (.ifCond .eq 9, 3, .inl (38, 0), false) := rfl
theorem lk_Sc_span_32 : sc_lk tb_Sc_span 32 = some (.aload_n 0, 1, .inl (0, 0), false) := rfl
theorem lk_Sc_span_33 : sc_lk tb_Sc_span 33 = some (.iconst 3, 1, .inr (.inr 0), false) := rfl
theorem lk_Sc_span_34 : sc_lk tb_Sc_span 34 = some (.invokevirtual 79, 3, .inr (.inl (4, 1, mq_Sc_find)), false) := rfl
theorem lk_Sc_span_37 : sc_lk tb_Sc_span 37 = some (.ireturn, 1, .inr (.inr 0), false) := rfl
theorem lk_Sc_span_38 : sc_lk tb_Sc_span 38 = some (.aload 4, 2, .inl (4, 0), false) := rfl
theorem lk_Sc_span_40 : sc_lk tb_Sc_span 40 = some (.iload_n 2, 1, .inl (2, 0), false) := rfl
theorem lk_Sc_span_41 : sc_lk tb_Sc_span 41 = some (.invokevirtual 118, 3, .inr (.inl (2, 1, mq_No_hasPlace)), false) := rfl
theorem lk_Sc_span_44 : sc_lk tb_Sc_span 44 = some (.ifCond .ne 9, 3, .inl (53, 0), false) := rfl
theorem lk_Sc_span_47 : sc_lk tb_Sc_span 47 = some (.aload_n 0, 1, .inl (0, 0), false) := rfl
theorem lk_Sc_span_48 : sc_lk tb_Sc_span 48 = some (.iconst 2, 1, .inr (.inr 0), false) := rfl
theorem lk_Sc_span_49 : sc_lk tb_Sc_span 49 = some (.invokevirtual 79, 3, .inr (.inl (4, 1, mq_Sc_find)), false) := rfl
theorem lk_Sc_span_52 : sc_lk tb_Sc_span 52 = some (.ireturn, 1, .inr (.inr 0), false) := rfl
theorem lk_Sc_span_53 : sc_lk tb_Sc_span 53 = some (.aload_n 0, 1, .inl (0, 0), false) := rfl
theorem lk_Sc_span_54 : sc_lk tb_Sc_span 54 = some (.getfield 20, 3, .inl (4, 1), false) := rfl
theorem lk_Sc_span_57 : sc_lk tb_Sc_span 57 = some (.invokevirtual 201, 3, .inr (.inl (0, 0, mq_Ch_firstFree)), false) := rfl
theorem lk_Sc_span_60 : sc_lk tb_Sc_span 60 = some (.istore 5, 2, .inl (5, 0), false) := rfl
theorem lk_Sc_span_62 : sc_lk tb_Sc_span 62 = some (.iload 5, 2, .inl (5, 0), false) := rfl
theorem lk_Sc_span_64 : sc_lk tb_Sc_span 64 = some (.bipush (-9), 2, .inr (.inr 0), false) := rfl
theorem lk_Sc_span_66 : sc_lk tb_Sc_span 66 = some (.if_icmp .ne 6, 3, .inl (72, 0), false) := rfl
theorem lk_Sc_span_69 : sc_lk tb_Sc_span 69 = some (.bipush (-4), 2, .inr (.inr 0), false) := rfl
theorem lk_Sc_span_71 : sc_lk tb_Sc_span 71 = some (.ireturn, 1, .inr (.inr 0), false) := rfl
theorem lk_Sc_span_72 : sc_lk tb_Sc_span 72 = some (.aload_n 0, 1, .inl (0, 0), false) := rfl
theorem lk_Sc_span_73 : sc_lk tb_Sc_span 73 = some (.getfield 10, 3, .inl (4, 0), false) := rfl
theorem lk_Sc_span_76 : sc_lk tb_Sc_span 76 = some (.invokevirtual 165, 3, .inr (.inl (3, 0, mq_Wo_takeChart)), false) := rfl
theorem lk_Sc_span_79 : sc_lk tb_Sc_span 79 = some (.aload_n 0, 1, .inl (0, 0), false) := rfl
theorem lk_Sc_span_80 : sc_lk tb_Sc_span 80 = some (.getfield 10, 3, .inl (4, 0), false) := rfl
theorem lk_Sc_span_83 : sc_lk tb_Sc_span 83 = some (.invokevirtual 168, 3, .inr (.inl (3, 0, mq_Wo_layOut)), false) := rfl
theorem lk_Sc_span_86 : sc_lk tb_Sc_span 86 = some (.aload_n 0, 1, .inl (0, 0), false) := rfl
theorem lk_Sc_span_87 : sc_lk tb_Sc_span 87 = some (.aload_n 0, 1, .inl (0, 0), false) := rfl
theorem lk_Sc_span_88 : sc_lk tb_Sc_span 88 = some (.getfield 10, 3, .inl (4, 0), false) := rfl
theorem lk_Sc_span_91 : sc_lk tb_Sc_span 91 = some (.iload 5, 2, .inl (5, 0), false) := rfl
theorem lk_Sc_span_93 : sc_lk tb_Sc_span 93 = some (.aload 4, 2, .inl (4, 0), false) := rfl
theorem lk_Sc_span_95 : sc_lk tb_Sc_span 95 = some (.iload_n 2, 1, .inl (2, 0), false) := rfl
theorem lk_Sc_span_96 : sc_lk tb_Sc_span 96 = some (.iload_n 3, 1, .inl (3, 0), false) := rfl
theorem lk_Sc_span_97 : sc_lk tb_Sc_span 97 = some (.ifCond .eq 7, 3, .inl (104, 0), false) := rfl
theorem lk_Sc_span_100 : sc_lk tb_Sc_span 100 = some (.iconst 1, 1, .inr (.inr 0), false) := rfl
theorem lk_Sc_span_101 : sc_lk tb_Sc_span 101 = some (.goto 4, 3, .inl (105, 0), false) := rfl
theorem lk_Sc_span_104 : sc_lk tb_Sc_span 104 = some (.iconst (-1), 1, .inr (.inr 0), false) := rfl
theorem lk_Sc_span_105 : sc_lk tb_Sc_span 105 = some (.invokevirtual 204, 3, .inr (.inl (3, 4, mq_Wo_farthest)), false) := rfl
theorem lk_Sc_span_108 : sc_lk tb_Sc_span 108 = some (.invokevirtual 130, 3, .inr (.inl (4, 1, mq_Sc_ask)), false) := rfl
theorem lk_Sc_span_111 : sc_lk tb_Sc_span 111 = some (.ireturn, 1, .inr (.inr 0), false) := rfl
def tb_Sc_chance : sc_T := [(0, .aload_n 0, 1, .inl (0, 0), false), (1, .getfield 20, 3, .inl (4, 1), false), (4, .iload_n 1, 1, .inl (1, 0), false), (5, .invokevirtual 63, 3, .inr (.inl (0, 1, mq_Ch_has)), false), (8, .ifCond .ne 5, 3, .inl (13, 0), false), (11, .iconst (-1), 1, .inr (.inr 0), false), (12, .ireturn, 1, .inr (.inr 0), false), (13, .aload_n 0, 1, .inl (0, 0), false), (14, .getfield 20, 3, .inl (4, 1), false), (17, .getfield 67, 3, .inl (0, 0), false), (20, .iload_n 1, 1, .inl (1, 0), false), (21, .aaload, 1, .inr (.inr 0), false), (22, .astore_n 3, 1, .inl (3, 0), false), (23, .aload_n 3, 1, .inl (3, 0), false), (24, .getfield 71, 3, .inl (2, 0), false), (27, .ifCond .ne 9, 3, .inl (36, 0), false), (30, .aload_n 0, 1, .inl (0, 0), false), (31, .iconst 3, 1, .inr (.inr 0), false), (32, .invokevirtual 79, 3, .inr (.inl (4, 1, mq_Sc_find)), false), (35, .ireturn, 1, .inr (.inr 0), false), (36, .aload_n 3, 1, .inl (3, 0), false), (37, .iload_n 2, 1, .inl (2, 0), false), (38, .invokevirtual 124, 3, .inr (.inl (2, 1, mq_No_hasState)), false), (41, .ifCond .ne 9, 3, .inl (50, 0), false), (44, .aload_n 0, 1, .inl (0, 0), false), (45, .iconst 2, 1, .inr (.inr 0), false), (46, .invokevirtual 79, 3, .inr (.inl (4, 1, mq_Sc_find)), false), (49, .ireturn, 1, .inr (.inr 0), false), (50, .aload_n 0, 1, .inl (0, 0), false), (51, .getfield 10, 3, .inl (4, 0), false), (54, .invokevirtual 165, 3, .inr (.inl (3, 0, mq_Wo_takeChart)), false), (57, .aload_n 0, 1, .inl (0, 0), false), (58, .getfield 10, 3, .inl (4, 0), false), (61, .invokevirtual 208, 3, .inr (.inl (3, 0, mq_Wo_settle)), false), (64, .aload_n 0, 1, .inl (0, 0), false), (65, .aload_n 0, 1, .inl (0, 0), false), (66, .getfield 10, 3, .inl (4, 0), false), (69, .aload_n 3, 1, .inl (3, 0), false), (70, .iload_n 2, 1, .inl (2, 0), false), (71, .invokevirtual 211, 3, .inr (.inl (3, 2, mq_Wo_weightOf)), false), (74, .invokevirtual 158, 3, .inr (.inl (4, 1, mq_Sc_tellFraction)), false), (77, .ireturn, 1, .inr (.inr 0), false)]
theorem tk_Sc_chance : sc_ok mq_Sc_chance tb_Sc_chance = true := by decide +kernel
theorem lk_Sc_chance_0 : sc_lk tb_Sc_chance 0 = some (.aload_n 0, 1, .inl (0, 0), false) := rfl
theorem lk_Sc_chance_1 : sc_lk tb_Sc_chance 1 = some (.getfield 20, 3, .inl (4, 1), false) := rfl
theorem lk_Sc_chance_4 : sc_lk tb_Sc_chance 4 = some (.iload_n 1, 1, .inl (1, 0), false) := rfl
theorem lk_Sc_chance_5 : sc_lk tb_Sc_chance 5 = some (.invokevirtual 63, 3, .inr (.inl (0, 1, mq_Ch_has)), false) := rfl
theorem lk_Sc_chance_8 : sc_lk tb_Sc_chance 8 = some (.ifCond .ne 5, 3, .inl (13, 0), false) := rfl
theorem lk_Sc_chance_11 : sc_lk tb_Sc_chance 11 = some (.iconst (-1), 1, .inr (.inr 0), false) := rfl
theorem lk_Sc_chance_12 : sc_lk tb_Sc_chance 12 = some (.ireturn, 1, .inr (.inr 0), false) := rfl
theorem lk_Sc_chance_13 : sc_lk tb_Sc_chance 13 = some (.aload_n 0, 1, .inl (0, 0), false) := rfl
theorem lk_Sc_chance_14 : sc_lk tb_Sc_chance 14 = some (.getfield 20, 3, .inl (4, 1), false) := rfl
theorem lk_Sc_chance_17 : sc_lk tb_Sc_chance 17 = some (.getfield 67, 3, .inl (0, 0), false) := rfl
theorem lk_Sc_chance_20 : sc_lk tb_Sc_chance 20 = some (.iload_n 1, 1, .inl (1, 0), false) := rfl
theorem lk_Sc_chance_21 : sc_lk tb_Sc_chance 21 = some (.aaload, 1, .inr (.inr 0), false) := rfl
theorem lk_Sc_chance_22 : sc_lk tb_Sc_chance 22 = some (.astore_n 3, 1, .inl (3, 0), false) := rfl
theorem lk_Sc_chance_23 : sc_lk tb_Sc_chance 23 = some (.aload_n 3, 1, .inl (3, 0), false) := rfl
theorem lk_Sc_chance_24 : sc_lk tb_Sc_chance 24 = some (.getfield 71, 3, .inl (2, 0), false) := rfl
theorem lk_Sc_chance_27 : sc_lk tb_Sc_chance 27 = some (.ifCond .ne 9, 3, .inl (36, 0), false) := rfl
theorem lk_Sc_chance_30 : sc_lk tb_Sc_chance 30 = some (.aload_n 0, 1, .inl (0, 0), false) := rfl
theorem lk_Sc_chance_31 : sc_lk tb_Sc_chance 31 = some (.iconst 3, 1, .inr (.inr 0), false) := rfl
theorem lk_Sc_chance_32 : sc_lk tb_Sc_chance 32 = some (.invokevirtual 79, 3, .inr (.inl (4, 1, mq_Sc_find)), false) := rfl
theorem lk_Sc_chance_35 : sc_lk tb_Sc_chance 35 = some (.ireturn, 1, .inr (.inr 0), false) := rfl
theorem lk_Sc_chance_36 : sc_lk tb_Sc_chance 36 = some (.aload_n 3, 1, .inl (3, 0), false) := rfl
theorem lk_Sc_chance_37 : sc_lk tb_Sc_chance 37 = some (.iload_n 2, 1, .inl (2, 0), false) := rfl
theorem lk_Sc_chance_38 : sc_lk tb_Sc_chance 38 = some (.invokevirtual 124, 3, .inr (.inl (2, 1, mq_No_hasState)), false) := rfl
theorem lk_Sc_chance_41 : sc_lk tb_Sc_chance 41 = some (.ifCond .ne 9, 3, .inl (50, 0), false) := rfl
theorem lk_Sc_chance_44 : sc_lk tb_Sc_chance 44 = some (.aload_n 0, 1, .inl (0, 0), false) := rfl
theorem lk_Sc_chance_45 : sc_lk tb_Sc_chance 45 = some (.iconst 2, 1, .inr (.inr 0), false) := rfl
theorem lk_Sc_chance_46 : sc_lk tb_Sc_chance 46 = some (.invokevirtual 79, 3, .inr (.inl (4, 1, mq_Sc_find)), false) := rfl
theorem lk_Sc_chance_49 : sc_lk tb_Sc_chance 49 = some (.ireturn, 1, .inr (.inr 0), false) := rfl
theorem lk_Sc_chance_50 : sc_lk tb_Sc_chance 50 = some (.aload_n 0, 1, .inl (0, 0), false) := rfl
theorem lk_Sc_chance_51 : sc_lk tb_Sc_chance 51 = some (.getfield 10, 3, .inl (4, 0), false) := rfl
theorem lk_Sc_chance_54 : sc_lk tb_Sc_chance 54 = some (.invokevirtual 165, 3, .inr (.inl (3, 0, mq_Wo_takeChart)), false) := rfl
theorem lk_Sc_chance_57 : sc_lk tb_Sc_chance 57 = some (.aload_n 0, 1, .inl (0, 0), false) := rfl
theorem lk_Sc_chance_58 : sc_lk tb_Sc_chance 58 = some (.getfield 10, 3, .inl (4, 0), false) := rfl
theorem lk_Sc_chance_61 : sc_lk tb_Sc_chance 61 = some (.invokevirtual 208, 3, .inr (.inl (3, 0, mq_Wo_settle)), false) := rfl
theorem lk_Sc_chance_64 : sc_lk tb_Sc_chance 64 = some (.aload_n 0, 1, .inl (0, 0), false) := rfl
theorem lk_Sc_chance_65 : sc_lk tb_Sc_chance 65 = some (.aload_n 0, 1, .inl (0, 0), false) := rfl
theorem lk_Sc_chance_66 : sc_lk tb_Sc_chance 66 = some (.getfield 10, 3, .inl (4, 0), false) := rfl
theorem lk_Sc_chance_69 : sc_lk tb_Sc_chance 69 = some (.aload_n 3, 1, .inl (3, 0), false) := rfl
theorem lk_Sc_chance_70 : sc_lk tb_Sc_chance 70 = some (.iload_n 2, 1, .inl (2, 0), false) := rfl
theorem lk_Sc_chance_71 : sc_lk tb_Sc_chance 71 = some (.invokevirtual 211, 3, .inr (.inl (3, 2, mq_Wo_weightOf)), false) := rfl
theorem lk_Sc_chance_74 : sc_lk tb_Sc_chance 74 = some (.invokevirtual 158, 3, .inr (.inl (4, 1, mq_Sc_tellFraction)), false) := rfl
theorem lk_Sc_chance_77 : sc_lk tb_Sc_chance 77 = some (.ireturn, 1, .inr (.inr 0), false) := rfl
def tb_Sc_end : sc_T := [(0, .aload_n 0, 1, .inl (0, 0), false), (1, .getfield 10, 3, .inl (4, 0), false), (4, .invokevirtual 165, 3, .inr (.inl (3, 0, mq_Wo_takeChart)), false), (7, .aload_n 0, 1, .inl (0, 0), false), (8, .getfield 10, 3, .inl (4, 0), false), (11, .invokevirtual 208, 3, .inr (.inl (3, 0, mq_Wo_settle)), false), (14, .aload_n 0, 1, .inl (0, 0), false), (15, .aload_n 0, 1, .inl (0, 0), false), (16, .getfield 10, 3, .inl (4, 0), false), (19, .iload_n 1, 1, .inl (1, 0), false), (20, .invokevirtual 215, 3, .inr (.inl (3, 1, mq_Wo_outermostWorth)), false), (23, .invokevirtual 130, 3, .inr (.inl (4, 1, mq_Sc_ask)), false), (26, .ireturn, 1, .inr (.inr 0), false)]
theorem tk_Sc_end : sc_ok mq_Sc_end tb_Sc_end = true := by decide +kernel
theorem lk_Sc_end_0 : sc_lk tb_Sc_end 0 = some (.aload_n 0, 1, .inl (0, 0), false) := rfl
theorem lk_Sc_end_1 : sc_lk tb_Sc_end 1 = some (.getfield 10, 3, .inl (4, 0), false) := rfl
theorem lk_Sc_end_4 : sc_lk tb_Sc_end 4 = some (.invokevirtual 165, 3, .inr (.inl (3, 0, mq_Wo_takeChart)), false) := rfl
theorem lk_Sc_end_7 : sc_lk tb_Sc_end 7 = some (.aload_n 0, 1, .inl (0, 0), false) := rfl
theorem lk_Sc_end_8 : sc_lk tb_Sc_end 8 = some (.getfield 10, 3, .inl (4, 0), false) := rfl
theorem lk_Sc_end_11 : sc_lk tb_Sc_end 11 = some (.invokevirtual 208, 3, .inr (.inl (3, 0, mq_Wo_settle)), false) := rfl
theorem lk_Sc_end_14 : sc_lk tb_Sc_end 14 = some (.aload_n 0, 1, .inl (0, 0), false) := rfl
theorem lk_Sc_end_15 : sc_lk tb_Sc_end 15 = some (.aload_n 0, 1, .inl (0, 0), false) := rfl
theorem lk_Sc_end_16 : sc_lk tb_Sc_end 16 = some (.getfield 10, 3, .inl (4, 0), false) := rfl
theorem lk_Sc_end_19 : sc_lk tb_Sc_end 19 = some (.iload_n 1, 1, .inl (1, 0), false) := rfl
theorem lk_Sc_end_20 : sc_lk tb_Sc_end 20 = some (.invokevirtual 215, 3, .inr (.inl (3, 1, mq_Wo_outermostWorth)), false) := rfl
theorem lk_Sc_end_23 : sc_lk tb_Sc_end 23 = some (.invokevirtual 130, 3, .inr (.inl (4, 1, mq_Sc_ask)), false) := rfl
theorem lk_Sc_end_26 : sc_lk tb_Sc_end 26 = some (.ireturn, 1, .inr (.inr 0), false) := rfl
def tb_Sc_row : sc_T := [(0, .iload_n 1, 1, .inl (1, 0), false), (1, .invokestatic 162, 3, .inr (.inl (100, 1, mq_Sc_isRow)), false), (4, .ifCond .eq 9, 3, .inl (13, 0), false), (7, .iload_n 2, 1, .inl (2, 0), false), (8, .bipush 27, 2, .inr (.inr 0), false), (10, .if_icmp .le 5, 3, .inl (15, 0), false), (13, .iconst (-1), 1, .inr (.inr 0), false), (14, .ireturn, 1, .inr (.inr 0), false), (15, .iload_n 2, 1, .inl (2, 0), false), (16, .ifCond .ge 9, 3, .inl (25, 0), false), (19, .aload_n 0, 1, .inl (0, 0), false), (20, .iconst 5, 1, .inr (.inr 0), false), (21, .invokevirtual 79, 3, .inr (.inl (4, 1, mq_Sc_find)), false), (24, .ireturn, 1, .inr (.inr 0), false), (25, .aload_n 0, 1, .inl (0, 0), false), (26, .getfield 30, 3, .inl (4, 3), false), (29, .iload_n 1, 1, .inl (1, 0), false), (30, .aaload, 1, .inr (.inr 0), false), (31, .iconst 0, 1, .inr (.inr 0), false), (32, .invokestatic 37, 3, .inr (.inl (100, 2, mq_Ar_fillI)), false), (35, .aload_n 0, 1, .inl (0, 0), false), (36, .getfield 33, 3, .inl (4, 4), false), (39, .iload_n 1, 1, .inl (1, 0), false), (40, .iload_n 2, 1, .inl (2, 0), false), (41, .iastore, 1, .inr (.inr 0), false), (42, .iload_n 2, 1, .inl (2, 0), false), (43, .ireturn, 1, .inr (.inr 0), false)]
theorem tk_Sc_row : sc_ok mq_Sc_row tb_Sc_row = true := by decide +kernel
theorem lk_Sc_row_0 : sc_lk tb_Sc_row 0 = some (.iload_n 1, 1, .inl (1, 0), false) := rfl
theorem lk_Sc_row_1 : sc_lk tb_Sc_row 1 = some (.invokestatic 162, 3, .inr (.inl (100, 1, mq_Sc_isRow)), false) := rfl
theorem lk_Sc_row_4 : sc_lk tb_Sc_row 4 = some (.ifCond .eq 9, 3, .inl (13, 0), false) := rfl
theorem lk_Sc_row_7 : sc_lk tb_Sc_row 7 = some (.iload_n 2, 1, .inl (2, 0), false) := rfl
theorem lk_Sc_row_8 : sc_lk tb_Sc_row 8 = some (.bipush 27, 2, .inr (.inr 0), false) := rfl
theorem lk_Sc_row_10 : sc_lk tb_Sc_row 10 = some (.if_icmp .le 5, 3, .inl (15, 0), false) := rfl
theorem lk_Sc_row_13 : sc_lk tb_Sc_row 13 = some (.iconst (-1), 1, .inr (.inr 0), false) := rfl
theorem lk_Sc_row_14 : sc_lk tb_Sc_row 14 = some (.ireturn, 1, .inr (.inr 0), false) := rfl
theorem lk_Sc_row_15 : sc_lk tb_Sc_row 15 = some (.iload_n 2, 1, .inl (2, 0), false) := rfl
theorem lk_Sc_row_16 : sc_lk tb_Sc_row 16 = some (.ifCond .ge 9, 3, .inl (25, 0), false) := rfl
theorem lk_Sc_row_19 : sc_lk tb_Sc_row 19 = some (.aload_n 0, 1, .inl (0, 0), false) := rfl
theorem lk_Sc_row_20 : sc_lk tb_Sc_row 20 = some (.iconst 5, 1, .inr (.inr 0), false) := rfl
theorem lk_Sc_row_21 : sc_lk tb_Sc_row 21 = some (.invokevirtual 79, 3, .inr (.inl (4, 1, mq_Sc_find)), false) := rfl
theorem lk_Sc_row_24 : sc_lk tb_Sc_row 24 = some (.ireturn, 1, .inr (.inr 0), false) := rfl
theorem lk_Sc_row_25 : sc_lk tb_Sc_row 25 = some (.aload_n 0, 1, .inl (0, 0), false) := rfl
theorem lk_Sc_row_26 : sc_lk tb_Sc_row 26 = some (.getfield 30, 3, .inl (4, 3), false) := rfl
theorem lk_Sc_row_29 : sc_lk tb_Sc_row 29 = some (.iload_n 1, 1, .inl (1, 0), false) := rfl
theorem lk_Sc_row_30 : sc_lk tb_Sc_row 30 = some (.aaload, 1, .inr (.inr 0), false) := rfl
theorem lk_Sc_row_31 : sc_lk tb_Sc_row 31 = some (.iconst 0, 1, .inr (.inr 0), false) := rfl
theorem lk_Sc_row_32 : sc_lk tb_Sc_row 32 = some (.invokestatic 37, 3, .inr (.inl (100, 2, mq_Ar_fillI)), false) := rfl
theorem lk_Sc_row_35 : sc_lk tb_Sc_row 35 = some (.aload_n 0, 1, .inl (0, 0), false) := rfl
theorem lk_Sc_row_36 : sc_lk tb_Sc_row 36 = some (.getfield 33, 3, .inl (4, 4), false) := rfl
theorem lk_Sc_row_39 : sc_lk tb_Sc_row 39 = some (.iload_n 1, 1, .inl (1, 0), false) := rfl
theorem lk_Sc_row_40 : sc_lk tb_Sc_row 40 = some (.iload_n 2, 1, .inl (2, 0), false) := rfl
theorem lk_Sc_row_41 : sc_lk tb_Sc_row 41 = some (.iastore, 1, .inr (.inr 0), false) := rfl
theorem lk_Sc_row_42 : sc_lk tb_Sc_row 42 = some (.iload_n 2, 1, .inl (2, 0), false) := rfl
theorem lk_Sc_row_43 : sc_lk tb_Sc_row 43 = some (.ireturn, 1, .inr (.inr 0), false) := rfl
def tb_Sc_lay : sc_T := [(0, .iload_n 1, 1, .inl (1, 0), false), (1, .invokestatic 162, 3, .inr (.inl (100, 1, mq_Sc_isRow)), false), (4, .ifCond .ne 5, 3, .inl (9, 0), false), (7, .iconst (-1), 1, .inr (.inr 0), false), (8, .ireturn, 1, .inr (.inr 0), false), (9, .aload_n 0, 1, .inl (0, 0), false), (10, .getfield 33, 3, .inl (4, 4), false), (13, .iload_n 1, 1, .inl (1, 0), false), (14, .iaload, 1, .inr (.inr 0), false), (15, .iconst (-1), 1, .inr (.inr 0), false), (16, .if_icmp .ne 9, 3, .inl (25, 0), false), (19, .aload_n 0, 1, .inl (0, 0), false), (20, .iconst 1, 1, .inr (.inr 0), false), (21, .invokevirtual 79, 3, .inr (.inl (4, 1, mq_Sc_find)), false), (24, .ireturn, 1, .inr (.inr 0), false), (25, .iload_n 2, 1, .inl (2, 0), false), (26, .ifCond .lt 13, 3, .inl (39, 0), false), (29, .iload_n 2, 1, .inl (2, 0), false), (30, .aload_n 0, 1, .inl (0, 0), false), (31, .getfield 33, 3, .inl (4, 4), false), (34, .iload_n 1, 1, .inl (1, 0), false), (35, .iaload, 1, .inr (.inr 0), false), (36, .if_icmp .lt 9, 3, .inl (45, 0), false), (39, .aload_n 0, 1, .inl (0, 0), false), (40, .iconst 2, 1, .inr (.inr 0), false), (41, .invokevirtual 79, 3, .inr (.inl (4, 1, mq_Sc_find)), false), (44, .ireturn, 1, .inr (.inr 0), false), (45, .aload_n 0, 1, .inl (0, 0), false), (46, .getfield 30, 3, .inl (4, 3), false), (49, .iload_n 1, 1, .inl (1, 0), false), (50, .aaload, 1, .inr (.inr 0), false), (51, .iload_n 2, 1, .inl (2, 0), false), (52, .iaload, 1, .inr (.inr 0), false), (53, .istore 4, 2, .inl (4, 0), false), (55, .aload_n 0, 1, .inl (0, 0), false), (56, .getfield 30, 3, .inl (4, 3), false), (59, .iload_n 1, 1, .inl (1, 0), false), (60, .aaload, 1, .inr (.inr 0), false), (61, .iload_n 2, 1, .inl (2, 0), false), (62, .iload_n 3, 1, .inl (3, 0), false), (63, .iastore, 1, .inr (.inr 0), false), (64, .aload_n 0, 1, .inl (0, 0), false), (65, .iload 4, 2, .inl (4, 0), false), (67, .invokevirtual 130, 3, .inr (.inl (4, 1, mq_Sc_ask)), false), (70, .ireturn, 1, .inr (.inr 0), false)]
theorem tk_Sc_lay : sc_ok mq_Sc_lay tb_Sc_lay = true := by decide +kernel
theorem lk_Sc_lay_0 : sc_lk tb_Sc_lay 0 = some (.iload_n 1, 1, .inl (1, 0), false) := rfl
theorem lk_Sc_lay_1 : sc_lk tb_Sc_lay 1 = some (.invokestatic 162, 3, .inr (.inl (100, 1, mq_Sc_isRow)), false) := rfl
theorem lk_Sc_lay_4 : sc_lk tb_Sc_lay 4 = some (.ifCond .ne 5, 3, .inl (9, 0), false) := rfl
theorem lk_Sc_lay_7 : sc_lk tb_Sc_lay 7 = some (.iconst (-1), 1, .inr (.inr 0), false) := rfl
theorem lk_Sc_lay_8 : sc_lk tb_Sc_lay 8 = some (.ireturn, 1, .inr (.inr 0), false) := rfl
theorem lk_Sc_lay_9 : sc_lk tb_Sc_lay 9 = some (.aload_n 0, 1, .inl (0, 0), false) := rfl
theorem lk_Sc_lay_10 : sc_lk tb_Sc_lay 10 = some (.getfield 33, 3, .inl (4, 4), false) := rfl
theorem lk_Sc_lay_13 : sc_lk tb_Sc_lay 13 = some (.iload_n 1, 1, .inl (1, 0), false) := rfl
theorem lk_Sc_lay_14 : sc_lk tb_Sc_lay 14 = some (.iaload, 1, .inr (.inr 0), false) := rfl
theorem lk_Sc_lay_15 : sc_lk tb_Sc_lay 15 = some (.iconst (-1), 1, .inr (.inr 0), false) := rfl
theorem lk_Sc_lay_16 : sc_lk tb_Sc_lay 16 = some (.if_icmp .ne 9, 3, .inl (25, 0), false) := rfl
theorem lk_Sc_lay_19 : sc_lk tb_Sc_lay 19 = some (.aload_n 0, 1, .inl (0, 0), false) := rfl
theorem lk_Sc_lay_20 : sc_lk tb_Sc_lay 20 = some (.iconst 1, 1, .inr (.inr 0), false) := rfl
theorem lk_Sc_lay_21 : sc_lk tb_Sc_lay 21 = some (.invokevirtual 79, 3, .inr (.inl (4, 1, mq_Sc_find)), false) := rfl
theorem lk_Sc_lay_24 : sc_lk tb_Sc_lay 24 = some (.ireturn, 1, .inr (.inr 0), false) := rfl
theorem lk_Sc_lay_25 : sc_lk tb_Sc_lay 25 = some (.iload_n 2, 1, .inl (2, 0), false) := rfl
theorem lk_Sc_lay_26 : sc_lk tb_Sc_lay 26 = some (.ifCond .lt 13, 3, .inl (39, 0), false) := rfl
theorem lk_Sc_lay_29 : sc_lk tb_Sc_lay 29 = some (.iload_n 2, 1, .inl (2, 0), false) := rfl
theorem lk_Sc_lay_30 : sc_lk tb_Sc_lay 30 = some (.aload_n 0, 1, .inl (0, 0), false) := rfl
theorem lk_Sc_lay_31 : sc_lk tb_Sc_lay 31 = some (.getfield 33, 3, .inl (4, 4), false) := rfl
theorem lk_Sc_lay_34 : sc_lk tb_Sc_lay 34 = some (.iload_n 1, 1, .inl (1, 0), false) := rfl
theorem lk_Sc_lay_35 : sc_lk tb_Sc_lay 35 = some (.iaload, 1, .inr (.inr 0), false) := rfl
theorem lk_Sc_lay_36 : sc_lk tb_Sc_lay 36 = some (.if_icmp .lt 9, 3, .inl (45, 0), false) := rfl
theorem lk_Sc_lay_39 : sc_lk tb_Sc_lay 39 = some (.aload_n 0, 1, .inl (0, 0), false) := rfl
theorem lk_Sc_lay_40 : sc_lk tb_Sc_lay 40 = some (.iconst 2, 1, .inr (.inr 0), false) := rfl
theorem lk_Sc_lay_41 : sc_lk tb_Sc_lay 41 = some (.invokevirtual 79, 3, .inr (.inl (4, 1, mq_Sc_find)), false) := rfl
theorem lk_Sc_lay_44 : sc_lk tb_Sc_lay 44 = some (.ireturn, 1, .inr (.inr 0), false) := rfl
theorem lk_Sc_lay_45 : sc_lk tb_Sc_lay 45 = some (.aload_n 0, 1, .inl (0, 0), false) := rfl
theorem lk_Sc_lay_46 : sc_lk tb_Sc_lay 46 = some (.getfield 30, 3, .inl (4, 3), false) := rfl
theorem lk_Sc_lay_49 : sc_lk tb_Sc_lay 49 = some (.iload_n 1, 1, .inl (1, 0), false) := rfl
theorem lk_Sc_lay_50 : sc_lk tb_Sc_lay 50 = some (.aaload, 1, .inr (.inr 0), false) := rfl
theorem lk_Sc_lay_51 : sc_lk tb_Sc_lay 51 = some (.iload_n 2, 1, .inl (2, 0), false) := rfl
theorem lk_Sc_lay_52 : sc_lk tb_Sc_lay 52 = some (.iaload, 1, .inr (.inr 0), false) := rfl
theorem lk_Sc_lay_53 : sc_lk tb_Sc_lay 53 = some (.istore 4, 2, .inl (4, 0), false) := rfl
theorem lk_Sc_lay_55 : sc_lk tb_Sc_lay 55 = some (.aload_n 0, 1, .inl (0, 0), false) := rfl
theorem lk_Sc_lay_56 : sc_lk tb_Sc_lay 56 = some (.getfield 30, 3, .inl (4, 3), false) := rfl
theorem lk_Sc_lay_59 : sc_lk tb_Sc_lay 59 = some (.iload_n 1, 1, .inl (1, 0), false) := rfl
theorem lk_Sc_lay_60 : sc_lk tb_Sc_lay 60 = some (.aaload, 1, .inr (.inr 0), false) := rfl
theorem lk_Sc_lay_61 : sc_lk tb_Sc_lay 61 = some (.iload_n 2, 1, .inl (2, 0), false) := rfl
theorem lk_Sc_lay_62 : sc_lk tb_Sc_lay 62 = some (.iload_n 3, 1, .inl (3, 0), false) := rfl
theorem lk_Sc_lay_63 : sc_lk tb_Sc_lay 63 = some (.iastore, 1, .inr (.inr 0), false) := rfl
theorem lk_Sc_lay_64 : sc_lk tb_Sc_lay 64 = some (.aload_n 0, 1, .inl (0, 0), false) := rfl
theorem lk_Sc_lay_65 : sc_lk tb_Sc_lay 65 = some (.iload 4, 2, .inl (4, 0), false) := rfl
theorem lk_Sc_lay_67 : sc_lk tb_Sc_lay 67 = some (.invokevirtual 130, 3, .inr (.inl (4, 1, mq_Sc_ask)), false) := rfl
theorem lk_Sc_lay_70 : sc_lk tb_Sc_lay 70 = some (.ireturn, 1, .inr (.inr 0), false) := rfl
def tb_Sc_tear : sc_T := [(0, .iload_n 1, 1, .inl (1, 0), false), (1, .invokestatic 162, 3, .inr (.inl (100, 1, mq_Sc_isRow)), false), (4, .ifCond .ne 5, 3, .inl (9, 0), false), (7, .iconst (-1), 1, .inr (.inr 0), false), (8, .ireturn, 1, .inr (.inr 0), false), (9, .aload_n 0, 1, .inl (0, 0), false), (10, .getfield 33, 3, .inl (4, 4), false), (13, .iload_n 1, 1, .inl (1, 0), false), (14, .iaload, 1, .inr (.inr 0), false), (15, .iconst (-1), 1, .inr (.inr 0), false), (16, .if_icmp .ne 9, 3, .inl (25, 0), false), (19, .aload_n 0, 1, .inl (0, 0), false), (20, .iconst 1, 1, .inr (.inr 0), false), (21, .invokevirtual 79, 3, .inr (.inl (4, 1, mq_Sc_find)), false), (24, .ireturn, 1, .inr (.inr 0), false), (25, .aload_n 0, 1, .inl (0, 0), false), (26, .getfield 33, 3, .inl (4, 4), false), (29, .iload_n 1, 1, .inl (1, 0), false), (30, .iconst (-1), 1, .inr (.inr 0), false), (31, .iastore, 1, .inr (.inr 0), false), (32, .iconst 1, 1, .inr (.inr 0), false), (33, .ireturn, 1, .inr (.inr 0), false)]
theorem tk_Sc_tear : sc_ok mq_Sc_tear tb_Sc_tear = true := by decide +kernel
theorem lk_Sc_tear_0 : sc_lk tb_Sc_tear 0 = some (.iload_n 1, 1, .inl (1, 0), false) := rfl
theorem lk_Sc_tear_1 : sc_lk tb_Sc_tear 1 = some (.invokestatic 162, 3, .inr (.inl (100, 1, mq_Sc_isRow)), false) := rfl
theorem lk_Sc_tear_4 : sc_lk tb_Sc_tear 4 = some (.ifCond .ne 5, 3, .inl (9, 0), false) := rfl
theorem lk_Sc_tear_7 : sc_lk tb_Sc_tear 7 = some (.iconst (-1), 1, .inr (.inr 0), false) := rfl
theorem lk_Sc_tear_8 : sc_lk tb_Sc_tear 8 = some (.ireturn, 1, .inr (.inr 0), false) := rfl
theorem lk_Sc_tear_9 : sc_lk tb_Sc_tear 9 = some (.aload_n 0, 1, .inl (0, 0), false) := rfl
theorem lk_Sc_tear_10 : sc_lk tb_Sc_tear 10 = some (.getfield 33, 3, .inl (4, 4), false) := rfl
theorem lk_Sc_tear_13 : sc_lk tb_Sc_tear 13 = some (.iload_n 1, 1, .inl (1, 0), false) := rfl
theorem lk_Sc_tear_14 : sc_lk tb_Sc_tear 14 = some (.iaload, 1, .inr (.inr 0), false) := rfl
theorem lk_Sc_tear_15 : sc_lk tb_Sc_tear 15 = some (.iconst (-1), 1, .inr (.inr 0), false) := rfl
theorem lk_Sc_tear_16 : sc_lk tb_Sc_tear 16 = some (.if_icmp .ne 9, 3, .inl (25, 0), false) := rfl
theorem lk_Sc_tear_19 : sc_lk tb_Sc_tear 19 = some (.aload_n 0, 1, .inl (0, 0), false) := rfl
theorem lk_Sc_tear_20 : sc_lk tb_Sc_tear 20 = some (.iconst 1, 1, .inr (.inr 0), false) := rfl
theorem lk_Sc_tear_21 : sc_lk tb_Sc_tear 21 = some (.invokevirtual 79, 3, .inr (.inl (4, 1, mq_Sc_find)), false) := rfl
theorem lk_Sc_tear_24 : sc_lk tb_Sc_tear 24 = some (.ireturn, 1, .inr (.inr 0), false) := rfl
theorem lk_Sc_tear_25 : sc_lk tb_Sc_tear 25 = some (.aload_n 0, 1, .inl (0, 0), false) := rfl
theorem lk_Sc_tear_26 : sc_lk tb_Sc_tear 26 = some (.getfield 33, 3, .inl (4, 4), false) := rfl
theorem lk_Sc_tear_29 : sc_lk tb_Sc_tear 29 = some (.iload_n 1, 1, .inl (1, 0), false) := rfl
theorem lk_Sc_tear_30 : sc_lk tb_Sc_tear 30 = some (.iconst (-1), 1, .inr (.inr 0), false) := rfl
theorem lk_Sc_tear_31 : sc_lk tb_Sc_tear 31 = some (.iastore, 1, .inr (.inr 0), false) := rfl
theorem lk_Sc_tear_32 : sc_lk tb_Sc_tear 32 = some (.iconst 1, 1, .inr (.inr 0), false) := rfl
theorem lk_Sc_tear_33 : sc_lk tb_Sc_tear 33 = some (.ireturn, 1, .inr (.inr 0), false) := rfl
def tb_Sc_copy : sc_T := [(0, .iload_n 1, 1, .inl (1, 0), false), (1, .invokestatic 162, 3, .inr (.inl (100, 1, mq_Sc_isRow)), false), (4, .ifCond .eq 10, 3, .inl (14, 0), false), (7, .iload_n 3, 1, .inl (3, 0), false), (8, .invokestatic 162, 3, .inr (.inl (100, 1, mq_Sc_isRow)), false), (11, .ifCond .ne 5, 3, .inl (16, 0), false), (14, .iconst (-1), 1, .inr (.inr 0), false), (15, .ireturn, 1, .inr (.inr 0), false), (16, .iload 5, 2, .inl (5, 0), false), (18, .ifCond .ge 9, 3, .inl (27, 0), false), (21, .aload_n 0, 1, .inl (0, 0), false), (22, .iconst 5, 1, .inr (.inr 0), false), (23, .invokevirtual 79, 3, .inr (.inl (4, 1, mq_Sc_find)), false), (26, .ireturn, 1, .inr (.inr 0), false), (27, .aload_n 0, 1, .inl (0, 0), false), (28, .getfield 33, 3, .inl (4, 4), false), (31, .iload_n 1, 1, .inl (1, 0), false), (32, .iaload, 1, .inr (.inr 0), false), (33, .iconst (-1), 1, .inr (.inr 0), false), (34, .if_icmp .eq 13, 3, .inl (47, 0), false), (37, .aload_n 0, 1, .inl (0, 0), false), (38, .getfield 33, 3, .inl (4, 4), false), (41, .iload_n 3, 1, .inl (3, 0), false), (42, .iaload, 1, .inr (.inr 0), false), (43, .iconst (-1), 1, .inr (.inr 0), false), (44, .if_icmp .ne 9, 3, .inl (53, 0), false), (47, .aload_n 0, 1, .inl (0, 0), false), (48, .iconst 1, 1, .inr (.inr 0), false), (49, .invokevirtual 79, 3, .inr (.inl (4, 1, mq_Sc_find)), false), (52, .ireturn, 1, .inr (.inr 0), false), (53, .iload_n 2, 1, .inl (2, 0), false), (54, .ifCond .lt 35, 3, .inl (89, 0), false), (57, .iload_n 2, 1, .inl (2, 0), false), (58, .aload_n 0, 1, .inl (0, 0), false), (59, .getfield 33, 3, .inl (4, 4), false), (62, .iload_n 1, 1, .inl (1, 0), false), (63, .iaload, 1, .inr (.inr 0), false), (64, .iload 5, 2, .inl (5, 0), false), (66, .isub, 1, .inr (.inr 0), false), (67, .if_icmp .gt 22, 3, .inl (89, 0), false), (70, .iload 4, 2, .inl (4, 0), false), (72, .ifCond .lt 17, 3, .inl (89, 0), false), (75, .iload 4, 2, .inl (4, 0), false), (77, .aload_n 0, 1, .inl (0, 0), false), (78, .getfield 33, 3, .inl (4, 4), false), (81, .iload_n 3, 1, .inl (3, 0), false), (82, .iaload, 1, .inr (.inr 0), false), (83, .iload 5, 2, .inl (5, 0), false), (85, .isub, 1, .inr (.inr 0), false), (86, .if_icmp .le 9, 3, .inl (95, 0), false), (89, .aload_n 0, 1, .inl (0, 0), false), (90, .iconst 2, 1, .inr (.inr 0), false), (91, .invokevirtual 79, 3, .inr (.inl (4, 1, mq_Sc_find)), false), (94, .ireturn, 1, .inr (.inr 0), false), (95, .aload_n 0, 1, .inl (0, 0), false), (96, .getfield 30, 3, .inl (4, 3), false), (99, .iload_n 1, 1, .inl (1, 0), false), (100, .aaload, 1, .inr (.inr 0), false), (101, .iload_n 2, 1, .inl (2, 0), false), (102, .aload_n 0, 1, .inl (0, 0), false), (103, .getfield 30, 3, .inl (4, 3), false), (106, .iload_n 3, 1, .inl (3, 0), false), (107, .aaload, 1, .inr (.inr 0), false), (108, .iload 4, 2, .inl (4, 0), false), (110, .iload 5, 2, .inl (5, 0), false), (112, .invokestatic 219, 3, .inr (.inl (101, 5, mq_Ar_fillI)), false), (115, .iconst 1, 1, .inr (.inr 0), false), (116, .ireturn, 1, .inr (.inr 0), false)]
theorem tk_Sc_copy : sc_ok mq_Sc_copy tb_Sc_copy = true := by decide +kernel
theorem lk_Sc_copy_0 : sc_lk tb_Sc_copy 0 = some (.iload_n 1, 1, .inl (1, 0), false) := rfl
theorem lk_Sc_copy_1 : sc_lk tb_Sc_copy 1 = some (.invokestatic 162, 3, .inr (.inl (100, 1, mq_Sc_isRow)), false) := rfl
theorem lk_Sc_copy_4 : sc_lk tb_Sc_copy 4 = some (.ifCond .eq 10, 3, .inl (14, 0), false) := rfl
theorem lk_Sc_copy_7 : sc_lk tb_Sc_copy 7 = some (.iload_n 3, 1, .inl (3, 0), false) := rfl
theorem lk_Sc_copy_8 : sc_lk tb_Sc_copy 8 = some (.invokestatic 162, 3, .inr (.inl (100, 1, mq_Sc_isRow)), false) := rfl
theorem lk_Sc_copy_11 : sc_lk tb_Sc_copy 11 = some (.ifCond .ne 5, 3, .inl (16, 0), false) := rfl
theorem lk_Sc_copy_14 : sc_lk tb_Sc_copy 14 = some (.iconst (-1), 1, .inr (.inr 0), false) := rfl
theorem lk_Sc_copy_15 : sc_lk tb_Sc_copy 15 = some (.ireturn, 1, .inr (.inr 0), false) := rfl
theorem lk_Sc_copy_16 : sc_lk tb_Sc_copy 16 = some (.iload 5, 2, .inl (5, 0), false) := rfl
theorem lk_Sc_copy_18 : sc_lk tb_Sc_copy 18 = some (.ifCond .ge 9, 3, .inl (27, 0), false) := rfl
theorem lk_Sc_copy_21 : sc_lk tb_Sc_copy 21 = some (.aload_n 0, 1, .inl (0, 0), false) := rfl
theorem lk_Sc_copy_22 : sc_lk tb_Sc_copy 22 = some (.iconst 5, 1, .inr (.inr 0), false) := rfl
theorem lk_Sc_copy_23 : sc_lk tb_Sc_copy 23 = some (.invokevirtual 79, 3, .inr (.inl (4, 1, mq_Sc_find)), false) := rfl
theorem lk_Sc_copy_26 : sc_lk tb_Sc_copy 26 = some (.ireturn, 1, .inr (.inr 0), false) := rfl
theorem lk_Sc_copy_27 : sc_lk tb_Sc_copy 27 = some (.aload_n 0, 1, .inl (0, 0), false) := rfl
theorem lk_Sc_copy_28 : sc_lk tb_Sc_copy 28 = some (.getfield 33, 3, .inl (4, 4), false) := rfl
theorem lk_Sc_copy_31 : sc_lk tb_Sc_copy 31 = some (.iload_n 1, 1, .inl (1, 0), false) := rfl
theorem lk_Sc_copy_32 : sc_lk tb_Sc_copy 32 = some (.iaload, 1, .inr (.inr 0), false) := rfl
theorem lk_Sc_copy_33 : sc_lk tb_Sc_copy 33 = some (.iconst (-1), 1, .inr (.inr 0), false) := rfl
theorem lk_Sc_copy_34 : sc_lk tb_Sc_copy 34 = some (.if_icmp .eq 13, 3, .inl (47, 0), false) := rfl
theorem lk_Sc_copy_37 : sc_lk tb_Sc_copy 37 = some (.aload_n 0, 1, .inl (0, 0), false) := rfl
theorem lk_Sc_copy_38 : sc_lk tb_Sc_copy 38 = some (.getfield 33, 3, .inl (4, 4), false) := rfl
theorem lk_Sc_copy_41 : sc_lk tb_Sc_copy 41 = some (.iload_n 3, 1, .inl (3, 0), false) := rfl
theorem lk_Sc_copy_42 : sc_lk tb_Sc_copy 42 = some (.iaload, 1, .inr (.inr 0), false) := rfl
theorem lk_Sc_copy_43 : sc_lk tb_Sc_copy 43 = some (.iconst (-1), 1, .inr (.inr 0), false) := rfl
theorem lk_Sc_copy_44 : sc_lk tb_Sc_copy 44 = some (.if_icmp .ne 9, 3, .inl (53, 0), false) := rfl
theorem lk_Sc_copy_47 : sc_lk tb_Sc_copy 47 = some (.aload_n 0, 1, .inl (0, 0), false) := rfl
theorem lk_Sc_copy_48 : sc_lk tb_Sc_copy 48 = some (.iconst 1, 1, .inr (.inr 0), false) := rfl
theorem lk_Sc_copy_49 : sc_lk tb_Sc_copy 49 = some (.invokevirtual 79, 3, .inr (.inl (4, 1, mq_Sc_find)), false) := rfl
theorem lk_Sc_copy_52 : sc_lk tb_Sc_copy 52 = some (.ireturn, 1, .inr (.inr 0), false) := rfl
theorem lk_Sc_copy_53 : sc_lk tb_Sc_copy 53 = some (.iload_n 2, 1, .inl (2, 0), false) := rfl
theorem lk_Sc_copy_54 : sc_lk tb_Sc_copy 54 = some (.ifCond .lt 35, 3, .inl (89, 0), false) := rfl
theorem lk_Sc_copy_57 : sc_lk tb_Sc_copy 57 = some (.iload_n 2, 1, .inl (2, 0), false) := rfl
theorem lk_Sc_copy_58 : sc_lk tb_Sc_copy 58 = some (.aload_n 0, 1, .inl (0, 0), false) := rfl
theorem lk_Sc_copy_59 : sc_lk tb_Sc_copy 59 = some (.getfield 33, 3, .inl (4, 4), false) := rfl
theorem lk_Sc_copy_62 : sc_lk tb_Sc_copy 62 = some (.iload_n 1, 1, .inl (1, 0), false) := rfl
theorem lk_Sc_copy_63 : sc_lk tb_Sc_copy 63 = some (.iaload, 1, .inr (.inr 0), false) := rfl
theorem lk_Sc_copy_64 : sc_lk tb_Sc_copy 64 = some (.iload 5, 2, .inl (5, 0), false) := rfl
theorem lk_Sc_copy_66 : sc_lk tb_Sc_copy 66 = some (.isub, 1, .inr (.inr 0), false) := rfl
theorem lk_Sc_copy_67 : sc_lk tb_Sc_copy 67 = some (.if_icmp .gt 22, 3, .inl (89, 0), false) := rfl
theorem lk_Sc_copy_70 : sc_lk tb_Sc_copy 70 = some (.iload 4, 2, .inl (4, 0), false) := rfl
theorem lk_Sc_copy_72 : sc_lk tb_Sc_copy 72 = some (.ifCond .lt 17, 3, .inl (89, 0), false) := rfl
theorem lk_Sc_copy_75 : sc_lk tb_Sc_copy 75 = some (.iload 4, 2, .inl (4, 0), false) := rfl
theorem lk_Sc_copy_77 : sc_lk tb_Sc_copy 77 = some (.aload_n 0, 1, .inl (0, 0), false) := rfl
theorem lk_Sc_copy_78 : sc_lk tb_Sc_copy 78 = some (.getfield 33, 3, .inl (4, 4), false) := rfl
theorem lk_Sc_copy_81 : sc_lk tb_Sc_copy 81 = some (.iload_n 3, 1, .inl (3, 0), false) := rfl
theorem lk_Sc_copy_82 : sc_lk tb_Sc_copy 82 = some (.iaload, 1, .inr (.inr 0), false) := rfl
theorem lk_Sc_copy_83 : sc_lk tb_Sc_copy 83 = some (.iload 5, 2, .inl (5, 0), false) := rfl
theorem lk_Sc_copy_85 : sc_lk tb_Sc_copy 85 = some (.isub, 1, .inr (.inr 0), false) := rfl
theorem lk_Sc_copy_86 : sc_lk tb_Sc_copy 86 = some (.if_icmp .le 9, 3, .inl (95, 0), false) := rfl
theorem lk_Sc_copy_89 : sc_lk tb_Sc_copy 89 = some (.aload_n 0, 1, .inl (0, 0), false) := rfl
theorem lk_Sc_copy_90 : sc_lk tb_Sc_copy 90 = some (.iconst 2, 1, .inr (.inr 0), false) := rfl
theorem lk_Sc_copy_91 : sc_lk tb_Sc_copy 91 = some (.invokevirtual 79, 3, .inr (.inl (4, 1, mq_Sc_find)), false) := rfl
theorem lk_Sc_copy_94 : sc_lk tb_Sc_copy 94 = some (.ireturn, 1, .inr (.inr 0), false) := rfl
theorem lk_Sc_copy_95 : sc_lk tb_Sc_copy 95 = some (.aload_n 0, 1, .inl (0, 0), false) := rfl
theorem lk_Sc_copy_96 : sc_lk tb_Sc_copy 96 = some (.getfield 30, 3, .inl (4, 3), false) := rfl
theorem lk_Sc_copy_99 : sc_lk tb_Sc_copy 99 = some (.iload_n 1, 1, .inl (1, 0), false) := rfl
theorem lk_Sc_copy_100 : sc_lk tb_Sc_copy 100 = some (.aaload, 1, .inr (.inr 0), false) := rfl
theorem lk_Sc_copy_101 : sc_lk tb_Sc_copy 101 = some (.iload_n 2, 1, .inl (2, 0), false) := rfl
theorem lk_Sc_copy_102 : sc_lk tb_Sc_copy 102 = some (.aload_n 0, 1, .inl (0, 0), false) := rfl
theorem lk_Sc_copy_103 : sc_lk tb_Sc_copy 103 = some (.getfield 30, 3, .inl (4, 3), false) := rfl
theorem lk_Sc_copy_106 : sc_lk tb_Sc_copy 106 = some (.iload_n 3, 1, .inl (3, 0), false) := rfl
theorem lk_Sc_copy_107 : sc_lk tb_Sc_copy 107 = some (.aaload, 1, .inr (.inr 0), false) := rfl
theorem lk_Sc_copy_108 : sc_lk tb_Sc_copy 108 = some (.iload 4, 2, .inl (4, 0), false) := rfl
theorem lk_Sc_copy_110 : sc_lk tb_Sc_copy 110 = some (.iload 5, 2, .inl (5, 0), false) := rfl
theorem lk_Sc_copy_112 : sc_lk tb_Sc_copy 112 = some (.invokestatic 219, 3, .inr (.inl (101, 5, mq_Ar_fillI)), false) := rfl
theorem lk_Sc_copy_115 : sc_lk tb_Sc_copy 115 = some (.iconst 1, 1, .inr (.inr 0), false) := rfl
theorem lk_Sc_copy_116 : sc_lk tb_Sc_copy 116 = some (.ireturn, 1, .inr (.inr 0), false) := rfl
def tb_Sc_fill : sc_T := [(0, .aload_n 0, 1, .inl (0, 0), false), (1, .getfield 20, 3, .inl (4, 1), false), (4, .iload_n 1, 1, .inl (1, 0), false), (5, .invokevirtual 63, 3, .inr (.inl (0, 1, mq_Ch_has)), false), (8, .ifCond .eq 10, 3, .inl (18, 0), false), (11, .iload_n 2, 1, .inl (2, 0), false), (12, .invokestatic 162, 3, .inr (.inl (100, 1, mq_Sc_isRow)), false), (15, .ifCond .ne 5, 3, .inl (20, 0), false), (18, .iconst (-1), 1, .inr (.inr 0), false), (19, .ireturn, 1, .inr (.inr 0), false), (20, .aload_n 0, 1, .inl (0, 0), false), (21, .getfield 20, 3, .inl (4, 1), false), (24, .getfield 67, 3, .inl (0, 0), false), (27, .iload_n 1, 1, .inl (1, 0), false), (28, .aaload, 1, .inr (.inr 0), false), (29, .astore_n 3, 1, .inl (3, 0), false), (30, .aload_n 3, 1, .inl (3, 0), false), (31, .getfield 71, 3, .inl (2, 0), false), (34, .ifCond .eq 9, 3, .inl (43, 0), false), (37, .aload_n 0, 1, .inl (0, 0), false), (38, .iconst 3, 1, .inr (.inr 0), false), (39, .invokevirtual 79, 3, .inr (.inl (4, 1, mq_Sc_find)), false), (42, .ireturn, 1, .inr (.inr 0), false), (43, .aload_n 0, 1, .inl (0, 0), false), (44, .getfield 33, 3, .inl (4, 4), false), (47, .iload_n 2, 1, .inl (2, 0), false), (48, .iaload, 1, .inr (.inr 0), false), (49, .iconst (-1), 1, .inr (.inr 0), false), (50, .if_icmp .ne 9, 3, .inl (59, 0), false), (53, .aload_n 0, 1, .inl (0, 0), false), (54, .iconst 1, 1, .inr (.inr 0), false), (55, .invokevirtual 79, 3, .inr (.inl (4, 1, mq_Sc_find)), false), (58, .ireturn, 1, .inr (.inr 0), false), (59, .aload_n 3, 1, .inl (3, 0), false), (60, .getfield 148, 3, .inl (2, 6), false), (63, .aload_n 0, 1, .inl (0, 0), false), (64, .getfield 33, 3, .inl (4, 4), false), (67, .iload_n 2, 1, .inl (2, 0), false), (68, .iaload, 1, .inr (.inr 0), false), (69, .invokestatic 225, 3, .inr (.inl (100, 2, mq_Ma_min)), false), (72, .istore 4, 2, .inl (4, 0), false), (74, .iconst 0, 1, .inr (.inr 0), false), (75, .istore 5, 2, .inl (5, 0), false), (77, .iload 5, 2, .inl (5, 0), true), (79, .iload 4, 2, .inl (4, 0), false), (81, .if_icmp .ge 34, 3, .inl (115, 0), false), (84, .aload_n 3, 1, .inl (3, 0), false), (85, .iload 5, 2, .inl (5, 0), false), (87, .bipush (-100), 2, .inr (.inr 0), false), (89, .bipush 100, 2, .inr (.inr 0), false), (91, .aload_n 0, 1, .inl (0, 0), false), (92, .getfield 30, 3, .inl (4, 3), false), (95, .iload_n 2, 1, .inl (2, 0), false), (96, .aaload, 1, .inr (.inr 0), false), (97, .iload 5, 2, .inl (5, 0), false), (99, .iaload, 1, .inr (.inr 0), false), (100, .invokestatic 225, 3, .inr (.inl (100, 2, mq_Ma_min)), false), (103, .invokestatic 230, 3, .inr (.inl (100, 2, mq_Ma_maxI)), false), (106, .invokevirtual 121, 3, .inr (.inl (2, 2, mq_No_put)), false), (109, .iinc 5 1, 3, .inl (5, 0), false), (112, .goto (-35), 3, .inl (77, 0), false), (115, .iload 4, 2, .inl (4, 0), false), (117, .ireturn, 1, .inr (.inr 0), false)]
theorem tk_Sc_fill : sc_ok mq_Sc_fill tb_Sc_fill = true := by decide +kernel
theorem lk_Sc_fill_0 : sc_lk tb_Sc_fill 0 = some (.aload_n 0, 1, .inl (0, 0), false) := rfl
theorem lk_Sc_fill_1 : sc_lk tb_Sc_fill 1 = some (.getfield 20, 3, .inl (4, 1), false) := rfl
theorem lk_Sc_fill_4 : sc_lk tb_Sc_fill 4 = some (.iload_n 1, 1, .inl (1, 0), false) := rfl
theorem lk_Sc_fill_5 : sc_lk tb_Sc_fill 5 = some (.invokevirtual 63, 3, .inr (.inl (0, 1, mq_Ch_has)), false) := rfl
theorem lk_Sc_fill_8 : sc_lk tb_Sc_fill 8 = some (.ifCond .eq 10, 3, .inl (18, 0), false) := rfl
theorem lk_Sc_fill_11 : sc_lk tb_Sc_fill 11 = some (.iload_n 2, 1, .inl (2, 0), false) := rfl
theorem lk_Sc_fill_12 : sc_lk tb_Sc_fill 12 = some (.invokestatic 162, 3, .inr (.inl (100, 1, mq_Sc_isRow)), false) := rfl
theorem lk_Sc_fill_15 : sc_lk tb_Sc_fill 15 = some (.ifCond .ne 5, 3, .inl (20, 0), false) := rfl
theorem lk_Sc_fill_18 : sc_lk tb_Sc_fill 18 = some (.iconst (-1), 1, .inr (.inr 0), false) := rfl
theorem lk_Sc_fill_19 : sc_lk tb_Sc_fill 19 = some (.ireturn, 1, .inr (.inr 0), false) := rfl
theorem lk_Sc_fill_20 : sc_lk tb_Sc_fill 20 = some (.aload_n 0, 1, .inl (0, 0), false) := rfl
theorem lk_Sc_fill_21 : sc_lk tb_Sc_fill 21 = some (.getfield 20, 3, .inl (4, 1), false) := rfl
theorem lk_Sc_fill_24 : sc_lk tb_Sc_fill 24 = some (.getfield 67, 3, .inl (0, 0), false) := rfl
theorem lk_Sc_fill_27 : sc_lk tb_Sc_fill 27 = some (.iload_n 1, 1, .inl (1, 0), false) := rfl
theorem lk_Sc_fill_28 : sc_lk tb_Sc_fill 28 = some (.aaload, 1, .inr (.inr 0), false) := rfl
theorem lk_Sc_fill_29 : sc_lk tb_Sc_fill 29 = some (.astore_n 3, 1, .inl (3, 0), false) := rfl
theorem lk_Sc_fill_30 : sc_lk tb_Sc_fill 30 = some (.aload_n 3, 1, .inl (3, 0), false) := rfl
theorem lk_Sc_fill_31 : sc_lk tb_Sc_fill 31 = some (.getfield 71, 3, .inl (2, 0), false) := rfl
theorem lk_Sc_fill_34 : sc_lk tb_Sc_fill 34 = some (.ifCond .eq 9, 3, .inl (43, 0), false) := rfl
theorem lk_Sc_fill_37 : sc_lk tb_Sc_fill 37 = some (.aload_n 0, 1, .inl (0, 0), false) := rfl
theorem lk_Sc_fill_38 : sc_lk tb_Sc_fill 38 = some (.iconst 3, 1, .inr (.inr 0), false) := rfl
theorem lk_Sc_fill_39 : sc_lk tb_Sc_fill 39 = some (.invokevirtual 79, 3, .inr (.inl (4, 1, mq_Sc_find)), false) := rfl
theorem lk_Sc_fill_42 : sc_lk tb_Sc_fill 42 = some (.ireturn, 1, .inr (.inr 0), false) := rfl
theorem lk_Sc_fill_43 : sc_lk tb_Sc_fill 43 = some (.aload_n 0, 1, .inl (0, 0), false) := rfl
theorem lk_Sc_fill_44 : sc_lk tb_Sc_fill 44 = some (.getfield 33, 3, .inl (4, 4), false) := rfl
theorem lk_Sc_fill_47 : sc_lk tb_Sc_fill 47 = some (.iload_n 2, 1, .inl (2, 0), false) := rfl
theorem lk_Sc_fill_48 : sc_lk tb_Sc_fill 48 = some (.iaload, 1, .inr (.inr 0), false) := rfl
theorem lk_Sc_fill_49 : sc_lk tb_Sc_fill 49 = some (.iconst (-1), 1, .inr (.inr 0), false) := rfl
theorem lk_Sc_fill_50 : sc_lk tb_Sc_fill 50 = some (.if_icmp .ne 9, 3, .inl (59, 0), false) := rfl
theorem lk_Sc_fill_53 : sc_lk tb_Sc_fill 53 = some (.aload_n 0, 1, .inl (0, 0), false) := rfl
theorem lk_Sc_fill_54 : sc_lk tb_Sc_fill 54 = some (.iconst 1, 1, .inr (.inr 0), false) := rfl
theorem lk_Sc_fill_55 : sc_lk tb_Sc_fill 55 = some (.invokevirtual 79, 3, .inr (.inl (4, 1, mq_Sc_find)), false) := rfl
theorem lk_Sc_fill_58 : sc_lk tb_Sc_fill 58 = some (.ireturn, 1, .inr (.inr 0), false) := rfl
theorem lk_Sc_fill_59 : sc_lk tb_Sc_fill 59 = some (.aload_n 3, 1, .inl (3, 0), false) := rfl
theorem lk_Sc_fill_60 : sc_lk tb_Sc_fill 60 = some (.getfield 148, 3, .inl (2, 6), false) := rfl
theorem lk_Sc_fill_63 : sc_lk tb_Sc_fill 63 = some (.aload_n 0, 1, .inl (0, 0), false) := rfl
theorem lk_Sc_fill_64 : sc_lk tb_Sc_fill 64 = some (.getfield 33, 3, .inl (4, 4), false) := rfl
theorem lk_Sc_fill_67 : sc_lk tb_Sc_fill 67 = some (.iload_n 2, 1, .inl (2, 0), false) := rfl
theorem lk_Sc_fill_68 : sc_lk tb_Sc_fill 68 = some (.iaload, 1, .inr (.inr 0), false) := rfl
theorem lk_Sc_fill_69 : sc_lk tb_Sc_fill 69 = some (.invokestatic 225, 3, .inr (.inl (100, 2, mq_Ma_min)), false) := rfl
theorem lk_Sc_fill_72 : sc_lk tb_Sc_fill 72 = some (.istore 4, 2, .inl (4, 0), false) := rfl
theorem lk_Sc_fill_74 : sc_lk tb_Sc_fill 74 = some (.iconst 0, 1, .inr (.inr 0), false) := rfl
theorem lk_Sc_fill_75 : sc_lk tb_Sc_fill 75 = some (.istore 5, 2, .inl (5, 0), false) := rfl
theorem lk_Sc_fill_77 : sc_lk tb_Sc_fill 77 = some (.iload 5, 2, .inl (5, 0), true) := rfl
theorem lk_Sc_fill_79 : sc_lk tb_Sc_fill 79 = some (.iload 4, 2, .inl (4, 0), false) := rfl
theorem lk_Sc_fill_81 : sc_lk tb_Sc_fill 81 = some (.if_icmp .ge 34, 3, .inl (115, 0), false) := rfl
theorem lk_Sc_fill_84 : sc_lk tb_Sc_fill 84 = some (.aload_n 3, 1, .inl (3, 0), false) := rfl
theorem lk_Sc_fill_85 : sc_lk tb_Sc_fill 85 = some (.iload 5, 2, .inl (5, 0), false) := rfl
theorem lk_Sc_fill_87 : sc_lk tb_Sc_fill 87 = some (.bipush (-100), 2, .inr (.inr 0), false) := rfl
theorem lk_Sc_fill_89 : sc_lk tb_Sc_fill 89 = some (.bipush 100, 2, .inr (.inr 0), false) := rfl
theorem lk_Sc_fill_91 : sc_lk tb_Sc_fill 91 = some (.aload_n 0, 1, .inl (0, 0), false) := rfl
theorem lk_Sc_fill_92 : sc_lk tb_Sc_fill 92 = some (.getfield 30, 3, .inl (4, 3), false) := rfl
theorem lk_Sc_fill_95 : sc_lk tb_Sc_fill 95 = some (.iload_n 2, 1, .inl (2, 0), false) := rfl
theorem lk_Sc_fill_96 : sc_lk tb_Sc_fill 96 = some (.aaload, 1, .inr (.inr 0), false) := rfl
theorem lk_Sc_fill_97 : sc_lk tb_Sc_fill 97 = some (.iload 5, 2, .inl (5, 0), false) := rfl
theorem lk_Sc_fill_99 : sc_lk tb_Sc_fill 99 = some (.iaload, 1, .inr (.inr 0), false) := rfl
theorem lk_Sc_fill_100 : sc_lk tb_Sc_fill 100 = some (.invokestatic 225, 3, .inr (.inl (100, 2, mq_Ma_min)), false) := rfl
theorem lk_Sc_fill_103 : sc_lk tb_Sc_fill 103 = some (.invokestatic 230, 3, .inr (.inl (100, 2, mq_Ma_maxI)), false) := rfl
theorem lk_Sc_fill_106 : sc_lk tb_Sc_fill 106 = some (.invokevirtual 121, 3, .inr (.inl (2, 2, mq_No_put)), false) := rfl
theorem lk_Sc_fill_109 : sc_lk tb_Sc_fill 109 = some (.iinc 5 1, 3, .inl (5, 0), false) := rfl
theorem lk_Sc_fill_112 : sc_lk tb_Sc_fill 112 = some (.goto (-35), 3, .inl (77, 0), false) := rfl
theorem lk_Sc_fill_115 : sc_lk tb_Sc_fill 115 = some (.iload 4, 2, .inl (4, 0), false) := rfl
theorem lk_Sc_fill_117 : sc_lk tb_Sc_fill 117 = some (.ireturn, 1, .inr (.inr 0), false) := rfl
def tb_Sc_asked : sc_T := [(0, .aload_n 0, 1, .inl (0, 0), false), (1, .getfield 233, 3, .inl (4, 7), false), (4, .ireturn, 1, .inr (.inr 0), false)]
theorem tk_Sc_asked : sc_ok mq_Sc_asked tb_Sc_asked = true := by decide +kernel
theorem lk_Sc_asked_0 : sc_lk tb_Sc_asked 0 = some (.aload_n 0, 1, .inl (0, 0), false) := rfl
theorem lk_Sc_asked_1 : sc_lk tb_Sc_asked 1 = some (.getfield 233, 3, .inl (4, 7), false) := rfl
theorem lk_Sc_asked_4 : sc_lk tb_Sc_asked 4 = some (.ireturn, 1, .inr (.inr 0), false) := rfl
def tb_Sc_upper : sc_T := [(0, .aload_n 0, 1, .inl (0, 0), false), (1, .getfield 236, 3, .inl (4, 8), false), (4, .lreturn, 1, .inr (.inr 0), false)]
theorem tk_Sc_upper : sc_ok mq_Sc_upper tb_Sc_upper = true := by decide +kernel
theorem lk_Sc_upper_0 : sc_lk tb_Sc_upper 0 = some (.aload_n 0, 1, .inl (0, 0), false) := rfl
theorem lk_Sc_upper_1 : sc_lk tb_Sc_upper 1 = some (.getfield 236, 3, .inl (4, 8), false) := rfl
theorem lk_Sc_upper_4 : sc_lk tb_Sc_upper 4 = some (.lreturn, 1, .inr (.inr 0), false) := rfl
def tb_Sc_lower : sc_T := [(0, .aload_n 0, 1, .inl (0, 0), false), (1, .getfield 46, 3, .inl (4, 9), false), (4, .lreturn, 1, .inr (.inr 0), false)]
theorem tk_Sc_lower : sc_ok mq_Sc_lower tb_Sc_lower = true := by decide +kernel
theorem lk_Sc_lower_0 : sc_lk tb_Sc_lower 0 = some (.aload_n 0, 1, .inl (0, 0), false) := rfl
theorem lk_Sc_lower_1 : sc_lk tb_Sc_lower 1 = some (.getfield 46, 3, .inl (4, 9), false) := rfl
theorem lk_Sc_lower_4 : sc_lk tb_Sc_lower 4 = some (.lreturn, 1, .inr (.inr 0), false) := rfl
def tb_Sc_count : sc_T := [(0, .iload_n 1, 1, .inl (1, 0), false), (1, .tableswitch 78 0 4 #[35, 43, 52, 61, 70], 35, .inr (.inr 0), false), (36, .aload_n 0, 1, .inl (0, 0), false), (37, .getfield 20, 3, .inl (4, 1), false), (40, .getfield 50, 3, .inl (0, 1), false), (43, .ireturn, 1, .inr (.inr 0), false), (44, .aload_n 0, 1, .inl (0, 0), false), (45, .getfield 20, 3, .inl (4, 1), false), (48, .iconst 1, 1, .inr (.inr 0), false), (49, .invokevirtual 151, 3, .inr (.inl (0, 1, mq_Ch_countKind)), false), (52, .ireturn, 1, .inr (.inr 0), false), (53, .aload_n 0, 1, .inl (0, 0), false), (54, .getfield 20, 3, .inl (4, 1), false), (57, .iconst 2, 1, .inr (.inr 0), false), (58, .invokevirtual 151, 3, .inr (.inl (0, 1, mq_Ch_countKind)), false), (61, .ireturn, 1, .inr (.inr 0), false), (62, .aload_n 0, 1, .inl (0, 0), false), (63, .getfield 20, 3, .inl (4, 1), false), (66, .iconst 0, 1, .inr (.inr 0), false), (67, .invokevirtual 151, 3, .inr (.inl (0, 1, mq_Ch_countKind)), false), (70, .ireturn, 1, .inr (.inr 0), false), (71, .aload_n 0, 1, .inl (0, 0), false), (72, .getfield 20, 3, .inl (4, 1), false), (75, .getfield 56, 3, .inl (0, 2), false), (78, .ireturn, 1, .inr (.inr 0), false), (79, .iconst (-1), 1, .inr (.inr 0), false), (80, .ireturn, 1, .inr (.inr 0), false)]
theorem tk_Sc_count : sc_ok mq_Sc_count tb_Sc_count = true := by decide +kernel
theorem lk_Sc_count_0 : sc_lk tb_Sc_count 0 = some (.iload_n 1, 1, .inl (1, 0), false) := rfl
theorem lk_Sc_count_1 : sc_lk tb_Sc_count 1 = some (.tableswitch 78 0 4 #[35, 43, 52, 61, 70], 35, .inr (.inr 0), false) := rfl
theorem lk_Sc_count_36 : sc_lk tb_Sc_count 36 = some (.aload_n 0, 1, .inl (0, 0), false) := rfl
theorem lk_Sc_count_37 : sc_lk tb_Sc_count 37 = some (.getfield 20, 3, .inl (4, 1), false) := rfl
theorem lk_Sc_count_40 : sc_lk tb_Sc_count 40 = some (.getfield 50, 3, .inl (0, 1), false) := rfl
theorem lk_Sc_count_43 : sc_lk tb_Sc_count 43 = some (.ireturn, 1, .inr (.inr 0), false) := rfl
theorem lk_Sc_count_44 : sc_lk tb_Sc_count 44 = some (.aload_n 0, 1, .inl (0, 0), false) := rfl
theorem lk_Sc_count_45 : sc_lk tb_Sc_count 45 = some (.getfield 20, 3, .inl (4, 1), false) := rfl
theorem lk_Sc_count_48 : sc_lk tb_Sc_count 48 = some (.iconst 1, 1, .inr (.inr 0), false) := rfl
theorem lk_Sc_count_49 : sc_lk tb_Sc_count 49 = some (.invokevirtual 151, 3, .inr (.inl (0, 1, mq_Ch_countKind)), false) := rfl
theorem lk_Sc_count_52 : sc_lk tb_Sc_count 52 = some (.ireturn, 1, .inr (.inr 0), false) := rfl
theorem lk_Sc_count_53 : sc_lk tb_Sc_count 53 = some (.aload_n 0, 1, .inl (0, 0), false) := rfl
theorem lk_Sc_count_54 : sc_lk tb_Sc_count 54 = some (.getfield 20, 3, .inl (4, 1), false) := rfl
theorem lk_Sc_count_57 : sc_lk tb_Sc_count 57 = some (.iconst 2, 1, .inr (.inr 0), false) := rfl
theorem lk_Sc_count_58 : sc_lk tb_Sc_count 58 = some (.invokevirtual 151, 3, .inr (.inl (0, 1, mq_Ch_countKind)), false) := rfl
theorem lk_Sc_count_61 : sc_lk tb_Sc_count 61 = some (.ireturn, 1, .inr (.inr 0), false) := rfl
theorem lk_Sc_count_62 : sc_lk tb_Sc_count 62 = some (.aload_n 0, 1, .inl (0, 0), false) := rfl
theorem lk_Sc_count_63 : sc_lk tb_Sc_count 63 = some (.getfield 20, 3, .inl (4, 1), false) := rfl
theorem lk_Sc_count_66 : sc_lk tb_Sc_count 66 = some (.iconst 0, 1, .inr (.inr 0), false) := rfl
theorem lk_Sc_count_67 : sc_lk tb_Sc_count 67 = some (.invokevirtual 151, 3, .inr (.inl (0, 1, mq_Ch_countKind)), false) := rfl
theorem lk_Sc_count_70 : sc_lk tb_Sc_count 70 = some (.ireturn, 1, .inr (.inr 0), false) := rfl
theorem lk_Sc_count_71 : sc_lk tb_Sc_count 71 = some (.aload_n 0, 1, .inl (0, 0), false) := rfl
theorem lk_Sc_count_72 : sc_lk tb_Sc_count 72 = some (.getfield 20, 3, .inl (4, 1), false) := rfl
theorem lk_Sc_count_75 : sc_lk tb_Sc_count 75 = some (.getfield 56, 3, .inl (0, 2), false) := rfl
theorem lk_Sc_count_78 : sc_lk tb_Sc_count 78 = some (.ireturn, 1, .inr (.inr 0), false) := rfl
theorem lk_Sc_count_79 : sc_lk tb_Sc_count 79 = some (.iconst (-1), 1, .inr (.inr 0), false) := rfl
theorem lk_Sc_count_80 : sc_lk tb_Sc_count 80 = some (.ireturn, 1, .inr (.inr 0), false) := rfl
def tb_Sc_finding : sc_T := [(0, .aload_n 0, 1, .inl (0, 0), false), (1, .getfield 239, 3, .inl (4, 6), false), (4, .ireturn, 1, .inr (.inr 0), false)]
theorem tk_Sc_finding : sc_ok mq_Sc_finding tb_Sc_finding = true := by decide +kernel
theorem lk_Sc_finding_0 : sc_lk tb_Sc_finding 0 = some (.aload_n 0, 1, .inl (0, 0), false) := rfl
theorem lk_Sc_finding_1 : sc_lk tb_Sc_finding 1 = some (.getfield 239, 3, .inl (4, 6), false) := rfl
theorem lk_Sc_finding_4 : sc_lk tb_Sc_finding 4 = some (.ireturn, 1, .inr (.inr 0), false) := rfl
def tb_Sc_findings : sc_T := [(0, .iload_n 1, 1, .inl (1, 0), false), (1, .iconst 1, 1, .inr (.inr 0), false), (2, .if_icmp .lt 8, 3, .inl (10, 0), false), (5, .iload_n 1, 1, .inl (1, 0), false), (6, .iconst 5, 1, .inr (.inr 0), false), (7, .if_icmp .le 7, 3, .inl (14, 0), false), (10, .iconst (-1), 1, .inr (.inr 0), false), (11, .goto 9, 3, .inl (20, 0), false), (14, .aload_n 0, 1, .inl (0, 0), false), (15, .getfield 43, 3, .inl (4, 5), false), (18, .iload_n 1, 1, .inl (1, 0), false), (19, .iaload, 1, .inr (.inr 0), false), (20, .ireturn, 1, .inr (.inr 0), false)]
theorem tk_Sc_findings : sc_ok mq_Sc_findings tb_Sc_findings = true := by decide +kernel
theorem lk_Sc_findings_0 : sc_lk tb_Sc_findings 0 = some (.iload_n 1, 1, .inl (1, 0), false) := rfl
theorem lk_Sc_findings_1 : sc_lk tb_Sc_findings 1 = some (.iconst 1, 1, .inr (.inr 0), false) := rfl
theorem lk_Sc_findings_2 : sc_lk tb_Sc_findings 2 = some (.if_icmp .lt 8, 3, .inl (10, 0), false) := rfl
theorem lk_Sc_findings_5 : sc_lk tb_Sc_findings 5 = some (.iload_n 1, 1, .inl (1, 0), false) := rfl
theorem lk_Sc_findings_6 : sc_lk tb_Sc_findings 6 = some (.iconst 5, 1, .inr (.inr 0), false) := rfl
theorem lk_Sc_findings_7 : sc_lk tb_Sc_findings 7 = some (.if_icmp .le 7, 3, .inl (14, 0), false) := rfl
theorem lk_Sc_findings_10 : sc_lk tb_Sc_findings 10 = some (.iconst (-1), 1, .inr (.inr 0), false) := rfl
theorem lk_Sc_findings_11 : sc_lk tb_Sc_findings 11 = some (.goto 9, 3, .inl (20, 0), false) := rfl
theorem lk_Sc_findings_14 : sc_lk tb_Sc_findings 14 = some (.aload_n 0, 1, .inl (0, 0), false) := rfl
theorem lk_Sc_findings_15 : sc_lk tb_Sc_findings 15 = some (.getfield 43, 3, .inl (4, 5), false) := rfl
theorem lk_Sc_findings_18 : sc_lk tb_Sc_findings 18 = some (.iload_n 1, 1, .inl (1, 0), false) := rfl
theorem lk_Sc_findings_19 : sc_lk tb_Sc_findings 19 = some (.iaload, 1, .inr (.inr 0), false) := rfl
theorem lk_Sc_findings_20 : sc_lk tb_Sc_findings 20 = some (.ireturn, 1, .inr (.inr 0), false) := rfl
def tb_Sc_digest : sc_T := [(0, .ldc2_w 242, 3, .inr (.inr (17)), false), (3, .lstore_n 1, 1, .inl (1, 0), false), (4, .iconst 0, 1, .inr (.inr 0), false), (5, .istore_n 3, 1, .inl (3, 0), false), (6, .iload_n 3, 1, .inl (3, 0), true), (7, .aload_n 0, 1, .inl (0, 0), false), (8, .getfield 20, 3, .inl (4, 1), false), (11, .getfield 50, 3, .inl (0, 1), false), (14, .if_icmp .ge 23, 3, .inl (37, 0), false), (17, .aload_n 0, 1, .inl (0, 0), false), (18, .getfield 20, 3, .inl (4, 1), false), (21, .getfield 67, 3, .inl (0, 0), false), (24, .iload_n 3, 1, .inl (3, 0), false), (25, .aaload, 1, .inr (.inr 0), false), (26, .lload_n 1, 1, .inl (1, 0), false), (27, .invokevirtual 244, 3, .inr (.inl (2, 1, mq_No_digestOn)), false), (30, .lstore_n 1, 1, .inl (1, 0), false), (31, .iinc 3 1, 3, .inl (3, 0), false), (34, .goto (-28), 3, .inl (6, 0), false), (37, .iconst 0, 1, .inr (.inr 0), false), (38, .istore_n 3, 1, .inl (3, 0), false), (39, .iload_n 3, 1, .inl (3, 0), true), (40, .iconst 4, 1, .inr (.inr 0), false), (41, .if_icmp .ge 60, 3, .inl (101, 0), false), (44, .ldc2_w 248, 3, .inr (.inr (31)), false), (47, .lload_n 1, 1, .inl (1, 0), false), (48, .lmul, 1, .inr (.inr 0), false), (49, .aload_n 0, 1, .inl (0, 0), false), (50, .getfield 33, 3, .inl (4, 4), false), (53, .iload_n 3, 1, .inl (3, 0), false), (54, .iaload, 1, .inr (.inr 0), false), (55, .i2l, 1, .inr (.inr 0), false), (56, .ladd, 1, .inr (.inr 0), false), (57, .lstore_n 1, 1, .inl (1, 0), false), (58, .iconst 0, 1, .inr (.inr 0), false), (59, .istore 4, 2, .inl (4, 0), false), (61, .iload 4, 2, .inl (4, 0), true), (63, .aload_n 0, 1, .inl (0, 0), false), (64, .getfield 33, 3, .inl (4, 4), false), (67, .iload_n 3, 1, .inl (3, 0), false), (68, .iaload, 1, .inr (.inr 0), false), (69, .if_icmp .ge 26, 3, .inl (95, 0), false), (72, .ldc2_w 248, 3, .inr (.inr (31)), false), (75, .lload_n 1, 1, .inl (1, 0), false), (76, .lmul, 1, .inr (.inr 0), false), (77, .aload_n 0, 1, .inl (0, 0), false), (78, .getfield 30, 3, .inl (4, 3), false), (81, .iload_n 3, 1, .inl (3, 0), false), (82, .aaload, 1, .inr (.inr 0), false), (83, .iload 4, 2, .inl (4, 0), false), (85, .iaload, 1, .inr (.inr 0), false), (86, .i2l, 1, .inr (.inr 0), false), (87, .ladd, 1, .inr (.inr 0), false), (88, .lstore_n 1, 1, .inl (1, 0), false), (89, .iinc 4 1, 3, .inl (4, 0), false), (92, .goto (-31), 3, .inl (61, 0), false), (95, .iinc 3 1, 3, .inl (3, 0), false), (98, .goto (-59), 3, .inl (39, 0), false), (101, .lload_n 1, 1, .inl (1, 0), false), (102, .lreturn, 1, .inr (.inr 0), false)]
theorem tk_Sc_digest : sc_ok mq_Sc_digest tb_Sc_digest = true := by decide +kernel
theorem lk_Sc_digest_0 : sc_lk tb_Sc_digest 0 = some (.ldc2_w 242, 3, .inr (.inr (17)), false) := rfl
theorem lk_Sc_digest_3 : sc_lk tb_Sc_digest 3 = some (.lstore_n 1, 1, .inl (1, 0), false) := rfl
theorem lk_Sc_digest_4 : sc_lk tb_Sc_digest 4 = some (.iconst 0, 1, .inr (.inr 0), false) := rfl
theorem lk_Sc_digest_5 : sc_lk tb_Sc_digest 5 = some (.istore_n 3, 1, .inl (3, 0), false) := rfl
theorem lk_Sc_digest_6 : sc_lk tb_Sc_digest 6 = some (.iload_n 3, 1, .inl (3, 0), true) := rfl
theorem lk_Sc_digest_7 : sc_lk tb_Sc_digest 7 = some (.aload_n 0, 1, .inl (0, 0), false) := rfl
theorem lk_Sc_digest_8 : sc_lk tb_Sc_digest 8 = some (.getfield 20, 3, .inl (4, 1), false) := rfl
theorem lk_Sc_digest_11 : sc_lk tb_Sc_digest 11 = some (.getfield 50, 3, .inl (0, 1), false) := rfl
theorem lk_Sc_digest_14 : sc_lk tb_Sc_digest 14 = some (.if_icmp .ge 23, 3, .inl (37, 0), false) := rfl
theorem lk_Sc_digest_17 : sc_lk tb_Sc_digest 17 = some (.aload_n 0, 1, .inl (0, 0), false) := rfl
theorem lk_Sc_digest_18 : sc_lk tb_Sc_digest 18 = some (.getfield 20, 3, .inl (4, 1), false) := rfl
theorem lk_Sc_digest_21 : sc_lk tb_Sc_digest 21 = some (.getfield 67, 3, .inl (0, 0), false) := rfl
theorem lk_Sc_digest_24 : sc_lk tb_Sc_digest 24 = some (.iload_n 3, 1, .inl (3, 0), false) := rfl
theorem lk_Sc_digest_25 : sc_lk tb_Sc_digest 25 = some (.aaload, 1, .inr (.inr 0), false) := rfl
theorem lk_Sc_digest_26 : sc_lk tb_Sc_digest 26 = some (.lload_n 1, 1, .inl (1, 0), false) := rfl
theorem lk_Sc_digest_27 : sc_lk tb_Sc_digest 27 = some (.invokevirtual 244, 3, .inr (.inl (2, 1, mq_No_digestOn)), false) := rfl
theorem lk_Sc_digest_30 : sc_lk tb_Sc_digest 30 = some (.lstore_n 1, 1, .inl (1, 0), false) := rfl
theorem lk_Sc_digest_31 : sc_lk tb_Sc_digest 31 = some (.iinc 3 1, 3, .inl (3, 0), false) := rfl
theorem lk_Sc_digest_34 : sc_lk tb_Sc_digest 34 = some (.goto (-28), 3, .inl (6, 0), false) := rfl
theorem lk_Sc_digest_37 : sc_lk tb_Sc_digest 37 = some (.iconst 0, 1, .inr (.inr 0), false) := rfl
theorem lk_Sc_digest_38 : sc_lk tb_Sc_digest 38 = some (.istore_n 3, 1, .inl (3, 0), false) := rfl
theorem lk_Sc_digest_39 : sc_lk tb_Sc_digest 39 = some (.iload_n 3, 1, .inl (3, 0), true) := rfl
theorem lk_Sc_digest_40 : sc_lk tb_Sc_digest 40 = some (.iconst 4, 1, .inr (.inr 0), false) := rfl
theorem lk_Sc_digest_41 : sc_lk tb_Sc_digest 41 = some (.if_icmp .ge 60, 3, .inl (101, 0), false) := rfl
theorem lk_Sc_digest_44 : sc_lk tb_Sc_digest 44 = some (.ldc2_w 248, 3, .inr (.inr (31)), false) := rfl
theorem lk_Sc_digest_47 : sc_lk tb_Sc_digest 47 = some (.lload_n 1, 1, .inl (1, 0), false) := rfl
theorem lk_Sc_digest_48 : sc_lk tb_Sc_digest 48 = some (.lmul, 1, .inr (.inr 0), false) := rfl
theorem lk_Sc_digest_49 : sc_lk tb_Sc_digest 49 = some (.aload_n 0, 1, .inl (0, 0), false) := rfl
theorem lk_Sc_digest_50 : sc_lk tb_Sc_digest 50 = some (.getfield 33, 3, .inl (4, 4), false) := rfl
theorem lk_Sc_digest_53 : sc_lk tb_Sc_digest 53 = some (.iload_n 3, 1, .inl (3, 0), false) := rfl
theorem lk_Sc_digest_54 : sc_lk tb_Sc_digest 54 = some (.iaload, 1, .inr (.inr 0), false) := rfl
theorem lk_Sc_digest_55 : sc_lk tb_Sc_digest 55 = some (.i2l, 1, .inr (.inr 0), false) := rfl
theorem lk_Sc_digest_56 : sc_lk tb_Sc_digest 56 = some (.ladd, 1, .inr (.inr 0), false) := rfl
theorem lk_Sc_digest_57 : sc_lk tb_Sc_digest 57 = some (.lstore_n 1, 1, .inl (1, 0), false) := rfl
theorem lk_Sc_digest_58 : sc_lk tb_Sc_digest 58 = some (.iconst 0, 1, .inr (.inr 0), false) := rfl
theorem lk_Sc_digest_59 : sc_lk tb_Sc_digest 59 = some (.istore 4, 2, .inl (4, 0), false) := rfl
theorem lk_Sc_digest_61 : sc_lk tb_Sc_digest 61 = some (.iload 4, 2, .inl (4, 0), true) := rfl
theorem lk_Sc_digest_63 : sc_lk tb_Sc_digest 63 = some (.aload_n 0, 1, .inl (0, 0), false) := rfl
theorem lk_Sc_digest_64 : sc_lk tb_Sc_digest 64 = some (.getfield 33, 3, .inl (4, 4), false) := rfl
theorem lk_Sc_digest_67 : sc_lk tb_Sc_digest 67 = some (.iload_n 3, 1, .inl (3, 0), false) := rfl
theorem lk_Sc_digest_68 : sc_lk tb_Sc_digest 68 = some (.iaload, 1, .inr (.inr 0), false) := rfl
theorem lk_Sc_digest_69 : sc_lk tb_Sc_digest 69 = some (.if_icmp .ge 26, 3, .inl (95, 0), false) := rfl
theorem lk_Sc_digest_72 : sc_lk tb_Sc_digest 72 = some (.ldc2_w 248, 3, .inr (.inr (31)), false) := rfl
theorem lk_Sc_digest_75 : sc_lk tb_Sc_digest 75 = some (.lload_n 1, 1, .inl (1, 0), false) := rfl
theorem lk_Sc_digest_76 : sc_lk tb_Sc_digest 76 = some (.lmul, 1, .inr (.inr 0), false) := rfl
theorem lk_Sc_digest_77 : sc_lk tb_Sc_digest 77 = some (.aload_n 0, 1, .inl (0, 0), false) := rfl
theorem lk_Sc_digest_78 : sc_lk tb_Sc_digest 78 = some (.getfield 30, 3, .inl (4, 3), false) := rfl
theorem lk_Sc_digest_81 : sc_lk tb_Sc_digest 81 = some (.iload_n 3, 1, .inl (3, 0), false) := rfl
theorem lk_Sc_digest_82 : sc_lk tb_Sc_digest 82 = some (.aaload, 1, .inr (.inr 0), false) := rfl
theorem lk_Sc_digest_83 : sc_lk tb_Sc_digest 83 = some (.iload 4, 2, .inl (4, 0), false) := rfl
theorem lk_Sc_digest_85 : sc_lk tb_Sc_digest 85 = some (.iaload, 1, .inr (.inr 0), false) := rfl
theorem lk_Sc_digest_86 : sc_lk tb_Sc_digest 86 = some (.i2l, 1, .inr (.inr 0), false) := rfl
theorem lk_Sc_digest_87 : sc_lk tb_Sc_digest 87 = some (.ladd, 1, .inr (.inr 0), false) := rfl
theorem lk_Sc_digest_88 : sc_lk tb_Sc_digest 88 = some (.lstore_n 1, 1, .inl (1, 0), false) := rfl
theorem lk_Sc_digest_89 : sc_lk tb_Sc_digest 89 = some (.iinc 4 1, 3, .inl (4, 0), false) := rfl
theorem lk_Sc_digest_92 : sc_lk tb_Sc_digest 92 = some (.goto (-31), 3, .inl (61, 0), false) := rfl
theorem lk_Sc_digest_95 : sc_lk tb_Sc_digest 95 = some (.iinc 3 1, 3, .inl (3, 0), false) := rfl
theorem lk_Sc_digest_98 : sc_lk tb_Sc_digest 98 = some (.goto (-59), 3, .inl (39, 0), false) := rfl
theorem lk_Sc_digest_101 : sc_lk tb_Sc_digest 101 = some (.lload_n 1, 1, .inl (1, 0), false) := rfl
theorem lk_Sc_digest_102 : sc_lk tb_Sc_digest 102 = some (.lreturn, 1, .inr (.inr 0), false) := rfl
