def tb_Mo_node : sc_T := [(0, .iload_n 1, 1, .inl (1, 0), false), (1, .iconst 0, 1, .inr (.inr 0), false), (2, .iconst 2, 1, .inr (.inr 0), false), (3, .invokestatic 83, 3, .inr (.inl (100, 3, mq_Mo_in)), false), (6, .ifCond .eq 16, 3, .inl (22, 0), false), (9, .iload_n 1, 1, .inl (1, 0), false), (10, .ifCond .eq 14, 3, .inl (24, 0), false), (13, .iload_n 2, 1, .inl (2, 0), false), (14, .iconst 2, 1, .inr (.inr 0), false), (15, .iconst 3, 1, .inr (.inr 0), false), (16, .invokestatic 83, 3, .inr (.inl (100, 3, mq_Mo_in)), false), (19, .ifCond .ne 5, 3, .inl (24, 0), false), (22, .iconst (-1), 1, .inr (.inr 0), false), (23, .ireturn, 1, .inr (.inr 0), false), (24, .aload_n 0, 1, .inl (0, 0), false), (25, .getfield 80, 3, .inl (5, 5), false), (28, .bipush 10, 2, .inr (.inr 0), false), (30, .if_icmp .ne 6, 3, .inl (36, 0), false), (33, .bipush (-2), 2, .inr (.inr 0), false), (35, .ireturn, 1, .inr (.inr 0), false), (36, .iload_n 1, 1, .inl (1, 0), false), (37, .ifCond .eq 18, 3, .inl (55, 0), false), (40, .aload_n 0, 1, .inl (0, 0), false), (41, .invokevirtual 91, 3, .inr (.inl (5, 0, mq_Mo_worlds)), false), (44, .iload_n 2, 1, .inl (2, 0), false), (45, .imul, 1, .inr (.inr 0), false), (46, .sipush 243, 3, .inr (.inr 0), false), (49, .if_icmp .le 6, 3, .inl (55, 0), false), (52, .bipush (-6), 2, .inr (.inr 0), false), (54, .ireturn, 1, .inr (.inr 0), false), (55, .aload_n 0, 1, .inl (0, 0), false), (56, .getfield 17, 3, .inl (5, 6), false), (59, .aload_n 0, 1, .inl (0, 0), false), (60, .getfield 80, 3, .inl (5, 5), false), (63, .iload_n 1, 1, .inl (1, 0), false), (64, .iastore, 1, .inr (.inr 0), false), (65, .aload_n 0, 1, .inl (0, 0), false), (66, .getfield 20, 3, .inl (5, 7), false), (69, .aload_n 0, 1, .inl (0, 0), false), (70, .getfield 80, 3, .inl (5, 5), false), (73, .iload_n 1, 1, .inl (1, 0), false), (74, .ifCond .ne 7, 3, .inl (81, 0), false), (77, .iconst 0, 1, .inr (.inr 0), false), (78, .goto 4, 3, .inl (82, 0), false), (81, .iload_n 2, 1, .inl (2, 0), false), (82, .iastore, 1, .inr (.inr 0), false), (83, .aload_n 0, 1, .inl (0, 0), false), (84, .getfield 23, 3, .inl (5, 8), false), (87, .aload_n 0, 1, .inl (0, 0), false), (88, .getfield 80, 3, .inl (5, 5), false), (91, .iconst 0, 1, .inr (.inr 0), false), (92, .iastore, 1, .inr (.inr 0), false), (93, .aload_n 0, 1, .inl (0, 0), false), (94, .getfield 29, 3, .inl (5, 10), false), (97, .aload_n 0, 1, .inl (0, 0), false), (98, .getfield 80, 3, .inl (5, 5), false), (101, .iconst 0, 1, .inr (.inr 0), false), (102, .iastore, 1, .inr (.inr 0), false), (103, .aload_n 0, 1, .inl (0, 0), false), (104, .getfield 32, 3, .inl (5, 11), false), (107, .aload_n 0, 1, .inl (0, 0), false), (108, .getfield 80, 3, .inl (5, 5), false), (111, .bipush (-9), 2, .inr (.inr 0), false), (113, .iastore, 1, .inr (.inr 0), false), (114, .aload_n 0, 1, .inl (0, 0), false), (115, .aload_n 0, 1, .inl (0, 0), false), (116, .getfield 80, 3, .inl (5, 5), false), (119, .invokevirtual 95, 3, .inr (.inl (5, 1, mq_Mo_clearTable)), false), (122, .aload_n 0, 1, .inl (0, 0), false), (123, .dup, 1, .inr (.inr 0), false), (124, .getfield 80, 3, .inl (5, 5), false), (127, .iconst 1, 1, .inr (.inr 0), false), (128, .iadd, 1, .inr (.inr 0), false), (129, .putfield 80, 3, .inl (5, 5), false), (132, .aload_n 0, 1, .inl (0, 0), false), (133, .getfield 80, 3, .inl (5, 5), false), (136, .iconst 1, 1, .inr (.inr 0), false), (137, .isub, 1, .inr (.inr 0), false), (138, .ireturn, 1, .inr (.inr 0), false)]
theorem tk_Mo_node : sc_ok mq_Mo_node tb_Mo_node = true := by decide +kernel
theorem lk_Mo_node_0 : sc_lk tb_Mo_node 0 = some (.iload_n 1, 1, .inl (1, 0), false) := rfl
theorem lk_Mo_node_1 : sc_lk tb_Mo_node 1 = some (.iconst 0, 1, .inr (.inr 0), false) := rfl
theorem lk_Mo_node_2 : sc_lk tb_Mo_node 2 = some (.iconst 2, 1, .inr (.inr 0), false) := rfl
theorem lk_Mo_node_3 : sc_lk tb_Mo_node 3 = some (.invokestatic 83, 3, .inr (.inl (100, 3, mq_Mo_in)), false) := rfl
theorem lk_Mo_node_6 : sc_lk tb_Mo_node 6 = some (.ifCond .eq 16, 3, .inl (22, 0), false) := rfl
theorem lk_Mo_node_9 : sc_lk tb_Mo_node 9 = some (.iload_n 1, 1, .inl (1, 0), false) := rfl
theorem lk_Mo_node_10 : sc_lk tb_Mo_node 10 = some (.ifCond .eq 14, 3, .inl (24, 0), false) := rfl
theorem lk_Mo_node_13 : sc_lk tb_Mo_node 13 = some (.iload_n 2, 1, .inl (2, 0), false) := rfl
theorem lk_Mo_node_14 : sc_lk tb_Mo_node 14 = some (.iconst 2, 1, .inr (.inr 0), false) := rfl
theorem lk_Mo_node_15 : sc_lk tb_Mo_node 15 = some (.iconst 3, 1, .inr (.inr 0), false) := rfl
theorem lk_Mo_node_16 : sc_lk tb_Mo_node 16 = some (.invokestatic 83, 3, .inr (.inl (100, 3, mq_Mo_in)), false) := rfl
theorem lk_Mo_node_19 : sc_lk tb_Mo_node 19 = some (.ifCond .ne 5, 3, .inl (24, 0), false) := rfl
theorem lk_Mo_node_22 : sc_lk tb_Mo_node 22 = some (.iconst (-1), 1, .inr (.inr 0), false) := rfl
theorem lk_Mo_node_23 : sc_lk tb_Mo_node 23 = some (.ireturn, 1, .inr (.inr 0), false) := rfl
theorem lk_Mo_node_24 : sc_lk tb_Mo_node 24 = some (.aload_n 0, 1, .inl (0, 0), false) := rfl
theorem lk_Mo_node_25 : sc_lk tb_Mo_node 25 = some (.getfield 80, 3, .inl (5, 5), false) := rfl
theorem lk_Mo_node_28 : sc_lk tb_Mo_node 28 = some (.bipush 10, 2, .inr (.inr 0), false) := rfl
theorem lk_Mo_node_30 : sc_lk tb_Mo_node 30 = some (.if_icmp .ne 6, 3, .inl (36, 0), false) := rfl
theorem lk_Mo_node_33 : sc_lk tb_Mo_node 33 = some (.bipush (-2), 2, .inr (.inr 0), false) := rfl
theorem lk_Mo_node_35 : sc_lk tb_Mo_node 35 = some (.ireturn, 1, .inr (.inr 0), false) := rfl
theorem lk_Mo_node_36 : sc_lk tb_Mo_node 36 = some (.iload_n 1, 1, .inl (1, 0), false) := rfl
theorem lk_Mo_node_37 : sc_lk tb_Mo_node 37 = some (.ifCond .eq 18, 3, .inl (55, 0), false) := rfl
theorem lk_Mo_node_40 : sc_lk tb_Mo_node 40 = some (.aload_n 0, 1, .inl (0, 0), false) := rfl
theorem lk_Mo_node_41 : sc_lk tb_Mo_node 41 = some (.invokevirtual 91, 3, .inr (.inl (5, 0, mq_Mo_worlds)), false) := rfl
theorem lk_Mo_node_44 : sc_lk tb_Mo_node 44 = some (.iload_n 2, 1, .inl (2, 0), false) := rfl
theorem lk_Mo_node_45 : sc_lk tb_Mo_node 45 = some (.imul, 1, .inr (.inr 0), false) := rfl
theorem lk_Mo_node_46 : sc_lk tb_Mo_node 46 = some (.sipush 243, 3, .inr (.inr 0), false) := rfl
theorem lk_Mo_node_49 : sc_lk tb_Mo_node 49 = some (.if_icmp .le 6, 3, .inl (55, 0), false) := rfl
theorem lk_Mo_node_52 : sc_lk tb_Mo_node 52 = some (.bipush (-6), 2, .inr (.inr 0), false) := rfl
theorem lk_Mo_node_54 : sc_lk tb_Mo_node 54 = some (.ireturn, 1, .inr (.inr 0), false) := rfl
theorem lk_Mo_node_55 : sc_lk tb_Mo_node 55 = some (.aload_n 0, 1, .inl (0, 0), false) := rfl
theorem lk_Mo_node_56 : sc_lk tb_Mo_node 56 = some (.getfield 17, 3, .inl (5, 6), false) := rfl
theorem lk_Mo_node_59 : sc_lk tb_Mo_node 59 = some (.aload_n 0, 1, .inl (0, 0), false) := rfl
theorem lk_Mo_node_60 : sc_lk tb_Mo_node 60 = some (.getfield 80, 3, .inl (5, 5), false) := rfl
theorem lk_Mo_node_63 : sc_lk tb_Mo_node 63 = some (.iload_n 1, 1, .inl (1, 0), false) := rfl
theorem lk_Mo_node_64 : sc_lk tb_Mo_node 64 = some (.iastore, 1, .inr (.inr 0), false) := rfl
theorem lk_Mo_node_65 : sc_lk tb_Mo_node 65 = some (.aload_n 0, 1, .inl (0, 0), false) := rfl
theorem lk_Mo_node_66 : sc_lk tb_Mo_node 66 = some (.getfield 20, 3, .inl (5, 7), false) := rfl
theorem lk_Mo_node_69 : sc_lk tb_Mo_node 69 = some (.aload_n 0, 1, .inl (0, 0), false) := rfl
theorem lk_Mo_node_70 : sc_lk tb_Mo_node 70 = some (.getfield 80, 3, .inl (5, 5), false) := rfl
theorem lk_Mo_node_73 : sc_lk tb_Mo_node 73 = some (.iload_n 1, 1, .inl (1, 0), false) := rfl
theorem lk_Mo_node_74 : sc_lk tb_Mo_node 74 = some (.ifCond .ne 7, 3, .inl (81, 0), false) := rfl
theorem lk_Mo_node_77 : sc_lk tb_Mo_node 77 = some (.iconst 0, 1, .inr (.inr 0), false) := rfl
theorem lk_Mo_node_78 : sc_lk tb_Mo_node 78 = some (.goto 4, 3, .inl (82, 0), false) := rfl
theorem lk_Mo_node_81 : sc_lk tb_Mo_node 81 = some (.iload_n 2, 1, .inl (2, 0), false) := rfl
theorem lk_Mo_node_82 : sc_lk tb_Mo_node 82 = some (.iastore, 1, .inr (.inr 0), false) := rfl
theorem lk_Mo_node_83 : sc_lk tb_Mo_node 83 = some (.aload_n 0, 1, .inl (0, 0), false) := rfl
theorem lk_Mo_node_84 : sc_lk tb_Mo_node 84 = some (.getfield 23, 3, .inl (5, 8), false) := rfl
theorem lk_Mo_node_87 : sc_lk tb_Mo_node 87 = some (.aload_n 0, 1, .inl (0, 0), false) := rfl
theorem lk_Mo_node_88 : sc_lk tb_Mo_node 88 = some (.getfield 80, 3, .inl (5, 5), false) := rfl
theorem lk_Mo_node_91 : sc_lk tb_Mo_node 91 = some (.iconst 0, 1, .inr (.inr 0), false) := rfl
theorem lk_Mo_node_92 : sc_lk tb_Mo_node 92 = some (.iastore, 1, .inr (.inr 0), false) := rfl
theorem lk_Mo_node_93 : sc_lk tb_Mo_node 93 = some (.aload_n 0, 1, .inl (0, 0), false) := rfl
theorem lk_Mo_node_94 : sc_lk tb_Mo_node 94 = some (.getfield 29, 3, .inl (5, 10), false) := rfl
theorem lk_Mo_node_97 : sc_lk tb_Mo_node 97 = some (.aload_n 0, 1, .inl (0, 0), false) := rfl
theorem lk_Mo_node_98 : sc_lk tb_Mo_node 98 = some (.getfield 80, 3, .inl (5, 5), false) := rfl
theorem lk_Mo_node_101 : sc_lk tb_Mo_node 101 = some (.iconst 0, 1, .inr (.inr 0), false) := rfl
theorem lk_Mo_node_102 : sc_lk tb_Mo_node 102 = some (.iastore, 1, .inr (.inr 0), false) := rfl
theorem lk_Mo_node_103 : sc_lk tb_Mo_node 103 = some (.aload_n 0, 1, .inl (0, 0), false) := rfl
theorem lk_Mo_node_104 : sc_lk tb_Mo_node 104 = some (.getfield 32, 3, .inl (5, 11), false) := rfl
theorem lk_Mo_node_107 : sc_lk tb_Mo_node 107 = some (.aload_n 0, 1, .inl (0, 0), false) := rfl
theorem lk_Mo_node_108 : sc_lk tb_Mo_node 108 = some (.getfield 80, 3, .inl (5, 5), false) := rfl
theorem lk_Mo_node_111 : sc_lk tb_Mo_node 111 = some (.bipush (-9), 2, .inr (.inr 0), false) := rfl
theorem lk_Mo_node_113 : sc_lk tb_Mo_node 113 = some (.iastore, 1, .inr (.inr 0), false) := rfl
theorem lk_Mo_node_114 : sc_lk tb_Mo_node 114 = some (.aload_n 0, 1, .inl (0, 0), false) := rfl
theorem lk_Mo_node_115 : sc_lk tb_Mo_node 115 = some (.aload_n 0, 1, .inl (0, 0), false) := rfl
theorem lk_Mo_node_116 : sc_lk tb_Mo_node 116 = some (.getfield 80, 3, .inl (5, 5), false) := rfl
theorem lk_Mo_node_119 : sc_lk tb_Mo_node 119 = some (.invokevirtual 95, 3, .inr (.inl (5, 1, mq_Mo_clearTable)), false) := rfl
theorem lk_Mo_node_122 : sc_lk tb_Mo_node 122 = some (.aload_n 0, 1, .inl (0, 0), false) := rfl
theorem lk_Mo_node_123 : sc_lk tb_Mo_node 123 = some (.dup, 1, .inr (.inr 0), false) := rfl
theorem lk_Mo_node_124 : sc_lk tb_Mo_node 124 = some (.getfield 80, 3, .inl (5, 5), false) := rfl
theorem lk_Mo_node_127 : sc_lk tb_Mo_node 127 = some (.iconst 1, 1, .inr (.inr 0), false) := rfl
theorem lk_Mo_node_128 : sc_lk tb_Mo_node 128 = some (.iadd, 1, .inr (.inr 0), false) := rfl
theorem lk_Mo_node_129 : sc_lk tb_Mo_node 129 = some (.putfield 80, 3, .inl (5, 5), false) := rfl
theorem lk_Mo_node_132 : sc_lk tb_Mo_node 132 = some (.aload_n 0, 1, .inl (0, 0), false) := rfl
theorem lk_Mo_node_133 : sc_lk tb_Mo_node 133 = some (.getfield 80, 3, .inl (5, 5), false) := rfl
theorem lk_Mo_node_136 : sc_lk tb_Mo_node 136 = some (.iconst 1, 1, .inr (.inr 0), false) := rfl
theorem lk_Mo_node_137 : sc_lk tb_Mo_node 137 = some (.isub, 1, .inr (.inr 0), false) := rfl
theorem lk_Mo_node_138 : sc_lk tb_Mo_node 138 = some (.ireturn, 1, .inr (.inr 0), false) := rfl
def tb_Mo_in : sc_T := [(0, .iload_n 0, 1, .inl (0, 0), false), (1, .iload_n 1, 1, .inl (1, 0), false), (2, .if_icmp .lt 12, 3, .inl (14, 0), false), (5, .iload_n 0, 1, .inl (0, 0), false), (6, .iload_n 2, 1, .inl (2, 0), false), (7, .if_icmp .gt 7, 3, .inl (14, 0), false), (10, .iconst 1, 1, .inr (.inr 0), false), (11, .goto 4, 3, .inl (15, 0), false), (14, .iconst 0, 1, .inr (.inr 0), false), (15, .ireturn, 1, .inr (.inr 0), false)]
theorem tk_Mo_in : sc_ok mq_Mo_in tb_Mo_in = true := by decide +kernel
theorem lk_Mo_in_0 : sc_lk tb_Mo_in 0 = some (.iload_n 0, 1, .inl (0, 0), false) := rfl
theorem lk_Mo_in_1 : sc_lk tb_Mo_in 1 = some (.iload_n 1, 1, .inl (1, 0), false) := rfl
theorem lk_Mo_in_2 : sc_lk tb_Mo_in 2 = some (.if_icmp .lt 12, 3, .inl (14, 0), false) := rfl
theorem lk_Mo_in_5 : sc_lk tb_Mo_in 5 = some (.iload_n 0, 1, .inl (0, 0), false) := rfl
theorem lk_Mo_in_6 : sc_lk tb_Mo_in 6 = some (.iload_n 2, 1, .inl (2, 0), false) := rfl
theorem lk_Mo_in_7 : sc_lk tb_Mo_in 7 = some (.if_icmp .gt 7, 3, .inl (14, 0), false) := rfl
theorem lk_Mo_in_10 : sc_lk tb_Mo_in 10 = some (.iconst 1, 1, .inr (.inr 0), false) := rfl
theorem lk_Mo_in_11 : sc_lk tb_Mo_in 11 = some (.goto 4, 3, .inl (15, 0), false) := rfl
theorem lk_Mo_in_14 : sc_lk tb_Mo_in 14 = some (.iconst 0, 1, .inr (.inr 0), false) := rfl
theorem lk_Mo_in_15 : sc_lk tb_Mo_in 15 = some (.ireturn, 1, .inr (.inr 0), false) := rfl
def tb_Mo_worlds : sc_T := [(0, .iconst 1, 1, .inr (.inr 0), false), (1, .istore_n 1, 1, .inl (1, 0), false), (2, .iconst 0, 1, .inr (.inr 0), false), (3, .istore_n 2, 1, .inl (2, 0), false), (4, .iload_n 2, 1, .inl (2, 0), true), (5, .aload_n 0, 1, .inl (0, 0), false), (6, .getfield 80, 3, .inl (5, 5), false), (9, .if_icmp .ge 31, 3, .inl (40, 0), false), (12, .iload_n 1, 1, .inl (1, 0), false), (13, .aload_n 0, 1, .inl (0, 0), false), (14, .getfield 17, 3, .inl (5, 6), false), (17, .iload_n 2, 1, .inl (2, 0), false), (18, .iaload, 1, .inr (.inr 0), false), (19, .ifCond .ne 7, 3, .inl (26, 0), false), (22, .iconst 1, 1, .inr (.inr 0), false), (23, .goto 9, 3, .inl (32, 0), false), (26, .aload_n 0, 1, .inl (0, 0), false), (27, .getfield 20, 3, .inl (5, 7), false), (30, .iload_n 2, 1, .inl (2, 0), false), (31, .iaload, 1, .inr (.inr 0), false), (32, .imul, 1, .inr (.inr 0), false), (33, .istore_n 1, 1, .inl (1, 0), false), (34, .iinc 2 1, 3, .inl (2, 0), false), (37, .goto (-33), 3, .inl (4, 0), false), (40, .iload_n 1, 1, .inl (1, 0), false), (41, .ireturn, 1, .inr (.inr 0), false)]
theorem tk_Mo_worlds : sc_ok mq_Mo_worlds tb_Mo_worlds = true := by decide +kernel
theorem lk_Mo_worlds_0 : sc_lk tb_Mo_worlds 0 = some (.iconst 1, 1, .inr (.inr 0), false) := rfl
theorem lk_Mo_worlds_1 : sc_lk tb_Mo_worlds 1 = some (.istore_n 1, 1, .inl (1, 0), false) := rfl
theorem lk_Mo_worlds_2 : sc_lk tb_Mo_worlds 2 = some (.iconst 0, 1, .inr (.inr 0), false) := rfl
theorem lk_Mo_worlds_3 : sc_lk tb_Mo_worlds 3 = some (.istore_n 2, 1, .inl (2, 0), false) := rfl
theorem lk_Mo_worlds_4 : sc_lk tb_Mo_worlds 4 = some (.iload_n 2, 1, .inl (2, 0), true) := rfl
theorem lk_Mo_worlds_5 : sc_lk tb_Mo_worlds 5 = some (.aload_n 0, 1, .inl (0, 0), false) := rfl
theorem lk_Mo_worlds_6 : sc_lk tb_Mo_worlds 6 = some (.getfield 80, 3, .inl (5, 5), false) := rfl
theorem lk_Mo_worlds_9 : sc_lk tb_Mo_worlds 9 = some (.if_icmp .ge 31, 3, .inl (40, 0), false) := rfl
theorem lk_Mo_worlds_12 : sc_lk tb_Mo_worlds 12 = some (.iload_n 1, 1, .inl (1, 0), false) := rfl
theorem lk_Mo_worlds_13 : sc_lk tb_Mo_worlds 13 = some (.aload_n 0, 1, .inl (0, 0), false) := rfl
theorem lk_Mo_worlds_14 : sc_lk tb_Mo_worlds 14 = some (.getfield 17, 3, .inl (5, 6), false) := rfl
theorem lk_Mo_worlds_17 : sc_lk tb_Mo_worlds 17 = some (.iload_n 2, 1, .inl (2, 0), false) := rfl
theorem lk_Mo_worlds_18 : sc_lk tb_Mo_worlds 18 = some (.iaload, 1, .inr (.inr 0), false) := rfl
theorem lk_Mo_worlds_19 : sc_lk tb_Mo_worlds 19 = some (.ifCond .ne 7, 3, .inl (26, 0), false) := rfl
theorem lk_Mo_worlds_22 : sc_lk tb_Mo_worlds 22 = some (.iconst 1, 1, .inr (.inr 0), false) := rfl
theorem lk_Mo_worlds_23 : sc_lk tb_Mo_worlds 23 = some (.goto 9, 3, .inl (32, 0), false) := rfl
theorem lk_Mo_worlds_26 : sc_lk tb_Mo_worlds 26 = some (.aload_n 0, 1, .inl (0, 0), false) := rfl
theorem lk_Mo_worlds_27 : sc_lk tb_Mo_worlds 27 = some (.getfield 20, 3, .inl (5, 7), false) := rfl
theorem lk_Mo_worlds_30 : sc_lk tb_Mo_worlds 30 = some (.iload_n 2, 1, .inl (2, 0), false) := rfl
theorem lk_Mo_worlds_31 : sc_lk tb_Mo_worlds 31 = some (.iaload, 1, .inr (.inr 0), false) := rfl
theorem lk_Mo_worlds_32 : sc_lk tb_Mo_worlds 32 = some (.imul, 1, .inr (.inr 0), false) := rfl
theorem lk_Mo_worlds_33 : sc_lk tb_Mo_worlds 33 = some (.istore_n 1, 1, .inl (1, 0), false) := rfl
theorem lk_Mo_worlds_34 : sc_lk tb_Mo_worlds 34 = some (.iinc 2 1, 3, .inl (2, 0), false) := rfl
theorem lk_Mo_worlds_37 : sc_lk tb_Mo_worlds 37 = some (.goto (-33), 3, .inl (4, 0), false) := rfl
theorem lk_Mo_worlds_40 : sc_lk tb_Mo_worlds 40 = some (.iload_n 1, 1, .inl (1, 0), false) := rfl
theorem lk_Mo_worlds_41 : sc_lk tb_Mo_worlds 41 = some (.ireturn, 1, .inr (.inr 0), false) := rfl
def tb_Mo_clearTable : sc_T := [(0, .iconst 0, 1, .inr (.inr 0), false), (1, .istore_n 2, 1, .inl (2, 0), false), (2, .iload_n 2, 1, .inl (2, 0), true), (3, .bipush 27, 2, .inr (.inr 0), false), (5, .if_icmp .ge 21, 3, .inl (26, 0), false), (8, .aload_n 0, 1, .inl (0, 0), false), (9, .getfield 35, 3, .inl (5, 12), false), (12, .bipush 27, 2, .inr (.inr 0), false), (14, .iload_n 1, 1, .inl (1, 0), false), (15, .imul, 1, .inr (.inr 0), false), (16, .iload_n 2, 1, .inl (2, 0), false), (17, .iadd, 1, .inr (.inr 0), false), (18, .iconst 0, 1, .inr (.inr 0), false), (19, .iastore, 1, .inr (.inr 0), false), (20, .iinc 2 1, 3, .inl (2, 0), false), (23, .goto (-21), 3, .inl (2, 0), false), (26, .iconst 0, 1, .inr (.inr 0), false), (27, .istore_n 2, 1, .inl (2, 0), false), (28, .aload_n 0, 1, .inl (0, 0), true), (29, .getfield 17, 3, .inl (5, 6), false), (32, .iload_n 1, 1, .inl (1, 0), false), (33, .iaload, 1, .inr (.inr 0), false), (34, .iconst 1, 1, .inr (.inr 0), false), (35, .if_icmp .ne 33, 3, .inl (68, 0), false), (38, .iload_n 2, 1, .inl (2, 0), false), (39, .aload_n 0, 1, .inl (0, 0), false), (40, .iload_n 1, 1, .inl (1, 0), false), (41, .invokevirtual 87, 3, .inr (.inl (5, 1, mq_Mo_rowsOf)), false), (44, .if_icmp .ge 24, 3, .inl (68, 0), false), (47, .aload_n 0, 1, .inl (0, 0), false), (48, .getfield 35, 3, .inl (5, 12), false), (51, .bipush 27, 2, .inr (.inr 0), false), (53, .iload_n 1, 1, .inl (1, 0), false), (54, .imul, 1, .inr (.inr 0), false), (55, .iconst 3, 1, .inr (.inr 0), false), (56, .iload_n 2, 1, .inl (2, 0), false), (57, .imul, 1, .inr (.inr 0), false), (58, .iadd, 1, .inr (.inr 0), false), (59, .bipush 12, 2, .inr (.inr 0), false), (61, .iastore, 1, .inr (.inr 0), false), (62, .iinc 2 1, 3, .inl (2, 0), false), (65, .goto (-37), 3, .inl (28, 0), false), (68, .return_, 1, .inr (.inr 0), false)]
theorem tk_Mo_clearTable : sc_ok mq_Mo_clearTable tb_Mo_clearTable = true := by decide +kernel
theorem lk_Mo_clearTable_0 : sc_lk tb_Mo_clearTable 0 = some (.iconst 0, 1, .inr (.inr 0), false) := rfl
theorem lk_Mo_clearTable_1 : sc_lk tb_Mo_clearTable 1 = some (.istore_n 2, 1, .inl (2, 0), false) := rfl
theorem lk_Mo_clearTable_2 : sc_lk tb_Mo_clearTable 2 = some (.iload_n 2, 1, .inl (2, 0), true) := rfl
theorem lk_Mo_clearTable_3 : sc_lk tb_Mo_clearTable 3 = some (.bipush 27, 2, .inr (.inr 0), false) := rfl
theorem lk_Mo_clearTable_5 : sc_lk tb_Mo_clearTable 5 = some (.if_icmp .ge 21, 3, .inl (26, 0), false) := rfl
theorem lk_Mo_clearTable_8 : sc_lk tb_Mo_clearTable 8 = some (.aload_n 0, 1, .inl (0, 0), false) := rfl
theorem lk_Mo_clearTable_9 : sc_lk tb_Mo_clearTable 9 = some (.getfield 35, 3, .inl (5, 12), false) := rfl
theorem lk_Mo_clearTable_12 : sc_lk tb_Mo_clearTable 12 = some (.bipush 27, 2, .inr (.inr 0), false) := rfl
theorem lk_Mo_clearTable_14 : sc_lk tb_Mo_clearTable 14 = some (.iload_n 1, 1, .inl (1, 0), false) := rfl
theorem lk_Mo_clearTable_15 : sc_lk tb_Mo_clearTable 15 = some (.imul, 1, .inr (.inr 0), false) := rfl
theorem lk_Mo_clearTable_16 : sc_lk tb_Mo_clearTable 16 = some (.iload_n 2, 1, .inl (2, 0), false) := rfl
theorem lk_Mo_clearTable_17 : sc_lk tb_Mo_clearTable 17 = some (.iadd, 1, .inr (.inr 0), false) := rfl
theorem lk_Mo_clearTable_18 : sc_lk tb_Mo_clearTable 18 = some (.iconst 0, 1, .inr (.inr 0), false) := rfl
theorem lk_Mo_clearTable_19 : sc_lk tb_Mo_clearTable 19 = some (.iastore, 1, .inr (.inr 0), false) := rfl
theorem lk_Mo_clearTable_20 : sc_lk tb_Mo_clearTable 20 = some (.iinc 2 1, 3, .inl (2, 0), false) := rfl
theorem lk_Mo_clearTable_23 : sc_lk tb_Mo_clearTable 23 = some (.goto (-21), 3, .inl (2, 0), false) := rfl
theorem lk_Mo_clearTable_26 : sc_lk tb_Mo_clearTable 26 = some (.iconst 0, 1, .inr (.inr 0), false) := rfl
theorem lk_Mo_clearTable_27 : sc_lk tb_Mo_clearTable 27 = some (.istore_n 2, 1, .inl (2, 0), false) := rfl
theorem lk_Mo_clearTable_28 : sc_lk tb_Mo_clearTable 28 = some (.aload_n 0, 1, .inl (0, 0), true) := rfl
theorem lk_Mo_clearTable_29 : sc_lk tb_Mo_clearTable 29 = some (.getfield 17, 3, .inl (5, 6), false) := rfl
theorem lk_Mo_clearTable_32 : sc_lk tb_Mo_clearTable 32 = some (.iload_n 1, 1, .inl (1, 0), false) := rfl
theorem lk_Mo_clearTable_33 : sc_lk tb_Mo_clearTable 33 = some (.iaload, 1, .inr (.inr 0), false) := rfl
theorem lk_Mo_clearTable_34 : sc_lk tb_Mo_clearTable 34 = some (.iconst 1, 1, .inr (.inr 0), false) := rfl
theorem lk_Mo_clearTable_35 : sc_lk tb_Mo_clearTable 35 = some (.if_icmp .ne 33, 3, .inl (68, 0), false) := rfl
theorem lk_Mo_clearTable_38 : sc_lk tb_Mo_clearTable 38 = some (.iload_n 2, 1, .inl (2, 0), false) := rfl
theorem lk_Mo_clearTable_39 : sc_lk tb_Mo_clearTable 39 = some (.aload_n 0, 1, .inl (0, 0), false) := rfl
theorem lk_Mo_clearTable_40 : sc_lk tb_Mo_clearTable 40 = some (.iload_n 1, 1, .inl (1, 0), false) := rfl
theorem lk_Mo_clearTable_41 : sc_lk tb_Mo_clearTable 41 = some (.invokevirtual 87, 3, .inr (.inl (5, 1, mq_Mo_rowsOf)), false) := rfl
theorem lk_Mo_clearTable_44 : sc_lk tb_Mo_clearTable 44 = some (.if_icmp .ge 24, 3, .inl (68, 0), false) := rfl
theorem lk_Mo_clearTable_47 : sc_lk tb_Mo_clearTable 47 = some (.aload_n 0, 1, .inl (0, 0), false) := rfl
theorem lk_Mo_clearTable_48 : sc_lk tb_Mo_clearTable 48 = some (.getfield 35, 3, .inl (5, 12), false) := rfl
theorem lk_Mo_clearTable_51 : sc_lk tb_Mo_clearTable 51 = some (.bipush 27, 2, .inr (.inr 0), false) := rfl
theorem lk_Mo_clearTable_53 : sc_lk tb_Mo_clearTable 53 = some (.iload_n 1, 1, .inl (1, 0), false) := rfl
theorem lk_Mo_clearTable_54 : sc_lk tb_Mo_clearTable 54 = some (.imul, 1, .inr (.inr 0), false) := rfl
theorem lk_Mo_clearTable_55 : sc_lk tb_Mo_clearTable 55 = some (.iconst 3, 1, .inr (.inr 0), false) := rfl
theorem lk_Mo_clearTable_56 : sc_lk tb_Mo_clearTable 56 = some (.iload_n 2, 1, .inl (2, 0), false) := rfl
theorem lk_Mo_clearTable_57 : sc_lk tb_Mo_clearTable 57 = some (.imul, 1, .inr (.inr 0), false) := rfl
theorem lk_Mo_clearTable_58 : sc_lk tb_Mo_clearTable 58 = some (.iadd, 1, .inr (.inr 0), false) := rfl
theorem lk_Mo_clearTable_59 : sc_lk tb_Mo_clearTable 59 = some (.bipush 12, 2, .inr (.inr 0), false) := rfl
theorem lk_Mo_clearTable_61 : sc_lk tb_Mo_clearTable 61 = some (.iastore, 1, .inr (.inr 0), false) := rfl
theorem lk_Mo_clearTable_62 : sc_lk tb_Mo_clearTable 62 = some (.iinc 2 1, 3, .inl (2, 0), false) := rfl
theorem lk_Mo_clearTable_65 : sc_lk tb_Mo_clearTable 65 = some (.goto (-37), 3, .inl (28, 0), false) := rfl
theorem lk_Mo_clearTable_68 : sc_lk tb_Mo_clearTable 68 = some (.return_, 1, .inr (.inr 0), false) := rfl
def tb_Mo_rowsOf : sc_T := [(0, .iconst 1, 1, .inr (.inr 0), false), (1, .istore_n 2, 1, .inl (2, 0), false), (2, .iconst 0, 1, .inr (.inr 0), false), (3, .istore_n 3, 1, .inl (3, 0), false), (4, .iload_n 3, 1, .inl (3, 0), true), (5, .aload_n 0, 1, .inl (0, 0), false), (6, .getfield 23, 3, .inl (5, 8), false), (9, .iload_n 1, 1, .inl (1, 0), false), (10, .iaload, 1, .inr (.inr 0), false), (11, .if_icmp .ge 27, 3, .inl (38, 0), false), (14, .iload_n 2, 1, .inl (2, 0), false), (15, .aload_n 0, 1, .inl (0, 0), false), (16, .getfield 20, 3, .inl (5, 7), false), (19, .aload_n 0, 1, .inl (0, 0), false), (20, .getfield 26, 3, .inl (5, 9), false), (23, .iconst 3, 1, .inr (.inr 0), false), (24, .iload_n 1, 1, .inl (1, 0), false), (25, .imul, 1, .inr (.inr 0), false), (26, .iload_n 3, 1, .inl (3, 0), false), (27, .iadd, 1, .inr (.inr 0), false), (28, .iaload, 1, .inr (.inr 0), false), (29, .iaload, 1, .inr (.inr 0), false), (30, .imul, 1, .inr (.inr 0), false), (31, .istore_n 2, 1, .inl (2, 0), false), (32, .iinc 3 1, 3, .inl (3, 0), false), (35, .goto (-31), 3, .inl (4, 0), false), (38, .iload_n 2, 1, .inl (2, 0), false), (39, .ireturn, 1, .inr (.inr 0), false)]
theorem tk_Mo_rowsOf : sc_ok mq_Mo_rowsOf tb_Mo_rowsOf = true := by decide +kernel
theorem lk_Mo_rowsOf_0 : sc_lk tb_Mo_rowsOf 0 = some (.iconst 1, 1, .inr (.inr 0), false) := rfl
theorem lk_Mo_rowsOf_1 : sc_lk tb_Mo_rowsOf 1 = some (.istore_n 2, 1, .inl (2, 0), false) := rfl
theorem lk_Mo_rowsOf_2 : sc_lk tb_Mo_rowsOf 2 = some (.iconst 0, 1, .inr (.inr 0), false) := rfl
theorem lk_Mo_rowsOf_3 : sc_lk tb_Mo_rowsOf 3 = some (.istore_n 3, 1, .inl (3, 0), false) := rfl
theorem lk_Mo_rowsOf_4 : sc_lk tb_Mo_rowsOf 4 = some (.iload_n 3, 1, .inl (3, 0), true) := rfl
theorem lk_Mo_rowsOf_5 : sc_lk tb_Mo_rowsOf 5 = some (.aload_n 0, 1, .inl (0, 0), false) := rfl
theorem lk_Mo_rowsOf_6 : sc_lk tb_Mo_rowsOf 6 = some (.getfield 23, 3, .inl (5, 8), false) := rfl
theorem lk_Mo_rowsOf_9 : sc_lk tb_Mo_rowsOf 9 = some (.iload_n 1, 1, .inl (1, 0), false) := rfl
theorem lk_Mo_rowsOf_10 : sc_lk tb_Mo_rowsOf 10 = some (.iaload, 1, .inr (.inr 0), false) := rfl
theorem lk_Mo_rowsOf_11 : sc_lk tb_Mo_rowsOf 11 = some (.if_icmp .ge 27, 3, .inl (38, 0), false) := rfl
theorem lk_Mo_rowsOf_14 : sc_lk tb_Mo_rowsOf 14 = some (.iload_n 2, 1, .inl (2, 0), false) := rfl
theorem lk_Mo_rowsOf_15 : sc_lk tb_Mo_rowsOf 15 = some (.aload_n 0, 1, .inl (0, 0), false) := rfl
theorem lk_Mo_rowsOf_16 : sc_lk tb_Mo_rowsOf 16 = some (.getfield 20, 3, .inl (5, 7), false) := rfl
theorem lk_Mo_rowsOf_19 : sc_lk tb_Mo_rowsOf 19 = some (.aload_n 0, 1, .inl (0, 0), false) := rfl
theorem lk_Mo_rowsOf_20 : sc_lk tb_Mo_rowsOf 20 = some (.getfield 26, 3, .inl (5, 9), false) := rfl
theorem lk_Mo_rowsOf_23 : sc_lk tb_Mo_rowsOf 23 = some (.iconst 3, 1, .inr (.inr 0), false) := rfl
theorem lk_Mo_rowsOf_24 : sc_lk tb_Mo_rowsOf 24 = some (.iload_n 1, 1, .inl (1, 0), false) := rfl
theorem lk_Mo_rowsOf_25 : sc_lk tb_Mo_rowsOf 25 = some (.imul, 1, .inr (.inr 0), false) := rfl
theorem lk_Mo_rowsOf_26 : sc_lk tb_Mo_rowsOf 26 = some (.iload_n 3, 1, .inl (3, 0), false) := rfl
theorem lk_Mo_rowsOf_27 : sc_lk tb_Mo_rowsOf 27 = some (.iadd, 1, .inr (.inr 0), false) := rfl
theorem lk_Mo_rowsOf_28 : sc_lk tb_Mo_rowsOf 28 = some (.iaload, 1, .inr (.inr 0), false) := rfl
theorem lk_Mo_rowsOf_29 : sc_lk tb_Mo_rowsOf 29 = some (.iaload, 1, .inr (.inr 0), false) := rfl
theorem lk_Mo_rowsOf_30 : sc_lk tb_Mo_rowsOf 30 = some (.imul, 1, .inr (.inr 0), false) := rfl
theorem lk_Mo_rowsOf_31 : sc_lk tb_Mo_rowsOf 31 = some (.istore_n 2, 1, .inl (2, 0), false) := rfl
theorem lk_Mo_rowsOf_32 : sc_lk tb_Mo_rowsOf 32 = some (.iinc 3 1, 3, .inl (3, 0), false) := rfl
theorem lk_Mo_rowsOf_35 : sc_lk tb_Mo_rowsOf 35 = some (.goto (-31), 3, .inl (4, 0), false) := rfl
theorem lk_Mo_rowsOf_38 : sc_lk tb_Mo_rowsOf 38 = some (.iload_n 2, 1, .inl (2, 0), false) := rfl
theorem lk_Mo_rowsOf_39 : sc_lk tb_Mo_rowsOf 39 = some (.ireturn, 1, .inr (.inr 0), false) := rfl
def tb_Mo_parent : sc_T := [(0, .aload_n 0, 1, .inl (0, 0), false), (1, .iload_n 1, 1, .inl (1, 0), false), (2, .invokevirtual 99, 3, .inr (.inl (5, 1, mq_Mo_isNode)), false), (5, .ifCond .eq 27, 3, .inl (32, 0), false), (8, .iload_n 2, 1, .inl (2, 0), false), (9, .iconst 0, 1, .inr (.inr 0), false), (10, .iload_n 1, 1, .inl (1, 0), false), (11, .iconst 1, 1, .inr (.inr 0), false), (12, .isub, 1, .inr (.inr 0), false), (13, .invokestatic 83, 3, .inr (.inl (100, 3, mq_Mo_in)), false), (16, .ifCond .eq 16, 3, .inl (32, 0), false), (19, .aload_n 0, 1, .inl (0, 0), false), (20, .getfield 17, 3, .inl (5, 6), false), (23, .iload_n 2, 1, .inl (2, 0), false), (24, .iaload, 1, .inr (.inr 0), false), (25, .ifCond .eq 7, 3, .inl (32, 0), false), (28, .iconst 1, 1, .inr (.inr 0), false), (29, .goto 4, 3, .inl (33, 0), false), (32, .iconst 0, 1, .inr (.inr 0), false), (33, .istore_n 3, 1, .inl (3, 0), false), (34, .iconst 0, 1, .inr (.inr 0), false), (35, .istore 4, 2, .inl (4, 0), false), (37, .iload_n 3, 1, .inl (3, 0), true), (38, .ifCond .eq 41, 3, .inl (79, 0), false), (41, .iload 4, 2, .inl (4, 0), false), (43, .aload_n 0, 1, .inl (0, 0), false), (44, .getfield 23, 3, .inl (5, 8), false), (47, .iload_n 1, 1, .inl (1, 0), false), (48, .iaload, 1, .inr (.inr 0), false), (49, .if_icmp .ge 30, 3, .inl (79, 0), false), (52, .aload_n 0, 1, .inl (0, 0), false), (53, .getfield 26, 3, .inl (5, 9), false), (56, .iconst 3, 1, .inr (.inr 0), false), (57, .iload_n 1, 1, .inl (1, 0), false), (58, .imul, 1, .inr (.inr 0), false), (59, .iload 4, 2, .inl (4, 0), false), (61, .iadd, 1, .inr (.inr 0), false), (62, .iaload, 1, .inr (.inr 0), false), (63, .iload_n 2, 1, .inl (2, 0), false), (64, .if_icmp .eq 7, 3, .inl (71, 0), false), (67, .iconst 1, 1, .inr (.inr 0), false), (68, .goto 4, 3, .inl (72, 0), false), (71, .iconst 0, 1, .inr (.inr 0), false), (72, .istore_n 3, 1, .inl (3, 0), false), (73, .iinc 4 1, 3, .inl (4, 0), false), (76, .goto (-39), 3, .inl (37, 0), false), (79, .iload_n 3, 1, .inl (3, 0), false), (80, .ifCond .ne 5, 3, .inl (85, 0), false), (83, .iconst (-1), 1, .inr (.inr 0), false), (84, .ireturn, 1, .inr (.inr 0), false), (85, .aload_n 0, 1, .inl (0, 0), false), (86, .getfield 17, 3, .inl (5, 6), false), (89, .iload_n 1, 1, .inl (1, 0), false), (90, .iaload, 1, .inr (.inr 0), false), (91, .iconst 2, 1, .inr (.inr 0), false), (92, .if_icmp .ne 9, 3, .inl (101, 0), false), (95, .aload_n 0, 1, .inl (0, 0), false), (96, .iconst 3, 1, .inr (.inr 0), false), (97, .invokevirtual 103, 3, .inr (.inl (5, 1, mq_Mo_meets)), false), (100, .ireturn, 1, .inr (.inr 0), false), (101, .aload_n 0, 1, .inl (0, 0), false), (102, .getfield 23, 3, .inl (5, 8), false), (105, .iload_n 1, 1, .inl (1, 0), false), (106, .iaload, 1, .inr (.inr 0), false), (107, .aload_n 0, 1, .inl (0, 0), false), (108, .getfield 17, 3, .inl (5, 6), false), (111, .iload_n 1, 1, .inl (1, 0), false), (112, .iaload, 1, .inr (.inr 0), false), (113, .ifCond .ne 7, 3, .inl (120, 0), false), (116, .iconst 3, 1, .inr (.inr 0), false), (117, .goto 4, 3, .inl (121, 0), false), (120, .iconst 2, 1, .inr (.inr 0), false), (121, .if_icmp .ne 6, 3, .inl (127, 0), false), (124, .bipush (-2), 2, .inr (.inr 0), false), (126, .ireturn, 1, .inr (.inr 0), false), (127, .aload_n 0, 1, .inl (0, 0), false), (128, .getfield 26, 3, .inl (5, 9), false), (131, .iconst 3, 1, .inr (.inr 0), false), (132, .iload_n 1, 1, .inl (1, 0), false), (133, .imul, 1, .inr (.inr 0), false), (134, .aload_n 0, 1, .inl (0, 0), false), (135, .getfield 23, 3, .inl (5, 8), false), (138, .iload_n 1, 1, .inl (1, 0), false), (139, .iaload, 1, .inr (.inr 0), false), (140, .iadd, 1, .inr (.inr 0), false), (141, .iload_n 2, 1, .inl (2, 0), false), (142, .iastore, 1, .inr (.inr 0), false), (143, .aload_n 0, 1, .inl (0, 0), false), (144, .getfield 23, 3, .inl (5, 8), false), (147, .iload_n 1, 1, .inl (1, 0), false), (148, .dup2, 1, .inr (.inr 0), false), (149, .iaload, 1, .inr (.inr 0), false), (150, .iconst 1, 1, .inr (.inr 0), false), (151, .iadd, 1, .inr (.inr 0), false), (152, .iastore, 1, .inr (.inr 0), false), (153, .aload_n 0, 1, .inl (0, 0), false), (154, .iload_n 1, 1, .inl (1, 0), false), (155, .invokevirtual 95, 3, .inr (.inl (5, 1, mq_Mo_clearTable)), false), (158, .aload_n 0, 1, .inl (0, 0), false), (159, .getfield 23, 3, .inl (5, 8), false), (162, .iload_n 1, 1, .inl (1, 0), false), (163, .iaload, 1, .inr (.inr 0), false), (164, .ireturn, 1, .inr (.inr 0), false)]
theorem tk_Mo_parent : sc_ok mq_Mo_parent tb_Mo_parent = true := by decide +kernel
set_option maxRecDepth 20000 in
theorem lk_Mo_parent_0 : sc_lk tb_Mo_parent 0 = some (.aload_n 0, 1, .inl (0, 0), false) := rfl
set_option maxRecDepth 20000 in
theorem lk_Mo_parent_1 : sc_lk tb_Mo_parent 1 = some (.iload_n 1, 1, .inl (1, 0), false) := rfl
set_option maxRecDepth 20000 in
theorem lk_Mo_parent_2 : sc_lk tb_Mo_parent 2 = some (.invokevirtual 99, 3, .inr (.inl (5, 1, mq_Mo_isNode)), false) := rfl
set_option maxRecDepth 20000 in
theorem lk_Mo_parent_5 : sc_lk tb_Mo_parent 5 = some (.ifCond .eq 27, 3, .inl (32, 0), false) := rfl
set_option maxRecDepth 20000 in
theorem lk_Mo_parent_8 : sc_lk tb_Mo_parent 8 = some (.iload_n 2, 1, .inl (2, 0), false) := rfl
set_option maxRecDepth 20000 in
theorem lk_Mo_parent_9 : sc_lk tb_Mo_parent 9 = some (.iconst 0, 1, .inr (.inr 0), false) := rfl
set_option maxRecDepth 20000 in
theorem lk_Mo_parent_10 : sc_lk tb_Mo_parent 10 = some (.iload_n 1, 1, .inl (1, 0), false) := rfl
set_option maxRecDepth 20000 in
theorem lk_Mo_parent_11 : sc_lk tb_Mo_parent 11 = some (.iconst 1, 1, .inr (.inr 0), false) := rfl
set_option maxRecDepth 20000 in
theorem lk_Mo_parent_12 : sc_lk tb_Mo_parent 12 = some (.isub, 1, .inr (.inr 0), false) := rfl
set_option maxRecDepth 20000 in
theorem lk_Mo_parent_13 : sc_lk tb_Mo_parent 13 = some (.invokestatic 83, 3, .inr (.inl (100, 3, mq_Mo_in)), false) := rfl
set_option maxRecDepth 20000 in
theorem lk_Mo_parent_16 : sc_lk tb_Mo_parent 16 = some (.ifCond .eq 16, 3, .inl (32, 0), false) := rfl
set_option maxRecDepth 20000 in
theorem lk_Mo_parent_19 : sc_lk tb_Mo_parent 19 = some (.aload_n 0, 1, .inl (0, 0), false) := rfl
set_option maxRecDepth 20000 in
theorem lk_Mo_parent_20 : sc_lk tb_Mo_parent 20 = some (.getfield 17, 3, .inl (5, 6), false) := rfl
set_option maxRecDepth 20000 in
theorem lk_Mo_parent_23 : sc_lk tb_Mo_parent 23 = some (.iload_n 2, 1, .inl (2, 0), false) := rfl
set_option maxRecDepth 20000 in
theorem lk_Mo_parent_24 : sc_lk tb_Mo_parent 24 = some (.iaload, 1, .inr (.inr 0), false) := rfl
set_option maxRecDepth 20000 in
theorem lk_Mo_parent_25 : sc_lk tb_Mo_parent 25 = some (.ifCond .eq 7, 3, .inl (32, 0), false) := rfl
set_option maxRecDepth 20000 in
theorem lk_Mo_parent_28 : sc_lk tb_Mo_parent 28 = some (.iconst 1, 1, .inr (.inr 0), false) := rfl
set_option maxRecDepth 20000 in
theorem lk_Mo_parent_29 : sc_lk tb_Mo_parent 29 = some (.goto 4, 3, .inl (33, 0), false) := rfl
set_option maxRecDepth 20000 in
theorem lk_Mo_parent_32 : sc_lk tb_Mo_parent 32 = some (.iconst 0, 1, .inr (.inr 0), false) := rfl
set_option maxRecDepth 20000 in
theorem lk_Mo_parent_33 : sc_lk tb_Mo_parent 33 = some (.istore_n 3, 1, .inl (3, 0), false) := rfl
set_option maxRecDepth 20000 in
theorem lk_Mo_parent_34 : sc_lk tb_Mo_parent 34 = some (.iconst 0, 1, .inr (.inr 0), false) := rfl
set_option maxRecDepth 20000 in
theorem lk_Mo_parent_35 : sc_lk tb_Mo_parent 35 = some (.istore 4, 2, .inl (4, 0), false) := rfl
set_option maxRecDepth 20000 in
theorem lk_Mo_parent_37 : sc_lk tb_Mo_parent 37 = some (.iload_n 3, 1, .inl (3, 0), true) := rfl
set_option maxRecDepth 20000 in
theorem lk_Mo_parent_38 : sc_lk tb_Mo_parent 38 = some (.ifCond .eq 41, 3, .inl (79, 0), false) := rfl
set_option maxRecDepth 20000 in
theorem lk_Mo_parent_41 : sc_lk tb_Mo_parent 41 = some (.iload 4, 2, .inl (4, 0), false) := rfl
set_option maxRecDepth 20000 in
theorem lk_Mo_parent_43 : sc_lk tb_Mo_parent 43 = some (.aload_n 0, 1, .inl (0, 0), false) := rfl
set_option maxRecDepth 20000 in
theorem lk_Mo_parent_44 : sc_lk tb_Mo_parent 44 = some (.getfield 23, 3, .inl (5, 8), false) := rfl
set_option maxRecDepth 20000 in
theorem lk_Mo_parent_47 : sc_lk tb_Mo_parent 47 = some (.iload_n 1, 1, .inl (1, 0), false) := rfl
set_option maxRecDepth 20000 in
theorem lk_Mo_parent_48 : sc_lk tb_Mo_parent 48 = some (.iaload, 1, .inr (.inr 0), false) := rfl
set_option maxRecDepth 20000 in
theorem lk_Mo_parent_49 : sc_lk tb_Mo_parent 49 = some (.if_icmp .ge 30, 3, .inl (79, 0), false) := rfl
set_option maxRecDepth 20000 in
theorem lk_Mo_parent_52 : sc_lk tb_Mo_parent 52 = some (.aload_n 0, 1, .inl (0, 0), false) := rfl
set_option maxRecDepth 20000 in
theorem lk_Mo_parent_53 : sc_lk tb_Mo_parent 53 = some (.getfield 26, 3, .inl (5, 9), false) := rfl
set_option maxRecDepth 20000 in
theorem lk_Mo_parent_56 : sc_lk tb_Mo_parent 56 = some (.iconst 3, 1, .inr (.inr 0), false) := rfl
set_option maxRecDepth 20000 in
theorem lk_Mo_parent_57 : sc_lk tb_Mo_parent 57 = some (.iload_n 1, 1, .inl (1, 0), false) := rfl
set_option maxRecDepth 20000 in
theorem lk_Mo_parent_58 : sc_lk tb_Mo_parent 58 = some (.imul, 1, .inr (.inr 0), false) := rfl
set_option maxRecDepth 20000 in
theorem lk_Mo_parent_59 : sc_lk tb_Mo_parent 59 = some (.iload 4, 2, .inl (4, 0), false) := rfl
set_option maxRecDepth 20000 in
theorem lk_Mo_parent_61 : sc_lk tb_Mo_parent 61 = some (.iadd, 1, .inr (.inr 0), false) := rfl
set_option maxRecDepth 20000 in
theorem lk_Mo_parent_62 : sc_lk tb_Mo_parent 62 = some (.iaload, 1, .inr (.inr 0), false) := rfl
set_option maxRecDepth 20000 in
theorem lk_Mo_parent_63 : sc_lk tb_Mo_parent 63 = some (.iload_n 2, 1, .inl (2, 0), false) := rfl
set_option maxRecDepth 20000 in
theorem lk_Mo_parent_64 : sc_lk tb_Mo_parent 64 = some (.if_icmp .eq 7, 3, .inl (71, 0), false) := rfl
set_option maxRecDepth 20000 in
theorem lk_Mo_parent_67 : sc_lk tb_Mo_parent 67 = some (.iconst 1, 1, .inr (.inr 0), false) := rfl
set_option maxRecDepth 20000 in
theorem lk_Mo_parent_68 : sc_lk tb_Mo_parent 68 = some (.goto 4, 3, .inl (72, 0), false) := rfl
set_option maxRecDepth 20000 in
theorem lk_Mo_parent_71 : sc_lk tb_Mo_parent 71 = some (.iconst 0, 1, .inr (.inr 0), false) := rfl
set_option maxRecDepth 20000 in
theorem lk_Mo_parent_72 : sc_lk tb_Mo_parent 72 = some (.istore_n 3, 1, .inl (3, 0), false) := rfl
set_option maxRecDepth 20000 in
theorem lk_Mo_parent_73 : sc_lk tb_Mo_parent 73 = some (.iinc 4 1, 3, .inl (4, 0), false) := rfl
set_option maxRecDepth 20000 in
theorem lk_Mo_parent_76 : sc_lk tb_Mo_parent 76 = some (.goto (-39), 3, .inl (37, 0), false) := rfl
set_option maxRecDepth 20000 in
theorem lk_Mo_parent_79 : sc_lk tb_Mo_parent 79 = some (.iload_n 3, 1, .inl (3, 0), false) := rfl
set_option maxRecDepth 20000 in
theorem lk_Mo_parent_80 : sc_lk tb_Mo_parent 80 = some (.ifCond .ne 5, 3, .inl (85, 0), false) := rfl
set_option maxRecDepth 20000 in
theorem lk_Mo_parent_83 : sc_lk tb_Mo_parent 83 = some (.iconst (-1), 1, .inr (.inr 0), false) := rfl
set_option maxRecDepth 20000 in
theorem lk_Mo_parent_84 : sc_lk tb_Mo_parent 84 = some (.ireturn, 1, .inr (.inr 0), false) := rfl
set_option maxRecDepth 20000 in
theorem lk_Mo_parent_85 : sc_lk tb_Mo_parent 85 = some (.aload_n 0, 1, .inl (0, 0), false) := rfl
set_option maxRecDepth 20000 in
theorem lk_Mo_parent_86 : sc_lk tb_Mo_parent 86 = some (.getfield 17, 3, .inl (5, 6), false) := rfl
set_option maxRecDepth 20000 in
theorem lk_Mo_parent_89 : sc_lk tb_Mo_parent 89 = some (.iload_n 1, 1, .inl (1, 0), false) := rfl
set_option maxRecDepth 20000 in
theorem lk_Mo_parent_90 : sc_lk tb_Mo_parent 90 = some (.iaload, 1, .inr (.inr 0), false) := rfl
set_option maxRecDepth 20000 in
theorem lk_Mo_parent_91 : sc_lk tb_Mo_parent 91 = some (.iconst 2, 1, .inr (.inr 0), false) := rfl
set_option maxRecDepth 20000 in
theorem lk_Mo_parent_92 : sc_lk tb_Mo_parent 92 = some (.if_icmp .ne 9, 3, .inl (101, 0), false) := rfl
set_option maxRecDepth 20000 in
theorem lk_Mo_parent_95 : sc_lk tb_Mo_parent 95 = some (.aload_n 0, 1, .inl (0, 0), false) := rfl
set_option maxRecDepth 20000 in
theorem lk_Mo_parent_96 : sc_lk tb_Mo_parent 96 = some (.iconst 3, 1, .inr (.inr 0), false) := rfl
set_option maxRecDepth 20000 in
theorem lk_Mo_parent_97 : sc_lk tb_Mo_parent 97 = some (.invokevirtual 103, 3, .inr (.inl (5, 1, mq_Mo_meets)), false) := rfl
set_option maxRecDepth 20000 in
theorem lk_Mo_parent_100 : sc_lk tb_Mo_parent 100 = some (.ireturn, 1, .inr (.inr 0), false) := rfl
set_option maxRecDepth 20000 in
theorem lk_Mo_parent_101 : sc_lk tb_Mo_parent 101 = some (.aload_n 0, 1, .inl (0, 0), false) := rfl
set_option maxRecDepth 20000 in
theorem lk_Mo_parent_102 : sc_lk tb_Mo_parent 102 = some (.getfield 23, 3, .inl (5, 8), false) := rfl
set_option maxRecDepth 20000 in
theorem lk_Mo_parent_105 : sc_lk tb_Mo_parent 105 = some (.iload_n 1, 1, .inl (1, 0), false) := rfl
set_option maxRecDepth 20000 in
theorem lk_Mo_parent_106 : sc_lk tb_Mo_parent 106 = some (.iaload, 1, .inr (.inr 0), false) := rfl
set_option maxRecDepth 20000 in
theorem lk_Mo_parent_107 : sc_lk tb_Mo_parent 107 = some (.aload_n 0, 1, .inl (0, 0), false) := rfl
set_option maxRecDepth 20000 in
theorem lk_Mo_parent_108 : sc_lk tb_Mo_parent 108 = some (.getfield 17, 3, .inl (5, 6), false) := rfl
set_option maxRecDepth 20000 in
theorem lk_Mo_parent_111 : sc_lk tb_Mo_parent 111 = some (.iload_n 1, 1, .inl (1, 0), false) := rfl
set_option maxRecDepth 20000 in
theorem lk_Mo_parent_112 : sc_lk tb_Mo_parent 112 = some (.iaload, 1, .inr (.inr 0), false) := rfl
set_option maxRecDepth 20000 in
theorem lk_Mo_parent_113 : sc_lk tb_Mo_parent 113 = some (.ifCond .ne 7, 3, .inl (120, 0), false) := rfl
set_option maxRecDepth 20000 in
theorem lk_Mo_parent_116 : sc_lk tb_Mo_parent 116 = some (.iconst 3, 1, .inr (.inr 0), false) := rfl
set_option maxRecDepth 20000 in
theorem lk_Mo_parent_117 : sc_lk tb_Mo_parent 117 = some (.goto 4, 3, .inl (121, 0), false) := rfl
set_option maxRecDepth 20000 in
theorem lk_Mo_parent_120 : sc_lk tb_Mo_parent 120 = some (.iconst 2, 1, .inr (.inr 0), false) := rfl
set_option maxRecDepth 20000 in
theorem lk_Mo_parent_121 : sc_lk tb_Mo_parent 121 = some (.if_icmp .ne 6, 3, .inl (127, 0), false) := rfl
set_option maxRecDepth 20000 in
theorem lk_Mo_parent_124 : sc_lk tb_Mo_parent 124 = some (.bipush (-2), 2, .inr (.inr 0), false) := rfl
set_option maxRecDepth 20000 in
theorem lk_Mo_parent_126 : sc_lk tb_Mo_parent 126 = some (.ireturn, 1, .inr (.inr 0), false) := rfl
set_option maxRecDepth 20000 in
theorem lk_Mo_parent_127 : sc_lk tb_Mo_parent 127 = some (.aload_n 0, 1, .inl (0, 0), false) := rfl
set_option maxRecDepth 20000 in
theorem lk_Mo_parent_128 : sc_lk tb_Mo_parent 128 = some (.getfield 26, 3, .inl (5, 9), false) := rfl
set_option maxRecDepth 20000 in
theorem lk_Mo_parent_131 : sc_lk tb_Mo_parent 131 = some (.iconst 3, 1, .inr (.inr 0), false) := rfl
set_option maxRecDepth 20000 in
theorem lk_Mo_parent_132 : sc_lk tb_Mo_parent 132 = some (.iload_n 1, 1, .inl (1, 0), false) := rfl
set_option maxRecDepth 20000 in
theorem lk_Mo_parent_133 : sc_lk tb_Mo_parent 133 = some (.imul, 1, .inr (.inr 0), false) := rfl
set_option maxRecDepth 20000 in
theorem lk_Mo_parent_134 : sc_lk tb_Mo_parent 134 = some (.aload_n 0, 1, .inl (0, 0), false) := rfl
set_option maxRecDepth 20000 in
theorem lk_Mo_parent_135 : sc_lk tb_Mo_parent 135 = some (.getfield 23, 3, .inl (5, 8), false) := rfl
set_option maxRecDepth 20000 in
theorem lk_Mo_parent_138 : sc_lk tb_Mo_parent 138 = some (.iload_n 1, 1, .inl (1, 0), false) := rfl
set_option maxRecDepth 20000 in
theorem lk_Mo_parent_139 : sc_lk tb_Mo_parent 139 = some (.iaload, 1, .inr (.inr 0), false) := rfl
set_option maxRecDepth 20000 in
theorem lk_Mo_parent_140 : sc_lk tb_Mo_parent 140 = some (.iadd, 1, .inr (.inr 0), false) := rfl
set_option maxRecDepth 20000 in
theorem lk_Mo_parent_141 : sc_lk tb_Mo_parent 141 = some (.iload_n 2, 1, .inl (2, 0), false) := rfl
set_option maxRecDepth 20000 in
theorem lk_Mo_parent_142 : sc_lk tb_Mo_parent 142 = some (.iastore, 1, .inr (.inr 0), false) := rfl
set_option maxRecDepth 20000 in
theorem lk_Mo_parent_143 : sc_lk tb_Mo_parent 143 = some (.aload_n 0, 1, .inl (0, 0), false) := rfl
set_option maxRecDepth 20000 in
theorem lk_Mo_parent_144 : sc_lk tb_Mo_parent 144 = some (.getfield 23, 3, .inl (5, 8), false) := rfl
set_option maxRecDepth 20000 in
theorem lk_Mo_parent_147 : sc_lk tb_Mo_parent 147 = some (.iload_n 1, 1, .inl (1, 0), false) := rfl
set_option maxRecDepth 20000 in
theorem lk_Mo_parent_148 : sc_lk tb_Mo_parent 148 = some (.dup2, 1, .inr (.inr 0), false) := rfl
set_option maxRecDepth 20000 in
theorem lk_Mo_parent_149 : sc_lk tb_Mo_parent 149 = some (.iaload, 1, .inr (.inr 0), false) := rfl
set_option maxRecDepth 20000 in
theorem lk_Mo_parent_150 : sc_lk tb_Mo_parent 150 = some (.iconst 1, 1, .inr (.inr 0), false) := rfl
set_option maxRecDepth 20000 in
theorem lk_Mo_parent_151 : sc_lk tb_Mo_parent 151 = some (.iadd, 1, .inr (.inr 0), false) := rfl
set_option maxRecDepth 20000 in
theorem lk_Mo_parent_152 : sc_lk tb_Mo_parent 152 = some (.iastore, 1, .inr (.inr 0), false) := rfl
set_option maxRecDepth 20000 in
theorem lk_Mo_parent_153 : sc_lk tb_Mo_parent 153 = some (.aload_n 0, 1, .inl (0, 0), false) := rfl
set_option maxRecDepth 20000 in
theorem lk_Mo_parent_154 : sc_lk tb_Mo_parent 154 = some (.iload_n 1, 1, .inl (1, 0), false) := rfl
set_option maxRecDepth 20000 in
theorem lk_Mo_parent_155 : sc_lk tb_Mo_parent 155 = some (.invokevirtual 95, 3, .inr (.inl (5, 1, mq_Mo_clearTable)), false) := rfl
set_option maxRecDepth 20000 in
theorem lk_Mo_parent_158 : sc_lk tb_Mo_parent 158 = some (.aload_n 0, 1, .inl (0, 0), false) := rfl
set_option maxRecDepth 20000 in
theorem lk_Mo_parent_159 : sc_lk tb_Mo_parent 159 = some (.getfield 23, 3, .inl (5, 8), false) := rfl
set_option maxRecDepth 20000 in
theorem lk_Mo_parent_162 : sc_lk tb_Mo_parent 162 = some (.iload_n 1, 1, .inl (1, 0), false) := rfl
set_option maxRecDepth 20000 in
theorem lk_Mo_parent_163 : sc_lk tb_Mo_parent 163 = some (.iaload, 1, .inr (.inr 0), false) := rfl
set_option maxRecDepth 20000 in
theorem lk_Mo_parent_164 : sc_lk tb_Mo_parent 164 = some (.ireturn, 1, .inr (.inr 0), false) := rfl
def tb_Mo_isNode : sc_T := [(0, .iload_n 1, 1, .inl (1, 0), false), (1, .iconst 0, 1, .inr (.inr 0), false), (2, .aload_n 0, 1, .inl (0, 0), false), (3, .getfield 80, 3, .inl (5, 5), false), (6, .iconst 1, 1, .inr (.inr 0), false), (7, .isub, 1, .inr (.inr 0), false), (8, .invokestatic 83, 3, .inr (.inl (100, 3, mq_Mo_in)), false), (11, .ireturn, 1, .inr (.inr 0), false)]
theorem tk_Mo_isNode : sc_ok mq_Mo_isNode tb_Mo_isNode = true := by decide +kernel
theorem lk_Mo_isNode_0 : sc_lk tb_Mo_isNode 0 = some (.iload_n 1, 1, .inl (1, 0), false) := rfl
theorem lk_Mo_isNode_1 : sc_lk tb_Mo_isNode 1 = some (.iconst 0, 1, .inr (.inr 0), false) := rfl
theorem lk_Mo_isNode_2 : sc_lk tb_Mo_isNode 2 = some (.aload_n 0, 1, .inl (0, 0), false) := rfl
theorem lk_Mo_isNode_3 : sc_lk tb_Mo_isNode 3 = some (.getfield 80, 3, .inl (5, 5), false) := rfl
theorem lk_Mo_isNode_6 : sc_lk tb_Mo_isNode 6 = some (.iconst 1, 1, .inr (.inr 0), false) := rfl
theorem lk_Mo_isNode_7 : sc_lk tb_Mo_isNode 7 = some (.isub, 1, .inr (.inr 0), false) := rfl
theorem lk_Mo_isNode_8 : sc_lk tb_Mo_isNode 8 = some (.invokestatic 83, 3, .inr (.inl (100, 3, mq_Mo_in)), false) := rfl
theorem lk_Mo_isNode_11 : sc_lk tb_Mo_isNode 11 = some (.ireturn, 1, .inr (.inr 0), false) := rfl
def tb_Mo_meets : sc_T := [(0, .aload_n 0, 1, .inl (0, 0), false), (1, .iload_n 1, 1, .inl (1, 0), false), (2, .putfield 71, 3, .inl (5, 0), false), (5, .aload_n 0, 1, .inl (0, 0), false), (6, .getfield 7, 3, .inl (5, 1), false), (9, .iload_n 1, 1, .inl (1, 0), false), (10, .dup2, 1, .inr (.inr 0), false), (11, .iaload, 1, .inr (.inr 0), false), (12, .iconst 1, 1, .inr (.inr 0), false), (13, .iadd, 1, .inr (.inr 0), false), (14, .iastore, 1, .inr (.inr 0), false), (15, .bipush (-3), 2, .inr (.inr 0), false), (17, .ireturn, 1, .inr (.inr 0), false)]
theorem tk_Mo_meets : sc_ok mq_Mo_meets tb_Mo_meets = true := by decide +kernel
theorem lk_Mo_meets_0 : sc_lk tb_Mo_meets 0 = some (.aload_n 0, 1, .inl (0, 0), false) := rfl
theorem lk_Mo_meets_1 : sc_lk tb_Mo_meets 1 = some (.iload_n 1, 1, .inl (1, 0), false) := rfl
theorem lk_Mo_meets_2 : sc_lk tb_Mo_meets 2 = some (.putfield 71, 3, .inl (5, 0), false) := rfl
theorem lk_Mo_meets_5 : sc_lk tb_Mo_meets 5 = some (.aload_n 0, 1, .inl (0, 0), false) := rfl
theorem lk_Mo_meets_6 : sc_lk tb_Mo_meets 6 = some (.getfield 7, 3, .inl (5, 1), false) := rfl
theorem lk_Mo_meets_9 : sc_lk tb_Mo_meets 9 = some (.iload_n 1, 1, .inl (1, 0), false) := rfl
theorem lk_Mo_meets_10 : sc_lk tb_Mo_meets 10 = some (.dup2, 1, .inr (.inr 0), false) := rfl
theorem lk_Mo_meets_11 : sc_lk tb_Mo_meets 11 = some (.iaload, 1, .inr (.inr 0), false) := rfl
theorem lk_Mo_meets_12 : sc_lk tb_Mo_meets 12 = some (.iconst 1, 1, .inr (.inr 0), false) := rfl
theorem lk_Mo_meets_13 : sc_lk tb_Mo_meets 13 = some (.iadd, 1, .inr (.inr 0), false) := rfl
theorem lk_Mo_meets_14 : sc_lk tb_Mo_meets 14 = some (.iastore, 1, .inr (.inr 0), false) := rfl
theorem lk_Mo_meets_15 : sc_lk tb_Mo_meets 15 = some (.bipush (-3), 2, .inr (.inr 0), false) := rfl
theorem lk_Mo_meets_17 : sc_lk tb_Mo_meets 17 = some (.ireturn, 1, .inr (.inr 0), false) := rfl
def tb_Mo_sight : sc_T := [(0, .aload_n 0, 1, .inl (0, 0), false), (1, .iload_n 1, 1, .inl (1, 0), false), (2, .iload_n 2, 1, .inl (2, 0), false), (3, .iconst 0, 1, .inr (.inr 0), false), (4, .invokevirtual 106, 3, .inr (.inl (5, 3, mq_Mo_askedSight)), false), (7, .istore_n 3, 1, .inl (3, 0), false), (8, .iload_n 3, 1, .inl (3, 0), false), (9, .ifCond .ge 5, 3, .inl (14, 0), false), (12, .iload_n 3, 1, .inl (3, 0), false), (13, .ireturn, 1, .inr (.inr 0), false), (14, .aload_n 0, 1, .inl (0, 0), false), (15, .getfield 29, 3, .inl (5, 10), false), (18, .iload_n 1, 1, .inl (1, 0), false), (19, .dup2, 1, .inr (.inr 0), false), (20, .iaload, 1, .inr (.inr 0), false), (21, .iconst 1, 1, .inr (.inr 0), false), (22, .iload_n 2, 1, .inl (2, 0), false), (23, .ishl, 1, .inr (.inr 0), false), (24, .ior, 1, .inr (.inr 0), false), (25, .iastore, 1, .inr (.inr 0), false), (26, .aload_n 0, 1, .inl (0, 0), false), (27, .getfield 29, 3, .inl (5, 10), false), (30, .iload_n 1, 1, .inl (1, 0), false), (31, .iaload, 1, .inr (.inr 0), false), (32, .invokestatic 110, 3, .inr (.inl (100, 1, mq_Mo_bits)), false), (35, .ireturn, 1, .inr (.inr 0), false)]
theorem tk_Mo_sight : sc_ok mq_Mo_sight tb_Mo_sight = true := by decide +kernel
theorem lk_Mo_sight_0 : sc_lk tb_Mo_sight 0 = some (.aload_n 0, 1, .inl (0, 0), false) := rfl
theorem lk_Mo_sight_1 : sc_lk tb_Mo_sight 1 = some (.iload_n 1, 1, .inl (1, 0), false) := rfl
theorem lk_Mo_sight_2 : sc_lk tb_Mo_sight 2 = some (.iload_n 2, 1, .inl (2, 0), false) := rfl
theorem lk_Mo_sight_3 : sc_lk tb_Mo_sight 3 = some (.iconst 0, 1, .inr (.inr 0), false) := rfl
theorem lk_Mo_sight_4 : sc_lk tb_Mo_sight 4 = some (.invokevirtual 106, 3, .inr (.inl (5, 3, mq_Mo_askedSight)), false) := rfl
theorem lk_Mo_sight_7 : sc_lk tb_Mo_sight 7 = some (.istore_n 3, 1, .inl (3, 0), false) := rfl
theorem lk_Mo_sight_8 : sc_lk tb_Mo_sight 8 = some (.iload_n 3, 1, .inl (3, 0), false) := rfl
theorem lk_Mo_sight_9 : sc_lk tb_Mo_sight 9 = some (.ifCond .ge 5, 3, .inl (14, 0), false) := rfl
theorem lk_Mo_sight_12 : sc_lk tb_Mo_sight 12 = some (.iload_n 3, 1, .inl (3, 0), false) := rfl
theorem lk_Mo_sight_13 : sc_lk tb_Mo_sight 13 = some (.ireturn, 1, .inr (.inr 0), false) := rfl
theorem lk_Mo_sight_14 : sc_lk tb_Mo_sight 14 = some (.aload_n 0, 1, .inl (0, 0), false) := rfl
theorem lk_Mo_sight_15 : sc_lk tb_Mo_sight 15 = some (.getfield 29, 3, .inl (5, 10), false) := rfl
theorem lk_Mo_sight_18 : sc_lk tb_Mo_sight 18 = some (.iload_n 1, 1, .inl (1, 0), false) := rfl
theorem lk_Mo_sight_19 : sc_lk tb_Mo_sight 19 = some (.dup2, 1, .inr (.inr 0), false) := rfl
theorem lk_Mo_sight_20 : sc_lk tb_Mo_sight 20 = some (.iaload, 1, .inr (.inr 0), false) := rfl
theorem lk_Mo_sight_21 : sc_lk tb_Mo_sight 21 = some (.iconst 1, 1, .inr (.inr 0), false) := rfl
theorem lk_Mo_sight_22 : sc_lk tb_Mo_sight 22 = some (.iload_n 2, 1, .inl (2, 0), false) := rfl
theorem lk_Mo_sight_23 : sc_lk tb_Mo_sight 23 = some (.ishl, 1, .inr (.inr 0), false) := rfl
theorem lk_Mo_sight_24 : sc_lk tb_Mo_sight 24 = some (.ior, 1, .inr (.inr 0), false) := rfl
theorem lk_Mo_sight_25 : sc_lk tb_Mo_sight 25 = some (.iastore, 1, .inr (.inr 0), false) := rfl
theorem lk_Mo_sight_26 : sc_lk tb_Mo_sight 26 = some (.aload_n 0, 1, .inl (0, 0), false) := rfl
theorem lk_Mo_sight_27 : sc_lk tb_Mo_sight 27 = some (.getfield 29, 3, .inl (5, 10), false) := rfl
theorem lk_Mo_sight_30 : sc_lk tb_Mo_sight 30 = some (.iload_n 1, 1, .inl (1, 0), false) := rfl
theorem lk_Mo_sight_31 : sc_lk tb_Mo_sight 31 = some (.iaload, 1, .inr (.inr 0), false) := rfl
theorem lk_Mo_sight_32 : sc_lk tb_Mo_sight 32 = some (.invokestatic 110, 3, .inr (.inl (100, 1, mq_Mo_bits)), false) := rfl
theorem lk_Mo_sight_35 : sc_lk tb_Mo_sight 35 = some (.ireturn, 1, .inr (.inr 0), false) := rfl
def tb_Mo_askedSight : sc_T := [(0, .aload_n 0, 1, .inl (0, 0), false), (1, .iload_n 1, 1, .inl (1, 0), false), (2, .invokevirtual 99, 3, .inr (.inl (5, 1, mq_Mo_isNode)), false), (5, .ifCond .eq 14, 3, .inl (19, 0), false), (8, .iload_n 2, 1, .inl (2, 0), false), (9, .iconst 0, 1, .inr (.inr 0), false), (10, .iload_n 1, 1, .inl (1, 0), false), (11, .iconst 1, 1, .inr (.inr 0), false), (12, .isub, 1, .inr (.inr 0), false), (13, .invokestatic 83, 3, .inr (.inl (100, 3, mq_Mo_in)), false), (16, .ifCond .ne 5, 3, .inl (21, 0), false), (19, .iconst (-1), 1, .inr (.inr 0), false), (20, .ireturn, 1, .inr (.inr 0), false), (21, .aload_n 0, 1, .inl (0, 0), false), (22, .getfield 17, 3, .inl (5, 6), false), (25, .iload_n 1, 1, .inl (1, 0), false), (26, .iaload, 1, .inr (.inr 0), false), (27, .iconst 2, 1, .inr (.inr 0), false), (28, .if_icmp .ne 13, 3, .inl (41, 0), false), (31, .aload_n 0, 1, .inl (0, 0), false), (32, .getfield 17, 3, .inl (5, 6), false), (35, .iload_n 2, 1, .inl (2, 0), false), (36, .iaload, 1, .inr (.inr 0), false), (37, .iconst 1, 1, .inr (.inr 0), false), (38, .if_icmp .eq 9, 3, .inl (47, 0), false), (41, .aload_n 0, 1, .inl (0, 0), false), (42, .iconst 3, 1, .inr (.inr 0), false), (43, .invokevirtual 103, 3, .inr (.inl (5, 1, mq_Mo_meets)), false), (46, .ireturn, 1, .inr (.inr 0), false), (47, .aload_n 0, 1, .inl (0, 0), false), (48, .getfield 29, 3, .inl (5, 10), false), (51, .iload_n 1, 1, .inl (1, 0), false), (52, .iaload, 1, .inr (.inr 0), false), (53, .iload_n 2, 1, .inl (2, 0), false), (54, .ishr, 1, .inr (.inr 0), false), (55, .iconst 1, 1, .inr (.inr 0), false), (56, .iand, 1, .inr (.inr 0), false), (57, .iconst 1, 1, .inr (.inr 0), false), (58, .if_icmp .ne 7, 3, .inl (65, 0), false), (61, .iconst 1, 1, .inr (.inr 0), false), (62, .goto 4, 3, .inl (66, 0), false), (65, .iconst 0, 1, .inr (.inr 0), false), (66, .iload_n 3, 1, .inl (3, 0), false), (67, .if_icmp .ne 7, 3, .inl (74, 0), false), (70, .iconst 0, 1, .inr (.inr 0), false), (71, .goto 5, 3, .inl (76, 0), false), (74, .bipush (-4), 2, .inr (.inr 0), false), (76, .ireturn, 1, .inr (.inr 0), false)]
theorem tk_Mo_askedSight : sc_ok mq_Mo_askedSight tb_Mo_askedSight = true := by decide +kernel
theorem lk_Mo_askedSight_0 : sc_lk tb_Mo_askedSight 0 = some (.aload_n 0, 1, .inl (0, 0), false) := rfl
theorem lk_Mo_askedSight_1 : sc_lk tb_Mo_askedSight 1 = some (.iload_n 1, 1, .inl (1, 0), false) := rfl
theorem lk_Mo_askedSight_2 : sc_lk tb_Mo_askedSight 2 = some (.invokevirtual 99, 3, .inr (.inl (5, 1, mq_Mo_isNode)), false) := rfl
theorem lk_Mo_askedSight_5 : sc_lk tb_Mo_askedSight 5 = some (.ifCond .eq 14, 3, .inl (19, 0), false) := rfl
theorem lk_Mo_askedSight_8 : sc_lk tb_Mo_askedSight 8 = some (.iload_n 2, 1, .inl (2, 0), false) := rfl
theorem lk_Mo_askedSight_9 : sc_lk tb_Mo_askedSight 9 = some (.iconst 0, 1, .inr (.inr 0), false) := rfl
theorem lk_Mo_askedSight_10 : sc_lk tb_Mo_askedSight 10 = some (.iload_n 1, 1, .inl (1, 0), false) := rfl
theorem lk_Mo_askedSight_11 : sc_lk tb_Mo_askedSight 11 = some (.iconst 1, 1, .inr (.inr 0), false) := rfl
theorem lk_Mo_askedSight_12 : sc_lk tb_Mo_askedSight 12 = some (.isub, 1, .inr (.inr 0), false) := rfl
theorem lk_Mo_askedSight_13 : sc_lk tb_Mo_askedSight 13 = some (.invokestatic 83, 3, .inr (.inl (100, 3, mq_Mo_in)), false) := rfl
theorem lk_Mo_askedSight_16 : sc_lk tb_Mo_askedSight 16 = some (.ifCond .ne 5, 3, .inl (21, 0), false) := rfl
theorem lk_Mo_askedSight_19 : sc_lk tb_Mo_askedSight 19 = some (.iconst (-1), 1, .inr (.inr 0), false) := rfl
theorem lk_Mo_askedSight_20 : sc_lk tb_Mo_askedSight 20 = some (.ireturn, 1, .inr (.inr 0), false) := rfl
theorem lk_Mo_askedSight_21 : sc_lk tb_Mo_askedSight 21 = some (.aload_n 0, 1, .inl (0, 0), false) := rfl
theorem lk_Mo_askedSight_22 : sc_lk tb_Mo_askedSight 22 = some (.getfield 17, 3, .inl (5, 6), false) := rfl
theorem lk_Mo_askedSight_25 : sc_lk tb_Mo_askedSight 25 = some (.iload_n 1, 1, .inl (1, 0), false) := rfl
theorem lk_Mo_askedSight_26 : sc_lk tb_Mo_askedSight 26 = some (.iaload, 1, .inr (.inr 0), false) := rfl
theorem lk_Mo_askedSight_27 : sc_lk tb_Mo_askedSight 27 = some (.iconst 2, 1, .inr (.inr 0), false) := rfl
theorem lk_Mo_askedSight_28 : sc_lk tb_Mo_askedSight 28 = some (.if_icmp .ne 13, 3, .inl (41, 0), false) := rfl
theorem lk_Mo_askedSight_31 : sc_lk tb_Mo_askedSight 31 = some (.aload_n 0, 1, .inl (0, 0), false) := rfl
theorem lk_Mo_askedSight_32 : sc_lk tb_Mo_askedSight 32 = some (.getfield 17, 3, .inl (5, 6), false) := rfl
theorem lk_Mo_askedSight_35 : sc_lk tb_Mo_askedSight 35 = some (.iload_n 2, 1, .inl (2, 0), false) := rfl
theorem lk_Mo_askedSight_36 : sc_lk tb_Mo_askedSight 36 = some (.iaload, 1, .inr (.inr 0), false) := rfl
theorem lk_Mo_askedSight_37 : sc_lk tb_Mo_askedSight 37 = some (.iconst 1, 1, .inr (.inr 0), false) := rfl
theorem lk_Mo_askedSight_38 : sc_lk tb_Mo_askedSight 38 = some (.if_icmp .eq 9, 3, .inl (47, 0), false) := rfl
theorem lk_Mo_askedSight_41 : sc_lk tb_Mo_askedSight 41 = some (.aload_n 0, 1, .inl (0, 0), false) := rfl
theorem lk_Mo_askedSight_42 : sc_lk tb_Mo_askedSight 42 = some (.iconst 3, 1, .inr (.inr 0), false) := rfl
theorem lk_Mo_askedSight_43 : sc_lk tb_Mo_askedSight 43 = some (.invokevirtual 103, 3, .inr (.inl (5, 1, mq_Mo_meets)), false) := rfl
theorem lk_Mo_askedSight_46 : sc_lk tb_Mo_askedSight 46 = some (.ireturn, 1, .inr (.inr 0), false) := rfl
theorem lk_Mo_askedSight_47 : sc_lk tb_Mo_askedSight 47 = some (.aload_n 0, 1, .inl (0, 0), false) := rfl
theorem lk_Mo_askedSight_48 : sc_lk tb_Mo_askedSight 48 = some (.getfield 29, 3, .inl (5, 10), false) := rfl
theorem lk_Mo_askedSight_51 : sc_lk tb_Mo_askedSight 51 = some (.iload_n 1, 1, .inl (1, 0), false) := rfl
theorem lk_Mo_askedSight_52 : sc_lk tb_Mo_askedSight 52 = some (.iaload, 1, .inr (.inr 0), false) := rfl
theorem lk_Mo_askedSight_53 : sc_lk tb_Mo_askedSight 53 = some (.iload_n 2, 1, .inl (2, 0), false) := rfl
theorem lk_Mo_askedSight_54 : sc_lk tb_Mo_askedSight 54 = some (.ishr, 1, .inr (.inr 0), false) := rfl
theorem lk_Mo_askedSight_55 : sc_lk tb_Mo_askedSight 55 = some (.iconst 1, 1, .inr (.inr 0), false) := rfl
theorem lk_Mo_askedSight_56 : sc_lk tb_Mo_askedSight 56 = some (.iand, 1, .inr (.inr 0), false) := rfl
theorem lk_Mo_askedSight_57 : sc_lk tb_Mo_askedSight 57 = some (.iconst 1, 1, .inr (.inr 0), false) := rfl
theorem lk_Mo_askedSight_58 : sc_lk tb_Mo_askedSight 58 = some (.if_icmp .ne 7, 3, .inl (65, 0), false) := rfl
theorem lk_Mo_askedSight_61 : sc_lk tb_Mo_askedSight 61 = some (.iconst 1, 1, .inr (.inr 0), false) := rfl
theorem lk_Mo_askedSight_62 : sc_lk tb_Mo_askedSight 62 = some (.goto 4, 3, .inl (66, 0), false) := rfl
theorem lk_Mo_askedSight_65 : sc_lk tb_Mo_askedSight 65 = some (.iconst 0, 1, .inr (.inr 0), false) := rfl
theorem lk_Mo_askedSight_66 : sc_lk tb_Mo_askedSight 66 = some (.iload_n 3, 1, .inl (3, 0), false) := rfl
theorem lk_Mo_askedSight_67 : sc_lk tb_Mo_askedSight 67 = some (.if_icmp .ne 7, 3, .inl (74, 0), false) := rfl
theorem lk_Mo_askedSight_70 : sc_lk tb_Mo_askedSight 70 = some (.iconst 0, 1, .inr (.inr 0), false) := rfl
theorem lk_Mo_askedSight_71 : sc_lk tb_Mo_askedSight 71 = some (.goto 5, 3, .inl (76, 0), false) := rfl
theorem lk_Mo_askedSight_74 : sc_lk tb_Mo_askedSight 74 = some (.bipush (-4), 2, .inr (.inr 0), false) := rfl
theorem lk_Mo_askedSight_76 : sc_lk tb_Mo_askedSight 76 = some (.ireturn, 1, .inr (.inr 0), false) := rfl
def tb_Mo_bits : sc_T := [(0, .iconst 0, 1, .inr (.inr 0), false), (1, .istore_n 1, 1, .inl (1, 0), false), (2, .iconst 0, 1, .inr (.inr 0), false), (3, .istore_n 2, 1, .inl (2, 0), false), (4, .iload_n 2, 1, .inl (2, 0), true), (5, .bipush 10, 2, .inr (.inr 0), false), (7, .if_icmp .ge 17, 3, .inl (24, 0), false), (10, .iload_n 1, 1, .inl (1, 0), false), (11, .iload_n 0, 1, .inl (0, 0), false), (12, .iload_n 2, 1, .inl (2, 0), false), (13, .ishr, 1, .inr (.inr 0), false), (14, .iconst 1, 1, .inr (.inr 0), false), (15, .iand, 1, .inr (.inr 0), false), (16, .iadd, 1, .inr (.inr 0), false), (17, .istore_n 1, 1, .inl (1, 0), false), (18, .iinc 2 1, 3, .inl (2, 0), false), (21, .goto (-17), 3, .inl (4, 0), false), (24, .iload_n 1, 1, .inl (1, 0), false), (25, .ireturn, 1, .inr (.inr 0), false)]
theorem tk_Mo_bits : sc_ok mq_Mo_bits tb_Mo_bits = true := by decide +kernel
theorem lk_Mo_bits_0 : sc_lk tb_Mo_bits 0 = some (.iconst 0, 1, .inr (.inr 0), false) := rfl
theorem lk_Mo_bits_1 : sc_lk tb_Mo_bits 1 = some (.istore_n 1, 1, .inl (1, 0), false) := rfl
theorem lk_Mo_bits_2 : sc_lk tb_Mo_bits 2 = some (.iconst 0, 1, .inr (.inr 0), false) := rfl
theorem lk_Mo_bits_3 : sc_lk tb_Mo_bits 3 = some (.istore_n 2, 1, .inl (2, 0), false) := rfl
theorem lk_Mo_bits_4 : sc_lk tb_Mo_bits 4 = some (.iload_n 2, 1, .inl (2, 0), true) := rfl
theorem lk_Mo_bits_5 : sc_lk tb_Mo_bits 5 = some (.bipush 10, 2, .inr (.inr 0), false) := rfl
theorem lk_Mo_bits_7 : sc_lk tb_Mo_bits 7 = some (.if_icmp .ge 17, 3, .inl (24, 0), false) := rfl
theorem lk_Mo_bits_10 : sc_lk tb_Mo_bits 10 = some (.iload_n 1, 1, .inl (1, 0), false) := rfl
theorem lk_Mo_bits_11 : sc_lk tb_Mo_bits 11 = some (.iload_n 0, 1, .inl (0, 0), false) := rfl
theorem lk_Mo_bits_12 : sc_lk tb_Mo_bits 12 = some (.iload_n 2, 1, .inl (2, 0), false) := rfl
theorem lk_Mo_bits_13 : sc_lk tb_Mo_bits 13 = some (.ishr, 1, .inr (.inr 0), false) := rfl
theorem lk_Mo_bits_14 : sc_lk tb_Mo_bits 14 = some (.iconst 1, 1, .inr (.inr 0), false) := rfl
theorem lk_Mo_bits_15 : sc_lk tb_Mo_bits 15 = some (.iand, 1, .inr (.inr 0), false) := rfl
theorem lk_Mo_bits_16 : sc_lk tb_Mo_bits 16 = some (.iadd, 1, .inr (.inr 0), false) := rfl
theorem lk_Mo_bits_17 : sc_lk tb_Mo_bits 17 = some (.istore_n 1, 1, .inl (1, 0), false) := rfl
theorem lk_Mo_bits_18 : sc_lk tb_Mo_bits 18 = some (.iinc 2 1, 3, .inl (2, 0), false) := rfl
theorem lk_Mo_bits_21 : sc_lk tb_Mo_bits 21 = some (.goto (-17), 3, .inl (4, 0), false) := rfl
theorem lk_Mo_bits_24 : sc_lk tb_Mo_bits 24 = some (.iload_n 1, 1, .inl (1, 0), false) := rfl
theorem lk_Mo_bits_25 : sc_lk tb_Mo_bits 25 = some (.ireturn, 1, .inr (.inr 0), false) := rfl
def tb_Mo_blind : sc_T := [(0, .aload_n 0, 1, .inl (0, 0), false), (1, .iload_n 1, 1, .inl (1, 0), false), (2, .iload_n 2, 1, .inl (2, 0), false), (3, .invokevirtual 113, 3, .inr (.inl (5, 2, mq_Mo_askedBlind)), false), (6, .istore_n 3, 1, .inl (3, 0), false), (7, .iload_n 3, 1, .inl (3, 0), false), (8, .ifCond .ge 5, 3, .inl (13, 0), false), (11, .iload_n 3, 1, .inl (3, 0), false), (12, .ireturn, 1, .inr (.inr 0), false), (13, .aload_n 0, 1, .inl (0, 0), false), (14, .getfield 29, 3, .inl (5, 10), false), (17, .iload_n 1, 1, .inl (1, 0), false), (18, .dup2, 1, .inr (.inr 0), false), (19, .iaload, 1, .inr (.inr 0), false), (20, .iconst 1, 1, .inr (.inr 0), false), (21, .iload_n 2, 1, .inl (2, 0), false), (22, .ishl, 1, .inr (.inr 0), false), (23, .iconst (-1), 1, .inr (.inr 0), false), (24, .ixor, 1, .inr (.inr 0), false), (25, .iand, 1, .inr (.inr 0), false), (26, .iastore, 1, .inr (.inr 0), false), (27, .aload_n 0, 1, .inl (0, 0), false), (28, .getfield 29, 3, .inl (5, 10), false), (31, .iload_n 1, 1, .inl (1, 0), false), (32, .iaload, 1, .inr (.inr 0), false), (33, .invokestatic 110, 3, .inr (.inl (100, 1, mq_Mo_bits)), false), (36, .ireturn, 1, .inr (.inr 0), false)]
theorem tk_Mo_blind : sc_ok mq_Mo_blind tb_Mo_blind = true := by decide +kernel
theorem lk_Mo_blind_0 : sc_lk tb_Mo_blind 0 = some (.aload_n 0, 1, .inl (0, 0), false) := rfl
theorem lk_Mo_blind_1 : sc_lk tb_Mo_blind 1 = some (.iload_n 1, 1, .inl (1, 0), false) := rfl
theorem lk_Mo_blind_2 : sc_lk tb_Mo_blind 2 = some (.iload_n 2, 1, .inl (2, 0), false) := rfl
theorem lk_Mo_blind_3 : sc_lk tb_Mo_blind 3 = some (.invokevirtual 113, 3, .inr (.inl (5, 2, mq_Mo_askedBlind)), false) := rfl
theorem lk_Mo_blind_6 : sc_lk tb_Mo_blind 6 = some (.istore_n 3, 1, .inl (3, 0), false) := rfl
theorem lk_Mo_blind_7 : sc_lk tb_Mo_blind 7 = some (.iload_n 3, 1, .inl (3, 0), false) := rfl
theorem lk_Mo_blind_8 : sc_lk tb_Mo_blind 8 = some (.ifCond .ge 5, 3, .inl (13, 0), false) := rfl
theorem lk_Mo_blind_11 : sc_lk tb_Mo_blind 11 = some (.iload_n 3, 1, .inl (3, 0), false) := rfl
theorem lk_Mo_blind_12 : sc_lk tb_Mo_blind 12 = some (.ireturn, 1, .inr (.inr 0), false) := rfl
theorem lk_Mo_blind_13 : sc_lk tb_Mo_blind 13 = some (.aload_n 0, 1, .inl (0, 0), false) := rfl
theorem lk_Mo_blind_14 : sc_lk tb_Mo_blind 14 = some (.getfield 29, 3, .inl (5, 10), false) := rfl
theorem lk_Mo_blind_17 : sc_lk tb_Mo_blind 17 = some (.iload_n 1, 1, .inl (1, 0), false) := rfl
theorem lk_Mo_blind_18 : sc_lk tb_Mo_blind 18 = some (.dup2, 1, .inr (.inr 0), false) := rfl
theorem lk_Mo_blind_19 : sc_lk tb_Mo_blind 19 = some (.iaload, 1, .inr (.inr 0), false) := rfl
theorem lk_Mo_blind_20 : sc_lk tb_Mo_blind 20 = some (.iconst 1, 1, .inr (.inr 0), false) := rfl
theorem lk_Mo_blind_21 : sc_lk tb_Mo_blind 21 = some (.iload_n 2, 1, .inl (2, 0), false) := rfl
theorem lk_Mo_blind_22 : sc_lk tb_Mo_blind 22 = some (.ishl, 1, .inr (.inr 0), false) := rfl
theorem lk_Mo_blind_23 : sc_lk tb_Mo_blind 23 = some (.iconst (-1), 1, .inr (.inr 0), false) := rfl
theorem lk_Mo_blind_24 : sc_lk tb_Mo_blind 24 = some (.ixor, 1, .inr (.inr 0), false) := rfl
theorem lk_Mo_blind_25 : sc_lk tb_Mo_blind 25 = some (.iand, 1, .inr (.inr 0), false) := rfl
theorem lk_Mo_blind_26 : sc_lk tb_Mo_blind 26 = some (.iastore, 1, .inr (.inr 0), false) := rfl
theorem lk_Mo_blind_27 : sc_lk tb_Mo_blind 27 = some (.aload_n 0, 1, .inl (0, 0), false) := rfl
theorem lk_Mo_blind_28 : sc_lk tb_Mo_blind 28 = some (.getfield 29, 3, .inl (5, 10), false) := rfl
theorem lk_Mo_blind_31 : sc_lk tb_Mo_blind 31 = some (.iload_n 1, 1, .inl (1, 0), false) := rfl
theorem lk_Mo_blind_32 : sc_lk tb_Mo_blind 32 = some (.iaload, 1, .inr (.inr 0), false) := rfl
theorem lk_Mo_blind_33 : sc_lk tb_Mo_blind 33 = some (.invokestatic 110, 3, .inr (.inl (100, 1, mq_Mo_bits)), false) := rfl
theorem lk_Mo_blind_36 : sc_lk tb_Mo_blind 36 = some (.ireturn, 1, .inr (.inr 0), false) := rfl
def tb_Mo_askedBlind : sc_T := [(0, .aload_n 0, 1, .inl (0, 0), false), (1, .iload_n 1, 1, .inl (1, 0), false), (2, .invokevirtual 99, 3, .inr (.inl (5, 1, mq_Mo_isNode)), false), (5, .ifCond .eq 11, 3, .inl (16, 0), false), (8, .aload_n 0, 1, .inl (0, 0), false), (9, .iload_n 2, 1, .inl (2, 0), false), (10, .invokevirtual 99, 3, .inr (.inl (5, 1, mq_Mo_isNode)), false), (13, .ifCond .ne 5, 3, .inl (18, 0), false), (16, .iconst (-1), 1, .inr (.inr 0), false), (17, .ireturn, 1, .inr (.inr 0), false), (18, .aload_n 0, 1, .inl (0, 0), false), (19, .getfield 17, 3, .inl (5, 6), false), (22, .iload_n 1, 1, .inl (1, 0), false), (23, .iaload, 1, .inr (.inr 0), false), (24, .iconst 2, 1, .inr (.inr 0), false), (25, .if_icmp .eq 9, 3, .inl (34, 0), false), (28, .aload_n 0, 1, .inl (0, 0), false), (29, .iconst 3, 1, .inr (.inr 0), false), (30, .invokevirtual 103, 3, .inr (.inl (5, 1, mq_Mo_meets)), false), (33, .ireturn, 1, .inr (.inr 0), false), (34, .aload_n 0, 1, .inl (0, 0), false), (35, .getfield 29, 3, .inl (5, 10), false), (38, .iload_n 1, 1, .inl (1, 0), false), (39, .iaload, 1, .inr (.inr 0), false), (40, .iload_n 2, 1, .inl (2, 0), false), (41, .ishr, 1, .inr (.inr 0), false), (42, .iconst 1, 1, .inr (.inr 0), false), (43, .iand, 1, .inr (.inr 0), false), (44, .iconst 1, 1, .inr (.inr 0), false), (45, .if_icmp .ne 7, 3, .inl (52, 0), false), (48, .iconst 0, 1, .inr (.inr 0), false), (49, .goto 5, 3, .inl (54, 0), false), (52, .bipush (-4), 2, .inr (.inr 0), false), (54, .ireturn, 1, .inr (.inr 0), false)]
theorem tk_Mo_askedBlind : sc_ok mq_Mo_askedBlind tb_Mo_askedBlind = true := by decide +kernel
theorem lk_Mo_askedBlind_0 : sc_lk tb_Mo_askedBlind 0 = some (.aload_n 0, 1, .inl (0, 0), false) := rfl
theorem lk_Mo_askedBlind_1 : sc_lk tb_Mo_askedBlind 1 = some (.iload_n 1, 1, .inl (1, 0), false) := rfl
theorem lk_Mo_askedBlind_2 : sc_lk tb_Mo_askedBlind 2 = some (.invokevirtual 99, 3, .inr (.inl (5, 1, mq_Mo_isNode)), false) := rfl
theorem lk_Mo_askedBlind_5 : sc_lk tb_Mo_askedBlind 5 = some (.ifCond .eq 11, 3, .inl (16, 0), false) := rfl
theorem lk_Mo_askedBlind_8 : sc_lk tb_Mo_askedBlind 8 = some (.aload_n 0, 1, .inl (0, 0), false) := rfl
theorem lk_Mo_askedBlind_9 : sc_lk tb_Mo_askedBlind 9 = some (.iload_n 2, 1, .inl (2, 0), false) := rfl
theorem lk_Mo_askedBlind_10 : sc_lk tb_Mo_askedBlind 10 = some (.invokevirtual 99, 3, .inr (.inl (5, 1, mq_Mo_isNode)), false) := rfl
theorem lk_Mo_askedBlind_13 : sc_lk tb_Mo_askedBlind 13 = some (.ifCond .ne 5, 3, .inl (18, 0), false) := rfl
theorem lk_Mo_askedBlind_16 : sc_lk tb_Mo_askedBlind 16 = some (.iconst (-1), 1, .inr (.inr 0), false) := rfl
theorem lk_Mo_askedBlind_17 : sc_lk tb_Mo_askedBlind 17 = some (.ireturn, 1, .inr (.inr 0), false) := rfl
theorem lk_Mo_askedBlind_18 : sc_lk tb_Mo_askedBlind 18 = some (.aload_n 0, 1, .inl (0, 0), false) := rfl
theorem lk_Mo_askedBlind_19 : sc_lk tb_Mo_askedBlind 19 = some (.getfield 17, 3, .inl (5, 6), false) := rfl
theorem lk_Mo_askedBlind_22 : sc_lk tb_Mo_askedBlind 22 = some (.iload_n 1, 1, .inl (1, 0), false) := rfl
theorem lk_Mo_askedBlind_23 : sc_lk tb_Mo_askedBlind 23 = some (.iaload, 1, .inr (.inr 0), false) := rfl
theorem lk_Mo_askedBlind_24 : sc_lk tb_Mo_askedBlind 24 = some (.iconst 2, 1, .inr (.inr 0), false) := rfl
theorem lk_Mo_askedBlind_25 : sc_lk tb_Mo_askedBlind 25 = some (.if_icmp .eq 9, 3, .inl (34, 0), false) := rfl
theorem lk_Mo_askedBlind_28 : sc_lk tb_Mo_askedBlind 28 = some (.aload_n 0, 1, .inl (0, 0), false) := rfl
theorem lk_Mo_askedBlind_29 : sc_lk tb_Mo_askedBlind 29 = some (.iconst 3, 1, .inr (.inr 0), false) := rfl
theorem lk_Mo_askedBlind_30 : sc_lk tb_Mo_askedBlind 30 = some (.invokevirtual 103, 3, .inr (.inl (5, 1, mq_Mo_meets)), false) := rfl
theorem lk_Mo_askedBlind_33 : sc_lk tb_Mo_askedBlind 33 = some (.ireturn, 1, .inr (.inr 0), false) := rfl
theorem lk_Mo_askedBlind_34 : sc_lk tb_Mo_askedBlind 34 = some (.aload_n 0, 1, .inl (0, 0), false) := rfl
theorem lk_Mo_askedBlind_35 : sc_lk tb_Mo_askedBlind 35 = some (.getfield 29, 3, .inl (5, 10), false) := rfl
theorem lk_Mo_askedBlind_38 : sc_lk tb_Mo_askedBlind 38 = some (.iload_n 1, 1, .inl (1, 0), false) := rfl
theorem lk_Mo_askedBlind_39 : sc_lk tb_Mo_askedBlind 39 = some (.iaload, 1, .inr (.inr 0), false) := rfl
theorem lk_Mo_askedBlind_40 : sc_lk tb_Mo_askedBlind 40 = some (.iload_n 2, 1, .inl (2, 0), false) := rfl
theorem lk_Mo_askedBlind_41 : sc_lk tb_Mo_askedBlind 41 = some (.ishr, 1, .inr (.inr 0), false) := rfl
theorem lk_Mo_askedBlind_42 : sc_lk tb_Mo_askedBlind 42 = some (.iconst 1, 1, .inr (.inr 0), false) := rfl
theorem lk_Mo_askedBlind_43 : sc_lk tb_Mo_askedBlind 43 = some (.iand, 1, .inr (.inr 0), false) := rfl
theorem lk_Mo_askedBlind_44 : sc_lk tb_Mo_askedBlind 44 = some (.iconst 1, 1, .inr (.inr 0), false) := rfl
theorem lk_Mo_askedBlind_45 : sc_lk tb_Mo_askedBlind 45 = some (.if_icmp .ne 7, 3, .inl (52, 0), false) := rfl
theorem lk_Mo_askedBlind_48 : sc_lk tb_Mo_askedBlind 48 = some (.iconst 0, 1, .inr (.inr 0), false) := rfl
theorem lk_Mo_askedBlind_49 : sc_lk tb_Mo_askedBlind 49 = some (.goto 5, 3, .inl (54, 0), false) := rfl
theorem lk_Mo_askedBlind_52 : sc_lk tb_Mo_askedBlind 52 = some (.bipush (-4), 2, .inr (.inr 0), false) := rfl
theorem lk_Mo_askedBlind_54 : sc_lk tb_Mo_askedBlind 54 = some (.ireturn, 1, .inr (.inr 0), false) := rfl
def tb_Mo_weigh : sc_T := [(0, .aload_n 0, 1, .inl (0, 0), false), (1, .iload_n 1, 1, .inl (1, 0), false), (2, .invokevirtual 99, 3, .inr (.inl (5, 1, mq_Mo_isNode)), false), (5, .ifCond .eq 62, 3, .inl (67, 0), false), (8, .iload_n 3, 1, .inl (3, 0), false), (9, .iconst 0, 1, .inr (.inr 0), false), (10, .bipush 12, 2, .inr (.inr 0), false), (12, .invokestatic 83, 3, .inr (.inl (100, 3, mq_Mo_in)), false), (15, .ifCond .eq 52, 3, .inl (67, 0), false), (18, .iload 4, 2, .inl (4, 0), false), (20, .iconst 0, 1, .inr (.inr 0), false), (21, .bipush 12, 2, .inr (.inr 0), false), (23, .invokestatic 83, 3, .inr (.inl (100, 3, mq_Mo_in)), false), (26, .ifCond .eq 41, 3, .inl (67, 0), false), (29, .iload_n 3, 1, .inl (3, 0), false), (30, .iload 4, 2, .inl (4, 0), false), (32, .iadd, 1, .inr (.inr 0), false), (33, .bipush 12, 2, .inr (.inr 0), false), (35, .if_icmp .gt 32, 3, .inl (67, 0), false), (38, .aload_n 0, 1, .inl (0, 0), false), (39, .getfield 17, 3, .inl (5, 6), false), (42, .iload_n 1, 1, .inl (1, 0), false), (43, .iaload, 1, .inr (.inr 0), false), (44, .iconst 1, 1, .inr (.inr 0), false), (45, .if_icmp .ne 24, 3, .inl (69, 0), false), (48, .aload_n 0, 1, .inl (0, 0), false), (49, .getfield 20, 3, .inl (5, 7), false), (52, .iload_n 1, 1, .inl (1, 0), false), (53, .iaload, 1, .inr (.inr 0), false), (54, .iconst 2, 1, .inr (.inr 0), false), (55, .if_icmp .ne 14, 3, .inl (69, 0), false), (58, .iload_n 3, 1, .inl (3, 0), false), (59, .iload 4, 2, .inl (4, 0), false), (61, .iadd, 1, .inr (.inr 0), false), (62, .bipush 12, 2, .inr (.inr 0), false), (64, .if_icmp .ge 5, 3, .inl (69, 0), false), (67, .iconst (-1), 1, .inr (.inr 0), false), (68, .ireturn, 1, .inr (.inr 0), false), (69, .aload_n 0, 1, .inl (0, 0), false), (70, .getfield 17, 3, .inl (5, 6), false), (73, .iload_n 1, 1, .inl (1, 0), false), (74, .iaload, 1, .inr (.inr 0), false), (75, .iconst 1, 1, .inr (.inr 0), false), (76, .if_icmp .eq 9, 3, .inl (85, 0), false), (79, .aload_n 0, 1, .inl (0, 0), false), (80, .iconst 3, 1, .inr (.inr 0), false), (81, .invokevirtual 103, 3, .inr (.inl (5, 1, mq_Mo_meets)), false), (84, .ireturn, 1, .inr (.inr 0), false), (85, .iload_n 2, 1, .inl (2, 0), false), (86, .iconst 0, 1, .inr (.inr 0), false), (87, .aload_n 0, 1, .inl (0, 0), false), (88, .iload_n 1, 1, .inl (1, 0), false), (89, .invokevirtual 87, 3, .inr (.inl (5, 1, mq_Mo_rowsOf)), false), (92, .iconst 1, 1, .inr (.inr 0), false), (93, .isub, 1, .inr (.inr 0), false), (94, .invokestatic 83, 3, .inr (.inl (100, 3, mq_Mo_in)), false), (97, .ifCond .ne 9, 3, .inl (106, 0), false), (100, .aload_n 0, 1, .inl (0, 0), false), (101, .iconst 2, 1, .inr (.inr 0), false), (102, .invokevirtual 103, 3, .inr (.inl (5, 1, mq_Mo_meets)), false), (105, .ireturn, 1, .inr (.inr 0), false), (106, .bipush 27, 2, .inr (.inr 0), false), (108, .iload_n 1, 1, .inl (1, 0), false), (109, .imul, 1, .inr (.inr 0), false), (110, .iconst 3, 1, .inr (.inr 0), false), (111, .iload_n 2, 1, .inl (2, 0), false), (112, .imul, 1, .inr (.inr 0), false), (113, .iadd, 1, .inr (.inr 0), false), (114, .istore 5, 2, .inl (5, 0), false), (116, .aload_n 0, 1, .inl (0, 0), false), (117, .getfield 35, 3, .inl (5, 12), false), (120, .iload 5, 2, .inl (5, 0), false), (122, .iload_n 3, 1, .inl (3, 0), false), (123, .iastore, 1, .inr (.inr 0), false), (124, .aload_n 0, 1, .inl (0, 0), false), (125, .getfield 35, 3, .inl (5, 12), false), (128, .iload 5, 2, .inl (5, 0), false), (130, .iconst 1, 1, .inr (.inr 0), false), (131, .iadd, 1, .inr (.inr 0), false), (132, .iload 4, 2, .inl (4, 0), false), (134, .iastore, 1, .inr (.inr 0), false), (135, .aload_n 0, 1, .inl (0, 0), false), (136, .getfield 35, 3, .inl (5, 12), false), (139, .iload 5, 2, .inl (5, 0), false), (141, .iconst 2, 1, .inr (.inr 0), false), (142, .iadd, 1, .inr (.inr 0), false), (143, .bipush 12, 2, .inr (.inr 0), false), (145, .iload_n 3, 1, .inl (3, 0), false), (146, .isub, 1, .inr (.inr 0), false), (147, .iload 4, 2, .inl (4, 0), false), (149, .isub, 1, .inr (.inr 0), false), (150, .iastore, 1, .inr (.inr 0), false), (151, .iconst 1, 1, .inr (.inr 0), false), (152, .ireturn, 1, .inr (.inr 0), false)]
theorem tk_Mo_weigh : sc_ok mq_Mo_weigh tb_Mo_weigh = true := by decide +kernel
theorem lk_Mo_weigh_0 : sc_lk tb_Mo_weigh 0 = some (.aload_n 0, 1, .inl (0, 0), false) := rfl
theorem lk_Mo_weigh_1 : sc_lk tb_Mo_weigh 1 = some (.iload_n 1, 1, .inl (1, 0), false) := rfl
theorem lk_Mo_weigh_2 : sc_lk tb_Mo_weigh 2 = some (.invokevirtual 99, 3, .inr (.inl (5, 1, mq_Mo_isNode)), false) := rfl
theorem lk_Mo_weigh_5 : sc_lk tb_Mo_weigh 5 = some (.ifCond .eq 62, 3, .inl (67, 0), false) := rfl
theorem lk_Mo_weigh_8 : sc_lk tb_Mo_weigh 8 = some (.iload_n 3, 1, .inl (3, 0), false) := rfl
theorem lk_Mo_weigh_9 : sc_lk tb_Mo_weigh 9 = some (.iconst 0, 1, .inr (.inr 0), false) := rfl
theorem lk_Mo_weigh_10 : sc_lk tb_Mo_weigh 10 = some (.bipush 12, 2, .inr (.inr 0), false) := rfl
theorem lk_Mo_weigh_12 : sc_lk tb_Mo_weigh 12 = some (.invokestatic 83, 3, .inr (.inl (100, 3, mq_Mo_in)), false) := rfl
theorem lk_Mo_weigh_15 : sc_lk tb_Mo_weigh 15 = some (.ifCond .eq 52, 3, .inl (67, 0), false) := rfl
theorem lk_Mo_weigh_18 : sc_lk tb_Mo_weigh 18 = some (.iload 4, 2, .inl (4, 0), false) := rfl
theorem lk_Mo_weigh_20 : sc_lk tb_Mo_weigh 20 = some (.iconst 0, 1, .inr (.inr 0), false) := rfl
theorem lk_Mo_weigh_21 : sc_lk tb_Mo_weigh 21 = some (.bipush 12, 2, .inr (.inr 0), false) := rfl
theorem lk_Mo_weigh_23 : sc_lk tb_Mo_weigh 23 = some (.invokestatic 83, 3, .inr (.inl (100, 3, mq_Mo_in)), false) := rfl
theorem lk_Mo_weigh_26 : sc_lk tb_Mo_weigh 26 = some (.ifCond .eq 41, 3, .inl (67, 0), false) := rfl
theorem lk_Mo_weigh_29 : sc_lk tb_Mo_weigh 29 = some (.iload_n 3, 1, .inl (3, 0), false) := rfl
theorem lk_Mo_weigh_30 : sc_lk tb_Mo_weigh 30 = some (.iload 4, 2, .inl (4, 0), false) := rfl
theorem lk_Mo_weigh_32 : sc_lk tb_Mo_weigh 32 = some (.iadd, 1, .inr (.inr 0), false) := rfl
theorem lk_Mo_weigh_33 : sc_lk tb_Mo_weigh 33 = some (.bipush 12, 2, .inr (.inr 0), false) := rfl
theorem lk_Mo_weigh_35 : sc_lk tb_Mo_weigh 35 = some (.if_icmp .gt 32, 3, .inl (67, 0), false) := rfl
theorem lk_Mo_weigh_38 : sc_lk tb_Mo_weigh 38 = some (.aload_n 0, 1, .inl (0, 0), false) := rfl
theorem lk_Mo_weigh_39 : sc_lk tb_Mo_weigh 39 = some (.getfield 17, 3, .inl (5, 6), false) := rfl
theorem lk_Mo_weigh_42 : sc_lk tb_Mo_weigh 42 = some (.iload_n 1, 1, .inl (1, 0), false) := rfl
theorem lk_Mo_weigh_43 : sc_lk tb_Mo_weigh 43 = some (.iaload, 1, .inr (.inr 0), false) := rfl
theorem lk_Mo_weigh_44 : sc_lk tb_Mo_weigh 44 = some (.iconst 1, 1, .inr (.inr 0), false) := rfl
theorem lk_Mo_weigh_45 : sc_lk tb_Mo_weigh 45 = some (.if_icmp .ne 24, 3, .inl (69, 0), false) := rfl
theorem lk_Mo_weigh_48 : sc_lk tb_Mo_weigh 48 = some (.aload_n 0, 1, .inl (0, 0), false) := rfl
theorem lk_Mo_weigh_49 : sc_lk tb_Mo_weigh 49 = some (.getfield 20, 3, .inl (5, 7), false) := rfl
theorem lk_Mo_weigh_52 : sc_lk tb_Mo_weigh 52 = some (.iload_n 1, 1, .inl (1, 0), false) := rfl
theorem lk_Mo_weigh_53 : sc_lk tb_Mo_weigh 53 = some (.iaload, 1, .inr (.inr 0), false) := rfl
theorem lk_Mo_weigh_54 : sc_lk tb_Mo_weigh 54 = some (.iconst 2, 1, .inr (.inr 0), false) := rfl
theorem lk_Mo_weigh_55 : sc_lk tb_Mo_weigh 55 = some (.if_icmp .ne 14, 3, .inl (69, 0), false) := rfl
theorem lk_Mo_weigh_58 : sc_lk tb_Mo_weigh 58 = some (.iload_n 3, 1, .inl (3, 0), false) := rfl
theorem lk_Mo_weigh_59 : sc_lk tb_Mo_weigh 59 = some (.iload 4, 2, .inl (4, 0), false) := rfl
theorem lk_Mo_weigh_61 : sc_lk tb_Mo_weigh 61 = some (.iadd, 1, .inr (.inr 0), false) := rfl
theorem lk_Mo_weigh_62 : sc_lk tb_Mo_weigh 62 = some (.bipush 12, 2, .inr (.inr 0), false) := rfl
theorem lk_Mo_weigh_64 : sc_lk tb_Mo_weigh 64 = some (.if_icmp .ge 5, 3, .inl (69, 0), false) := rfl
theorem lk_Mo_weigh_67 : sc_lk tb_Mo_weigh 67 = some (.iconst (-1), 1, .inr (.inr 0), false) := rfl
theorem lk_Mo_weigh_68 : sc_lk tb_Mo_weigh 68 = some (.ireturn, 1, .inr (.inr 0), false) := rfl
theorem lk_Mo_weigh_69 : sc_lk tb_Mo_weigh 69 = some (.aload_n 0, 1, .inl (0, 0), false) := rfl
theorem lk_Mo_weigh_70 : sc_lk tb_Mo_weigh 70 = some (.getfield 17, 3, .inl (5, 6), false) := rfl
theorem lk_Mo_weigh_73 : sc_lk tb_Mo_weigh 73 = some (.iload_n 1, 1, .inl (1, 0), false) := rfl
theorem lk_Mo_weigh_74 : sc_lk tb_Mo_weigh 74 = some (.iaload, 1, .inr (.inr 0), false) := rfl
theorem lk_Mo_weigh_75 : sc_lk tb_Mo_weigh 75 = some (.iconst 1, 1, .inr (.inr 0), false) := rfl
theorem lk_Mo_weigh_76 : sc_lk tb_Mo_weigh 76 = some (.if_icmp .eq 9, 3, .inl (85, 0), false) := rfl
theorem lk_Mo_weigh_79 : sc_lk tb_Mo_weigh 79 = some (.aload_n 0, 1, .inl (0, 0), false) := rfl
theorem lk_Mo_weigh_80 : sc_lk tb_Mo_weigh 80 = some (.iconst 3, 1, .inr (.inr 0), false) := rfl
theorem lk_Mo_weigh_81 : sc_lk tb_Mo_weigh 81 = some (.invokevirtual 103, 3, .inr (.inl (5, 1, mq_Mo_meets)), false) := rfl
theorem lk_Mo_weigh_84 : sc_lk tb_Mo_weigh 84 = some (.ireturn, 1, .inr (.inr 0), false) := rfl
theorem lk_Mo_weigh_85 : sc_lk tb_Mo_weigh 85 = some (.iload_n 2, 1, .inl (2, 0), false) := rfl
theorem lk_Mo_weigh_86 : sc_lk tb_Mo_weigh 86 = some (.iconst 0, 1, .inr (.inr 0), false) := rfl
theorem lk_Mo_weigh_87 : sc_lk tb_Mo_weigh 87 = some (.aload_n 0, 1, .inl (0, 0), false) := rfl
theorem lk_Mo_weigh_88 : sc_lk tb_Mo_weigh 88 = some (.iload_n 1, 1, .inl (1, 0), false) := rfl
theorem lk_Mo_weigh_89 : sc_lk tb_Mo_weigh 89 = some (.invokevirtual 87, 3, .inr (.inl (5, 1, mq_Mo_rowsOf)), false) := rfl
theorem lk_Mo_weigh_92 : sc_lk tb_Mo_weigh 92 = some (.iconst 1, 1, .inr (.inr 0), false) := rfl
theorem lk_Mo_weigh_93 : sc_lk tb_Mo_weigh 93 = some (.isub, 1, .inr (.inr 0), false) := rfl
theorem lk_Mo_weigh_94 : sc_lk tb_Mo_weigh 94 = some (.invokestatic 83, 3, .inr (.inl (100, 3, mq_Mo_in)), false) := rfl
theorem lk_Mo_weigh_97 : sc_lk tb_Mo_weigh 97 = some (.ifCond .ne 9, 3, .inl (106, 0), false) := rfl
theorem lk_Mo_weigh_100 : sc_lk tb_Mo_weigh 100 = some (.aload_n 0, 1, .inl (0, 0), false) := rfl
theorem lk_Mo_weigh_101 : sc_lk tb_Mo_weigh 101 = some (.iconst 2, 1, .inr (.inr 0), false) := rfl
theorem lk_Mo_weigh_102 : sc_lk tb_Mo_weigh 102 = some (.invokevirtual 103, 3, .inr (.inl (5, 1, mq_Mo_meets)), false) := rfl
theorem lk_Mo_weigh_105 : sc_lk tb_Mo_weigh 105 = some (.ireturn, 1, .inr (.inr 0), false) := rfl
theorem lk_Mo_weigh_106 : sc_lk tb_Mo_weigh 106 = some (.bipush 27, 2, .inr (.inr 0), false) := rfl
theorem lk_Mo_weigh_108 : sc_lk tb_Mo_weigh 108 = some (.iload_n 1, 1, .inl (1, 0), false) := rfl
theorem lk_Mo_weigh_109 : sc_lk tb_Mo_weigh 109 = some (.imul, 1, .inr (.inr 0), false) := rfl
theorem lk_Mo_weigh_110 : sc_lk tb_Mo_weigh 110 = some (.iconst 3, 1, .inr (.inr 0), false) := rfl
theorem lk_Mo_weigh_111 : sc_lk tb_Mo_weigh 111 = some (.iload_n 2, 1, .inl (2, 0), false) := rfl
theorem lk_Mo_weigh_112 : sc_lk tb_Mo_weigh 112 = some (.imul, 1, .inr (.inr 0), false) := rfl
theorem lk_Mo_weigh_113 : sc_lk tb_Mo_weigh 113 = some (.iadd, 1, .inr (.inr 0), false) := rfl
theorem lk_Mo_weigh_114 : sc_lk tb_Mo_weigh 114 = some (.istore 5, 2, .inl (5, 0), false) := rfl
theorem lk_Mo_weigh_116 : sc_lk tb_Mo_weigh 116 = some (.aload_n 0, 1, .inl (0, 0), false) := rfl
theorem lk_Mo_weigh_117 : sc_lk tb_Mo_weigh 117 = some (.getfield 35, 3, .inl (5, 12), false) := rfl
theorem lk_Mo_weigh_120 : sc_lk tb_Mo_weigh 120 = some (.iload 5, 2, .inl (5, 0), false) := rfl
theorem lk_Mo_weigh_122 : sc_lk tb_Mo_weigh 122 = some (.iload_n 3, 1, .inl (3, 0), false) := rfl
theorem lk_Mo_weigh_123 : sc_lk tb_Mo_weigh 123 = some (.iastore, 1, .inr (.inr 0), false) := rfl
theorem lk_Mo_weigh_124 : sc_lk tb_Mo_weigh 124 = some (.aload_n 0, 1, .inl (0, 0), false) := rfl
theorem lk_Mo_weigh_125 : sc_lk tb_Mo_weigh 125 = some (.getfield 35, 3, .inl (5, 12), false) := rfl
theorem lk_Mo_weigh_128 : sc_lk tb_Mo_weigh 128 = some (.iload 5, 2, .inl (5, 0), false) := rfl
theorem lk_Mo_weigh_130 : sc_lk tb_Mo_weigh 130 = some (.iconst 1, 1, .inr (.inr 0), false) := rfl
theorem lk_Mo_weigh_131 : sc_lk tb_Mo_weigh 131 = some (.iadd, 1, .inr (.inr 0), false) := rfl
theorem lk_Mo_weigh_132 : sc_lk tb_Mo_weigh 132 = some (.iload 4, 2, .inl (4, 0), false) := rfl
theorem lk_Mo_weigh_134 : sc_lk tb_Mo_weigh 134 = some (.iastore, 1, .inr (.inr 0), false) := rfl
theorem lk_Mo_weigh_135 : sc_lk tb_Mo_weigh 135 = some (.aload_n 0, 1, .inl (0, 0), false) := rfl
theorem lk_Mo_weigh_136 : sc_lk tb_Mo_weigh 136 = some (.getfield 35, 3, .inl (5, 12), false) := rfl
theorem lk_Mo_weigh_139 : sc_lk tb_Mo_weigh 139 = some (.iload 5, 2, .inl (5, 0), false) := rfl
theorem lk_Mo_weigh_141 : sc_lk tb_Mo_weigh 141 = some (.iconst 2, 1, .inr (.inr 0), false) := rfl
theorem lk_Mo_weigh_142 : sc_lk tb_Mo_weigh 142 = some (.iadd, 1, .inr (.inr 0), false) := rfl
theorem lk_Mo_weigh_143 : sc_lk tb_Mo_weigh 143 = some (.bipush 12, 2, .inr (.inr 0), false) := rfl
theorem lk_Mo_weigh_145 : sc_lk tb_Mo_weigh 145 = some (.iload_n 3, 1, .inl (3, 0), false) := rfl
theorem lk_Mo_weigh_146 : sc_lk tb_Mo_weigh 146 = some (.isub, 1, .inr (.inr 0), false) := rfl
theorem lk_Mo_weigh_147 : sc_lk tb_Mo_weigh 147 = some (.iload 4, 2, .inl (4, 0), false) := rfl
theorem lk_Mo_weigh_149 : sc_lk tb_Mo_weigh 149 = some (.isub, 1, .inr (.inr 0), false) := rfl
theorem lk_Mo_weigh_150 : sc_lk tb_Mo_weigh 150 = some (.iastore, 1, .inr (.inr 0), false) := rfl
theorem lk_Mo_weigh_151 : sc_lk tb_Mo_weigh 151 = some (.iconst 1, 1, .inr (.inr 0), false) := rfl
theorem lk_Mo_weigh_152 : sc_lk tb_Mo_weigh 152 = some (.ireturn, 1, .inr (.inr 0), false) := rfl
def tb_Mo_weight : sc_T := [(0, .aload_n 0, 1, .inl (0, 0), false), (1, .iload_n 1, 1, .inl (1, 0), false), (2, .invokevirtual 99, 3, .inr (.inl (5, 1, mq_Mo_isNode)), false), (5, .ifCond .ne 5, 3, .inl (10, 0), false), (8, .iconst (-1), 1, .inr (.inr 0), false), (9, .ireturn, 1, .inr (.inr 0), false), (10, .aload_n 0, 1, .inl (0, 0), false), (11, .getfield 17, 3, .inl (5, 6), false), (14, .iload_n 1, 1, .inl (1, 0), false), (15, .iaload, 1, .inr (.inr 0), false), (16, .iconst 1, 1, .inr (.inr 0), false), (17, .if_icmp .eq 9, 3, .inl (26, 0), false), (20, .aload_n 0, 1, .inl (0, 0), false), (21, .iconst 3, 1, .inr (.inr 0), false), (22, .invokevirtual 103, 3, .inr (.inl (5, 1, mq_Mo_meets)), false), (25, .ireturn, 1, .inr (.inr 0), false), (26, .iload_n 2, 1, .inl (2, 0), false), (27, .iconst 0, 1, .inr (.inr 0), false), (28, .aload_n 0, 1, .inl (0, 0), false), (29, .iload_n 1, 1, .inl (1, 0), false), (30, .invokevirtual 87, 3, .inr (.inl (5, 1, mq_Mo_rowsOf)), false), (33, .iconst 1, 1, .inr (.inr 0), false), (34, .isub, 1, .inr (.inr 0), false), (35, .invokestatic 83, 3, .inr (.inl (100, 3, mq_Mo_in)), false), (38, .ifCond .eq 37, 3, .inl (75, 0), false), (41, .iload_n 3, 1, .inl (3, 0), false), (42, .iconst 0, 1, .inr (.inr 0), false), (43, .aload_n 0, 1, .inl (0, 0), false), (44, .getfield 20, 3, .inl (5, 7), false), (47, .iload_n 1, 1, .inl (1, 0), false), (48, .iaload, 1, .inr (.inr 0), false), (49, .iconst 1, 1, .inr (.inr 0), false), (50, .isub, 1, .inr (.inr 0), false), (51, .invokestatic 83, 3, .inr (.inl (100, 3, mq_Mo_in)), false), (54, .ifCond .eq 21, 3, .inl (75, 0), false), (57, .aload_n 0, 1, .inl (0, 0), false), (58, .getfield 35, 3, .inl (5, 12), false), (61, .bipush 27, 2, .inr (.inr 0), false), (63, .iload_n 1, 1, .inl (1, 0), false), (64, .imul, 1, .inr (.inr 0), false), (65, .iconst 3, 1, .inr (.inr 0), false), (66, .iload_n 2, 1, .inl (2, 0), false), (67, .imul, 1, .inr (.inr 0), false), (68, .iadd, 1, .inr (.inr 0), false), (69, .iload_n 3, 1, .inl (3, 0), false), (70, .iadd, 1, .inr (.inr 0), false), (71, .iaload, 1, .inr (.inr 0), false), (72, .goto 8, 3, .inl (80, 0), false), (75, .aload_n 0, 1, .inl (0, 0), false), (76, .iconst 2, 1, .inr (.inr 0), false), (77, .invokevirtual 103, 3, .inr (.inl (5, 1, mq_Mo_meets)), false), (80, .ireturn, 1, .inr (.inr 0), false)]
theorem tk_Mo_weight : sc_ok mq_Mo_weight tb_Mo_weight = true := by decide +kernel
theorem lk_Mo_weight_0 : sc_lk tb_Mo_weight 0 = some (.aload_n 0, 1, .inl (0, 0), false) := rfl
theorem lk_Mo_weight_1 : sc_lk tb_Mo_weight 1 = some (.iload_n 1, 1, .inl (1, 0), false) := rfl
theorem lk_Mo_weight_2 : sc_lk tb_Mo_weight 2 = some (.invokevirtual 99, 3, .inr (.inl (5, 1, mq_Mo_isNode)), false) := rfl
theorem lk_Mo_weight_5 : sc_lk tb_Mo_weight 5 = some (.ifCond .ne 5, 3, .inl (10, 0), false) := rfl
theorem lk_Mo_weight_8 : sc_lk tb_Mo_weight 8 = some (.iconst (-1), 1, .inr (.inr 0), false) := rfl
theorem lk_Mo_weight_9 : sc_lk tb_Mo_weight 9 = some (.ireturn, 1, .inr (.inr 0), false) := rfl
theorem lk_Mo_weight_10 : sc_lk tb_Mo_weight 10 = some (.aload_n 0, 1, .inl (0, 0), false) := rfl
theorem lk_Mo_weight_11 : sc_lk tb_Mo_weight 11 = some (.getfield 17, 3, .inl (5, 6), false) := rfl
theorem lk_Mo_weight_14 : sc_lk tb_Mo_weight 14 = some (.iload_n 1, 1, .inl (1, 0), false) := rfl
theorem lk_Mo_weight_15 : sc_lk tb_Mo_weight 15 = some (.iaload, 1, .inr (.inr 0), false) := rfl
theorem lk_Mo_weight_16 : sc_lk tb_Mo_weight 16 = some (.iconst 1, 1, .inr (.inr 0), false) := rfl
theorem lk_Mo_weight_17 : sc_lk tb_Mo_weight 17 = some (.if_icmp .eq 9, 3, .inl (26, 0), false) := rfl
theorem lk_Mo_weight_20 : sc_lk tb_Mo_weight 20 = some (.aload_n 0, 1, .inl (0, 0), false) := rfl
theorem lk_Mo_weight_21 : sc_lk tb_Mo_weight 21 = some (.iconst 3, 1, .inr (.inr 0), false) := rfl
theorem lk_Mo_weight_22 : sc_lk tb_Mo_weight 22 = some (.invokevirtual 103, 3, .inr (.inl (5, 1, mq_Mo_meets)), false) := rfl
theorem lk_Mo_weight_25 : sc_lk tb_Mo_weight 25 = some (.ireturn, 1, .inr (.inr 0), false) := rfl
theorem lk_Mo_weight_26 : sc_lk tb_Mo_weight 26 = some (.iload_n 2, 1, .inl (2, 0), false) := rfl
theorem lk_Mo_weight_27 : sc_lk tb_Mo_weight 27 = some (.iconst 0, 1, .inr (.inr 0), false) := rfl
theorem lk_Mo_weight_28 : sc_lk tb_Mo_weight 28 = some (.aload_n 0, 1, .inl (0, 0), false) := rfl
theorem lk_Mo_weight_29 : sc_lk tb_Mo_weight 29 = some (.iload_n 1, 1, .inl (1, 0), false) := rfl
theorem lk_Mo_weight_30 : sc_lk tb_Mo_weight 30 = some (.invokevirtual 87, 3, .inr (.inl (5, 1, mq_Mo_rowsOf)), false) := rfl
theorem lk_Mo_weight_33 : sc_lk tb_Mo_weight 33 = some (.iconst 1, 1, .inr (.inr 0), false) := rfl
theorem lk_Mo_weight_34 : sc_lk tb_Mo_weight 34 = some (.isub, 1, .inr (.inr 0), false) := rfl
theorem lk_Mo_weight_35 : sc_lk tb_Mo_weight 35 = some (.invokestatic 83, 3, .inr (.inl (100, 3, mq_Mo_in)), false) := rfl
theorem lk_Mo_weight_38 : sc_lk tb_Mo_weight 38 = some (.ifCond .eq 37, 3, .inl (75, 0), false) := rfl
theorem lk_Mo_weight_41 : sc_lk tb_Mo_weight 41 = some (.iload_n 3, 1, .inl (3, 0), false) := rfl
theorem lk_Mo_weight_42 : sc_lk tb_Mo_weight 42 = some (.iconst 0, 1, .inr (.inr 0), false) := rfl
theorem lk_Mo_weight_43 : sc_lk tb_Mo_weight 43 = some (.aload_n 0, 1, .inl (0, 0), false) := rfl
theorem lk_Mo_weight_44 : sc_lk tb_Mo_weight 44 = some (.getfield 20, 3, .inl (5, 7), false) := rfl
theorem lk_Mo_weight_47 : sc_lk tb_Mo_weight 47 = some (.iload_n 1, 1, .inl (1, 0), false) := rfl
theorem lk_Mo_weight_48 : sc_lk tb_Mo_weight 48 = some (.iaload, 1, .inr (.inr 0), false) := rfl
theorem lk_Mo_weight_49 : sc_lk tb_Mo_weight 49 = some (.iconst 1, 1, .inr (.inr 0), false) := rfl
theorem lk_Mo_weight_50 : sc_lk tb_Mo_weight 50 = some (.isub, 1, .inr (.inr 0), false) := rfl
theorem lk_Mo_weight_51 : sc_lk tb_Mo_weight 51 = some (.invokestatic 83, 3, .inr (.inl (100, 3, mq_Mo_in)), false) := rfl
theorem lk_Mo_weight_54 : sc_lk tb_Mo_weight 54 = some (.ifCond .eq 21, 3, .inl (75, 0), false) := rfl
theorem lk_Mo_weight_57 : sc_lk tb_Mo_weight 57 = some (.aload_n 0, 1, .inl (0, 0), false) := rfl
theorem lk_Mo_weight_58 : sc_lk tb_Mo_weight 58 = some (.getfield 35, 3, .inl (5, 12), false) := rfl
theorem lk_Mo_weight_61 : sc_lk tb_Mo_weight 61 = some (.bipush 27, 2, .inr (.inr 0), false) := rfl
theorem lk_Mo_weight_63 : sc_lk tb_Mo_weight 63 = some (.iload_n 1, 1, .inl (1, 0), false) := rfl
theorem lk_Mo_weight_64 : sc_lk tb_Mo_weight 64 = some (.imul, 1, .inr (.inr 0), false) := rfl
theorem lk_Mo_weight_65 : sc_lk tb_Mo_weight 65 = some (.iconst 3, 1, .inr (.inr 0), false) := rfl
theorem lk_Mo_weight_66 : sc_lk tb_Mo_weight 66 = some (.iload_n 2, 1, .inl (2, 0), false) := rfl
theorem lk_Mo_weight_67 : sc_lk tb_Mo_weight 67 = some (.imul, 1, .inr (.inr 0), false) := rfl
theorem lk_Mo_weight_68 : sc_lk tb_Mo_weight 68 = some (.iadd, 1, .inr (.inr 0), false) := rfl
theorem lk_Mo_weight_69 : sc_lk tb_Mo_weight 69 = some (.iload_n 3, 1, .inl (3, 0), false) := rfl
theorem lk_Mo_weight_70 : sc_lk tb_Mo_weight 70 = some (.iadd, 1, .inr (.inr 0), false) := rfl
theorem lk_Mo_weight_71 : sc_lk tb_Mo_weight 71 = some (.iaload, 1, .inr (.inr 0), false) := rfl
theorem lk_Mo_weight_72 : sc_lk tb_Mo_weight 72 = some (.goto 8, 3, .inl (80, 0), false) := rfl
theorem lk_Mo_weight_75 : sc_lk tb_Mo_weight 75 = some (.aload_n 0, 1, .inl (0, 0), false) := rfl
theorem lk_Mo_weight_76 : sc_lk tb_Mo_weight 76 = some (.iconst 2, 1, .inr (.inr 0), false) := rfl
theorem lk_Mo_weight_77 : sc_lk tb_Mo_weight 77 = some (.invokevirtual 103, 3, .inr (.inl (5, 1, mq_Mo_meets)), false) := rfl
theorem lk_Mo_weight_80 : sc_lk tb_Mo_weight 80 = some (.ireturn, 1, .inr (.inr 0), false) := rfl
def tb_Mo_worth : sc_T := [(0, .aload_n 0, 1, .inl (0, 0), false), (1, .iload_n 1, 1, .inl (1, 0), false), (2, .invokevirtual 99, 3, .inr (.inl (5, 1, mq_Mo_isNode)), false), (5, .ifCond .eq 14, 3, .inl (19, 0), false), (8, .iload_n 3, 1, .inl (3, 0), false), (9, .bipush (-100), 2, .inr (.inr 0), false), (11, .bipush 100, 2, .inr (.inr 0), false), (13, .invokestatic 83, 3, .inr (.inl (100, 3, mq_Mo_in)), false), (16, .ifCond .ne 5, 3, .inl (21, 0), false), (19, .iconst (-1), 1, .inr (.inr 0), false), (20, .ireturn, 1, .inr (.inr 0), false), (21, .aload_n 0, 1, .inl (0, 0), false), (22, .getfield 17, 3, .inl (5, 6), false), (25, .iload_n 1, 1, .inl (1, 0), false), (26, .iaload, 1, .inr (.inr 0), false), (27, .ifCond .eq 9, 3, .inl (36, 0), false), (30, .aload_n 0, 1, .inl (0, 0), false), (31, .iconst 3, 1, .inr (.inr 0), false), (32, .invokevirtual 103, 3, .inr (.inl (5, 1, mq_Mo_meets)), false), (35, .ireturn, 1, .inr (.inr 0), false), (36, .iload_n 2, 1, .inl (2, 0), false), (37, .iconst 0, 1, .inr (.inr 0), false), (38, .aload_n 0, 1, .inl (0, 0), false), (39, .iload_n 1, 1, .inl (1, 0), false), (40, .invokevirtual 87, 3, .inr (.inl (5, 1, mq_Mo_rowsOf)), false), (43, .iconst 1, 1, .inr (.inr 0), false), (44, .isub, 1, .inr (.inr 0), false), (45, .invokestatic 83, 3, .inr (.inl (100, 3, mq_Mo_in)), false), (48, .ifCond .ne 9, 3, .inl (57, 0), false), (51, .aload_n 0, 1, .inl (0, 0), false), (52, .iconst 2, 1, .inr (.inr 0), false), (53, .invokevirtual 103, 3, .inr (.inl (5, 1, mq_Mo_meets)), false), (56, .ireturn, 1, .inr (.inr 0), false), (57, .aload_n 0, 1, .inl (0, 0), false), (58, .aload_n 0, 1, .inl (0, 0), false), (59, .getfield 35, 3, .inl (5, 12), false), (62, .bipush 27, 2, .inr (.inr 0), false), (64, .iload_n 1, 1, .inl (1, 0), false), (65, .imul, 1, .inr (.inr 0), false), (66, .iload_n 2, 1, .inl (2, 0), false), (67, .iadd, 1, .inr (.inr 0), false), (68, .iaload, 1, .inr (.inr 0), false), (69, .putfield 74, 3, .inl (5, 2), false), (72, .aload_n 0, 1, .inl (0, 0), false), (73, .getfield 35, 3, .inl (5, 12), false), (76, .bipush 27, 2, .inr (.inr 0), false), (78, .iload_n 1, 1, .inl (1, 0), false), (79, .imul, 1, .inr (.inr 0), false), (80, .iload_n 2, 1, .inl (2, 0), false), (81, .iadd, 1, .inr (.inr 0), false), (82, .iload_n 3, 1, .inl (3, 0), false), (83, .iastore, 1, .inr (.inr 0), false), (84, .iconst 1, 1, .inr (.inr 0), false), (85, .ireturn, 1, .inr (.inr 0), false)]
theorem tk_Mo_worth : sc_ok mq_Mo_worth tb_Mo_worth = true := by decide +kernel
theorem lk_Mo_worth_0 : sc_lk tb_Mo_worth 0 = some (.aload_n 0, 1, .inl (0, 0), false) := rfl
theorem lk_Mo_worth_1 : sc_lk tb_Mo_worth 1 = some (.iload_n 1, 1, .inl (1, 0), false) := rfl
theorem lk_Mo_worth_2 : sc_lk tb_Mo_worth 2 = some (.invokevirtual 99, 3, .inr (.inl (5, 1, mq_Mo_isNode)), false) := rfl
theorem lk_Mo_worth_5 : sc_lk tb_Mo_worth 5 = some (.ifCond .eq 14, 3, .inl (19, 0), false) := rfl
theorem lk_Mo_worth_8 : sc_lk tb_Mo_worth 8 = some (.iload_n 3, 1, .inl (3, 0), false) := rfl
theorem lk_Mo_worth_9 : sc_lk tb_Mo_worth 9 = some (.bipush (-100), 2, .inr (.inr 0), false) := rfl
theorem lk_Mo_worth_11 : sc_lk tb_Mo_worth 11 = some (.bipush 100, 2, .inr (.inr 0), false) := rfl
theorem lk_Mo_worth_13 : sc_lk tb_Mo_worth 13 = some (.invokestatic 83, 3, .inr (.inl (100, 3, mq_Mo_in)), false) := rfl
theorem lk_Mo_worth_16 : sc_lk tb_Mo_worth 16 = some (.ifCond .ne 5, 3, .inl (21, 0), false) := rfl
theorem lk_Mo_worth_19 : sc_lk tb_Mo_worth 19 = some (.iconst (-1), 1, .inr (.inr 0), false) := rfl
theorem lk_Mo_worth_20 : sc_lk tb_Mo_worth 20 = some (.ireturn, 1, .inr (.inr 0), false) := rfl
theorem lk_Mo_worth_21 : sc_lk tb_Mo_worth 21 = some (.aload_n 0, 1, .inl (0, 0), false) := rfl
theorem lk_Mo_worth_22 : sc_lk tb_Mo_worth 22 = some (.getfield 17, 3, .inl (5, 6), false) := rfl
theorem lk_Mo_worth_25 : sc_lk tb_Mo_worth 25 = some (.iload_n 1, 1, .inl (1, 0), false) := rfl
theorem lk_Mo_worth_26 : sc_lk tb_Mo_worth 26 = some (.iaload, 1, .inr (.inr 0), false) := rfl
theorem lk_Mo_worth_27 : sc_lk tb_Mo_worth 27 = some (.ifCond .eq 9, 3, .inl (36, 0), false) := rfl
theorem lk_Mo_worth_30 : sc_lk tb_Mo_worth 30 = some (.aload_n 0, 1, .inl (0, 0), false) := rfl
theorem lk_Mo_worth_31 : sc_lk tb_Mo_worth 31 = some (.iconst 3, 1, .inr (.inr 0), false) := rfl
theorem lk_Mo_worth_32 : sc_lk tb_Mo_worth 32 = some (.invokevirtual 103, 3, .inr (.inl (5, 1, mq_Mo_meets)), false) := rfl
theorem lk_Mo_worth_35 : sc_lk tb_Mo_worth 35 = some (.ireturn, 1, .inr (.inr 0), false) := rfl
theorem lk_Mo_worth_36 : sc_lk tb_Mo_worth 36 = some (.iload_n 2, 1, .inl (2, 0), false) := rfl
theorem lk_Mo_worth_37 : sc_lk tb_Mo_worth 37 = some (.iconst 0, 1, .inr (.inr 0), false) := rfl
theorem lk_Mo_worth_38 : sc_lk tb_Mo_worth 38 = some (.aload_n 0, 1, .inl (0, 0), false) := rfl
theorem lk_Mo_worth_39 : sc_lk tb_Mo_worth 39 = some (.iload_n 1, 1, .inl (1, 0), false) := rfl
theorem lk_Mo_worth_40 : sc_lk tb_Mo_worth 40 = some (.invokevirtual 87, 3, .inr (.inl (5, 1, mq_Mo_rowsOf)), false) := rfl
theorem lk_Mo_worth_43 : sc_lk tb_Mo_worth 43 = some (.iconst 1, 1, .inr (.inr 0), false) := rfl
theorem lk_Mo_worth_44 : sc_lk tb_Mo_worth 44 = some (.isub, 1, .inr (.inr 0), false) := rfl
theorem lk_Mo_worth_45 : sc_lk tb_Mo_worth 45 = some (.invokestatic 83, 3, .inr (.inl (100, 3, mq_Mo_in)), false) := rfl
theorem lk_Mo_worth_48 : sc_lk tb_Mo_worth 48 = some (.ifCond .ne 9, 3, .inl (57, 0), false) := rfl
theorem lk_Mo_worth_51 : sc_lk tb_Mo_worth 51 = some (.aload_n 0, 1, .inl (0, 0), false) := rfl
theorem lk_Mo_worth_52 : sc_lk tb_Mo_worth 52 = some (.iconst 2, 1, .inr (.inr 0), false) := rfl
theorem lk_Mo_worth_53 : sc_lk tb_Mo_worth 53 = some (.invokevirtual 103, 3, .inr (.inl (5, 1, mq_Mo_meets)), false) := rfl
theorem lk_Mo_worth_56 : sc_lk tb_Mo_worth 56 = some (.ireturn, 1, .inr (.inr 0), false) := rfl
theorem lk_Mo_worth_57 : sc_lk tb_Mo_worth 57 = some (.aload_n 0, 1, .inl (0, 0), false) := rfl
theorem lk_Mo_worth_58 : sc_lk tb_Mo_worth 58 = some (.aload_n 0, 1, .inl (0, 0), false) := rfl
theorem lk_Mo_worth_59 : sc_lk tb_Mo_worth 59 = some (.getfield 35, 3, .inl (5, 12), false) := rfl
theorem lk_Mo_worth_62 : sc_lk tb_Mo_worth 62 = some (.bipush 27, 2, .inr (.inr 0), false) := rfl
theorem lk_Mo_worth_64 : sc_lk tb_Mo_worth 64 = some (.iload_n 1, 1, .inl (1, 0), false) := rfl
theorem lk_Mo_worth_65 : sc_lk tb_Mo_worth 65 = some (.imul, 1, .inr (.inr 0), false) := rfl
theorem lk_Mo_worth_66 : sc_lk tb_Mo_worth 66 = some (.iload_n 2, 1, .inl (2, 0), false) := rfl
theorem lk_Mo_worth_67 : sc_lk tb_Mo_worth 67 = some (.iadd, 1, .inr (.inr 0), false) := rfl
theorem lk_Mo_worth_68 : sc_lk tb_Mo_worth 68 = some (.iaload, 1, .inr (.inr 0), false) := rfl
theorem lk_Mo_worth_69 : sc_lk tb_Mo_worth 69 = some (.putfield 74, 3, .inl (5, 2), false) := rfl
theorem lk_Mo_worth_72 : sc_lk tb_Mo_worth 72 = some (.aload_n 0, 1, .inl (0, 0), false) := rfl
theorem lk_Mo_worth_73 : sc_lk tb_Mo_worth 73 = some (.getfield 35, 3, .inl (5, 12), false) := rfl
theorem lk_Mo_worth_76 : sc_lk tb_Mo_worth 76 = some (.bipush 27, 2, .inr (.inr 0), false) := rfl
theorem lk_Mo_worth_78 : sc_lk tb_Mo_worth 78 = some (.iload_n 1, 1, .inl (1, 0), false) := rfl
theorem lk_Mo_worth_79 : sc_lk tb_Mo_worth 79 = some (.imul, 1, .inr (.inr 0), false) := rfl
theorem lk_Mo_worth_80 : sc_lk tb_Mo_worth 80 = some (.iload_n 2, 1, .inl (2, 0), false) := rfl
theorem lk_Mo_worth_81 : sc_lk tb_Mo_worth 81 = some (.iadd, 1, .inr (.inr 0), false) := rfl
theorem lk_Mo_worth_82 : sc_lk tb_Mo_worth 82 = some (.iload_n 3, 1, .inl (3, 0), false) := rfl
theorem lk_Mo_worth_83 : sc_lk tb_Mo_worth 83 = some (.iastore, 1, .inr (.inr 0), false) := rfl
theorem lk_Mo_worth_84 : sc_lk tb_Mo_worth 84 = some (.iconst 1, 1, .inr (.inr 0), false) := rfl
theorem lk_Mo_worth_85 : sc_lk tb_Mo_worth 85 = some (.ireturn, 1, .inr (.inr 0), false) := rfl
def tb_Mo_firm : sc_T := [(0, .aload_n 0, 1, .inl (0, 0), false), (1, .iload_n 1, 1, .inl (1, 0), false), (2, .invokevirtual 99, 3, .inr (.inl (5, 1, mq_Mo_isNode)), false), (5, .ifCond .ne 5, 3, .inl (10, 0), false), (8, .iconst (-1), 1, .inr (.inr 0), false), (9, .ireturn, 1, .inr (.inr 0), false), (10, .aload_n 0, 1, .inl (0, 0), false), (11, .getfield 17, 3, .inl (5, 6), false), (14, .iload_n 1, 1, .inl (1, 0), false), (15, .iaload, 1, .inr (.inr 0), false), (16, .iconst 2, 1, .inr (.inr 0), false), (17, .if_icmp .eq 9, 3, .inl (26, 0), false), (20, .aload_n 0, 1, .inl (0, 0), false), (21, .iconst 3, 1, .inr (.inr 0), false), (22, .invokevirtual 103, 3, .inr (.inl (5, 1, mq_Mo_meets)), false), (25, .ireturn, 1, .inr (.inr 0), false), (26, .iload_n 2, 1, .inl (2, 0), false), (27, .bipush (-9), 2, .inr (.inr 0), false), (29, .if_icmp .eq 25, 3, .inl (54, 0), false), (32, .iload_n 2, 1, .inl (2, 0), false), (33, .iconst 0, 1, .inr (.inr 0), false), (34, .aload_n 0, 1, .inl (0, 0), false), (35, .getfield 20, 3, .inl (5, 7), false), (38, .iload_n 1, 1, .inl (1, 0), false), (39, .iaload, 1, .inr (.inr 0), false), (40, .iconst 1, 1, .inr (.inr 0), false), (41, .isub, 1, .inr (.inr 0), false), (42, .invokestatic 83, 3, .inr (.inl (100, 3, mq_Mo_in)), false), (45, .ifCond .ne 9, 3, .inl (54, 0), false), (48, .aload_n 0, 1, .inl (0, 0), false), (49, .iconst 2, 1, .inr (.inr 0), false), (50, .invokevirtual 103, 3, .inr (.inl (5, 1, mq_Mo_meets)), false), (53, .ireturn, 1, .inr (.inr 0), false), (54, .aload_n 0, 1, .inl (0, 0), false), (55, .getfield 32, 3, .inl (5, 11), false), (58, .iload_n 1, 1, .inl (1, 0), false), (59, .iaload, 1, .inr (.inr 0), false), (60, .istore_n 3, 1, .inl (3, 0), false), (61, .aload_n 0, 1, .inl (0, 0), false), (62, .getfield 32, 3, .inl (5, 11), false), (65, .iload_n 1, 1, .inl (1, 0), false), (66, .iload_n 2, 1, .inl (2, 0), false), (67, .iastore, 1, .inr (.inr 0), false), (68, .iload_n 3, 1, .inl (3, 0), false), (69, .ireturn, 1, .inr (.inr 0), false)]
theorem tk_Mo_firm : sc_ok mq_Mo_firm tb_Mo_firm = true := by decide +kernel
theorem lk_Mo_firm_0 : sc_lk tb_Mo_firm 0 = some (.aload_n 0, 1, .inl (0, 0), false) := rfl
theorem lk_Mo_firm_1 : sc_lk tb_Mo_firm 1 = some (.iload_n 1, 1, .inl (1, 0), false) := rfl
theorem lk_Mo_firm_2 : sc_lk tb_Mo_firm 2 = some (.invokevirtual 99, 3, .inr (.inl (5, 1, mq_Mo_isNode)), false) := rfl
theorem lk_Mo_firm_5 : sc_lk tb_Mo_firm 5 = some (.ifCond .ne 5, 3, .inl (10, 0), false) := rfl
theorem lk_Mo_firm_8 : sc_lk tb_Mo_firm 8 = some (.iconst (-1), 1, .inr (.inr 0), false) := rfl
theorem lk_Mo_firm_9 : sc_lk tb_Mo_firm 9 = some (.ireturn, 1, .inr (.inr 0), false) := rfl
theorem lk_Mo_firm_10 : sc_lk tb_Mo_firm 10 = some (.aload_n 0, 1, .inl (0, 0), false) := rfl
theorem lk_Mo_firm_11 : sc_lk tb_Mo_firm 11 = some (.getfield 17, 3, .inl (5, 6), false) := rfl
theorem lk_Mo_firm_14 : sc_lk tb_Mo_firm 14 = some (.iload_n 1, 1, .inl (1, 0), false) := rfl
theorem lk_Mo_firm_15 : sc_lk tb_Mo_firm 15 = some (.iaload, 1, .inr (.inr 0), false) := rfl
theorem lk_Mo_firm_16 : sc_lk tb_Mo_firm 16 = some (.iconst 2, 1, .inr (.inr 0), false) := rfl
theorem lk_Mo_firm_17 : sc_lk tb_Mo_firm 17 = some (.if_icmp .eq 9, 3, .inl (26, 0), false) := rfl
theorem lk_Mo_firm_20 : sc_lk tb_Mo_firm 20 = some (.aload_n 0, 1, .inl (0, 0), false) := rfl
theorem lk_Mo_firm_21 : sc_lk tb_Mo_firm 21 = some (.iconst 3, 1, .inr (.inr 0), false) := rfl
theorem lk_Mo_firm_22 : sc_lk tb_Mo_firm 22 = some (.invokevirtual 103, 3, .inr (.inl (5, 1, mq_Mo_meets)), false) := rfl
theorem lk_Mo_firm_25 : sc_lk tb_Mo_firm 25 = some (.ireturn, 1, .inr (.inr 0), false) := rfl
theorem lk_Mo_firm_26 : sc_lk tb_Mo_firm 26 = some (.iload_n 2, 1, .inl (2, 0), false) := rfl
theorem lk_Mo_firm_27 : sc_lk tb_Mo_firm 27 = some (.bipush (-9), 2, .inr (.inr 0), false) := rfl
theorem lk_Mo_firm_29 : sc_lk tb_Mo_firm 29 = some (.if_icmp .eq 25, 3, .inl (54, 0), false) := rfl
theorem lk_Mo_firm_32 : sc_lk tb_Mo_firm 32 = some (.iload_n 2, 1, .inl (2, 0), false) := rfl
theorem lk_Mo_firm_33 : sc_lk tb_Mo_firm 33 = some (.iconst 0, 1, .inr (.inr 0), false) := rfl
theorem lk_Mo_firm_34 : sc_lk tb_Mo_firm 34 = some (.aload_n 0, 1, .inl (0, 0), false) := rfl
theorem lk_Mo_firm_35 : sc_lk tb_Mo_firm 35 = some (.getfield 20, 3, .inl (5, 7), false) := rfl
theorem lk_Mo_firm_38 : sc_lk tb_Mo_firm 38 = some (.iload_n 1, 1, .inl (1, 0), false) := rfl
theorem lk_Mo_firm_39 : sc_lk tb_Mo_firm 39 = some (.iaload, 1, .inr (.inr 0), false) := rfl
theorem lk_Mo_firm_40 : sc_lk tb_Mo_firm 40 = some (.iconst 1, 1, .inr (.inr 0), false) := rfl
theorem lk_Mo_firm_41 : sc_lk tb_Mo_firm 41 = some (.isub, 1, .inr (.inr 0), false) := rfl
theorem lk_Mo_firm_42 : sc_lk tb_Mo_firm 42 = some (.invokestatic 83, 3, .inr (.inl (100, 3, mq_Mo_in)), false) := rfl
theorem lk_Mo_firm_45 : sc_lk tb_Mo_firm 45 = some (.ifCond .ne 9, 3, .inl (54, 0), false) := rfl
theorem lk_Mo_firm_48 : sc_lk tb_Mo_firm 48 = some (.aload_n 0, 1, .inl (0, 0), false) := rfl
theorem lk_Mo_firm_49 : sc_lk tb_Mo_firm 49 = some (.iconst 2, 1, .inr (.inr 0), false) := rfl
theorem lk_Mo_firm_50 : sc_lk tb_Mo_firm 50 = some (.invokevirtual 103, 3, .inr (.inl (5, 1, mq_Mo_meets)), false) := rfl
theorem lk_Mo_firm_53 : sc_lk tb_Mo_firm 53 = some (.ireturn, 1, .inr (.inr 0), false) := rfl
theorem lk_Mo_firm_54 : sc_lk tb_Mo_firm 54 = some (.aload_n 0, 1, .inl (0, 0), false) := rfl
theorem lk_Mo_firm_55 : sc_lk tb_Mo_firm 55 = some (.getfield 32, 3, .inl (5, 11), false) := rfl
theorem lk_Mo_firm_58 : sc_lk tb_Mo_firm 58 = some (.iload_n 1, 1, .inl (1, 0), false) := rfl
theorem lk_Mo_firm_59 : sc_lk tb_Mo_firm 59 = some (.iaload, 1, .inr (.inr 0), false) := rfl
theorem lk_Mo_firm_60 : sc_lk tb_Mo_firm 60 = some (.istore_n 3, 1, .inl (3, 0), false) := rfl
theorem lk_Mo_firm_61 : sc_lk tb_Mo_firm 61 = some (.aload_n 0, 1, .inl (0, 0), false) := rfl
theorem lk_Mo_firm_62 : sc_lk tb_Mo_firm 62 = some (.getfield 32, 3, .inl (5, 11), false) := rfl
theorem lk_Mo_firm_65 : sc_lk tb_Mo_firm 65 = some (.iload_n 1, 1, .inl (1, 0), false) := rfl
theorem lk_Mo_firm_66 : sc_lk tb_Mo_firm 66 = some (.iload_n 2, 1, .inl (2, 0), false) := rfl
theorem lk_Mo_firm_67 : sc_lk tb_Mo_firm 67 = some (.iastore, 1, .inr (.inr 0), false) := rfl
theorem lk_Mo_firm_68 : sc_lk tb_Mo_firm 68 = some (.iload_n 3, 1, .inl (3, 0), false) := rfl
theorem lk_Mo_firm_69 : sc_lk tb_Mo_firm 69 = some (.ireturn, 1, .inr (.inr 0), false) := rfl
def tb_Mo_told : sc_T := [(0, .aload_n 0, 1, .inl (0, 0), false), (1, .iload_n 1, 1, .inl (1, 0), false), (2, .invokevirtual 99, 3, .inr (.inl (5, 1, mq_Mo_isNode)), false), (5, .ifCond .eq 21, 3, .inl (26, 0), false), (8, .iload_n 2, 1, .inl (2, 0), false), (9, .iconst 0, 1, .inr (.inr 0), false), (10, .iconst 4, 1, .inr (.inr 0), false), (11, .invokestatic 83, 3, .inr (.inl (100, 3, mq_Mo_in)), false), (14, .ifCond .eq 12, 3, .inl (26, 0), false), (17, .aload_n 0, 1, .inl (0, 0), false), (18, .iload_n 1, 1, .inl (1, 0), false), (19, .iload_n 2, 1, .inl (2, 0), false), (20, .invokevirtual 123, 3, .inr (.inl (5, 2, mq_Mo_tells)), false), (23, .goto 4, 3, .inl (27, 0), false), (26, .iconst (-1), 1, .inr (.inr 0), false), (27, .ireturn, 1, .inr (.inr 0), false)]
theorem tk_Mo_told : sc_ok mq_Mo_told tb_Mo_told = true := by decide +kernel
theorem lk_Mo_told_0 : sc_lk tb_Mo_told 0 = some (.aload_n 0, 1, .inl (0, 0), false) := rfl
theorem lk_Mo_told_1 : sc_lk tb_Mo_told 1 = some (.iload_n 1, 1, .inl (1, 0), false) := rfl
theorem lk_Mo_told_2 : sc_lk tb_Mo_told 2 = some (.invokevirtual 99, 3, .inr (.inl (5, 1, mq_Mo_isNode)), false) := rfl
theorem lk_Mo_told_5 : sc_lk tb_Mo_told 5 = some (.ifCond .eq 21, 3, .inl (26, 0), false) := rfl
theorem lk_Mo_told_8 : sc_lk tb_Mo_told 8 = some (.iload_n 2, 1, .inl (2, 0), false) := rfl
theorem lk_Mo_told_9 : sc_lk tb_Mo_told 9 = some (.iconst 0, 1, .inr (.inr 0), false) := rfl
theorem lk_Mo_told_10 : sc_lk tb_Mo_told 10 = some (.iconst 4, 1, .inr (.inr 0), false) := rfl
theorem lk_Mo_told_11 : sc_lk tb_Mo_told 11 = some (.invokestatic 83, 3, .inr (.inl (100, 3, mq_Mo_in)), false) := rfl
theorem lk_Mo_told_14 : sc_lk tb_Mo_told 14 = some (.ifCond .eq 12, 3, .inl (26, 0), false) := rfl
theorem lk_Mo_told_17 : sc_lk tb_Mo_told 17 = some (.aload_n 0, 1, .inl (0, 0), false) := rfl
theorem lk_Mo_told_18 : sc_lk tb_Mo_told 18 = some (.iload_n 1, 1, .inl (1, 0), false) := rfl
theorem lk_Mo_told_19 : sc_lk tb_Mo_told 19 = some (.iload_n 2, 1, .inl (2, 0), false) := rfl
theorem lk_Mo_told_20 : sc_lk tb_Mo_told 20 = some (.invokevirtual 123, 3, .inr (.inl (5, 2, mq_Mo_tells)), false) := rfl
theorem lk_Mo_told_23 : sc_lk tb_Mo_told 23 = some (.goto 4, 3, .inl (27, 0), false) := rfl
theorem lk_Mo_told_26 : sc_lk tb_Mo_told 26 = some (.iconst (-1), 1, .inr (.inr 0), false) := rfl
theorem lk_Mo_told_27 : sc_lk tb_Mo_told 27 = some (.ireturn, 1, .inr (.inr 0), false) := rfl
def tb_Mo_tells : sc_T := [(0, .iload_n 2, 1, .inl (2, 0), false), (1, .tableswitch 61 0 3 #[31, 37, 44, 51], 31, .inr (.inr 0), false), (32, .aload_n 0, 1, .inl (0, 0), false), (33, .iload_n 1, 1, .inl (1, 0), false), (34, .invokevirtual 117, 3, .inr (.inl (5, 1, mq_Mo_kindOf)), false), (37, .ireturn, 1, .inr (.inr 0), false), (38, .aload_n 0, 1, .inl (0, 0), false), (39, .getfield 20, 3, .inl (5, 7), false), (42, .iload_n 1, 1, .inl (1, 0), false), (43, .iaload, 1, .inr (.inr 0), false), (44, .ireturn, 1, .inr (.inr 0), false), (45, .aload_n 0, 1, .inl (0, 0), false), (46, .getfield 23, 3, .inl (5, 8), false), (49, .iload_n 1, 1, .inl (1, 0), false), (50, .iaload, 1, .inr (.inr 0), false), (51, .ireturn, 1, .inr (.inr 0), false), (52, .aload_n 0, 1, .inl (0, 0), false), (53, .getfield 29, 3, .inl (5, 10), false), (56, .iload_n 1, 1, .inl (1, 0), false), (57, .iaload, 1, .inr (.inr 0), false), (58, .invokestatic 110, 3, .inr (.inl (100, 1, mq_Mo_bits)), false), (61, .ireturn, 1, .inr (.inr 0), false), (62, .aload_n 0, 1, .inl (0, 0), false), (63, .iload_n 1, 1, .inl (1, 0), false), (64, .invokevirtual 120, 3, .inr (.inl (5, 1, mq_Mo_placesOf)), false), (67, .ireturn, 1, .inr (.inr 0), false)]
theorem tk_Mo_tells : sc_ok mq_Mo_tells tb_Mo_tells = true := by decide +kernel
theorem lk_Mo_tells_0 : sc_lk tb_Mo_tells 0 = some (.iload_n 2, 1, .inl (2, 0), false) := rfl
theorem lk_Mo_tells_1 : sc_lk tb_Mo_tells 1 = some (.tableswitch 61 0 3 #[31, 37, 44, 51], 31, .inr (.inr 0), false) := rfl
theorem lk_Mo_tells_32 : sc_lk tb_Mo_tells 32 = some (.aload_n 0, 1, .inl (0, 0), false) := rfl
theorem lk_Mo_tells_33 : sc_lk tb_Mo_tells 33 = some (.iload_n 1, 1, .inl (1, 0), false) := rfl
theorem lk_Mo_tells_34 : sc_lk tb_Mo_tells 34 = some (.invokevirtual 117, 3, .inr (.inl (5, 1, mq_Mo_kindOf)), false) := rfl
theorem lk_Mo_tells_37 : sc_lk tb_Mo_tells 37 = some (.ireturn, 1, .inr (.inr 0), false) := rfl
theorem lk_Mo_tells_38 : sc_lk tb_Mo_tells 38 = some (.aload_n 0, 1, .inl (0, 0), false) := rfl
theorem lk_Mo_tells_39 : sc_lk tb_Mo_tells 39 = some (.getfield 20, 3, .inl (5, 7), false) := rfl
theorem lk_Mo_tells_42 : sc_lk tb_Mo_tells 42 = some (.iload_n 1, 1, .inl (1, 0), false) := rfl
theorem lk_Mo_tells_43 : sc_lk tb_Mo_tells 43 = some (.iaload, 1, .inr (.inr 0), false) := rfl
theorem lk_Mo_tells_44 : sc_lk tb_Mo_tells 44 = some (.ireturn, 1, .inr (.inr 0), false) := rfl
theorem lk_Mo_tells_45 : sc_lk tb_Mo_tells 45 = some (.aload_n 0, 1, .inl (0, 0), false) := rfl
theorem lk_Mo_tells_46 : sc_lk tb_Mo_tells 46 = some (.getfield 23, 3, .inl (5, 8), false) := rfl
theorem lk_Mo_tells_49 : sc_lk tb_Mo_tells 49 = some (.iload_n 1, 1, .inl (1, 0), false) := rfl
theorem lk_Mo_tells_50 : sc_lk tb_Mo_tells 50 = some (.iaload, 1, .inr (.inr 0), false) := rfl
theorem lk_Mo_tells_51 : sc_lk tb_Mo_tells 51 = some (.ireturn, 1, .inr (.inr 0), false) := rfl
theorem lk_Mo_tells_52 : sc_lk tb_Mo_tells 52 = some (.aload_n 0, 1, .inl (0, 0), false) := rfl
theorem lk_Mo_tells_53 : sc_lk tb_Mo_tells 53 = some (.getfield 29, 3, .inl (5, 10), false) := rfl
theorem lk_Mo_tells_56 : sc_lk tb_Mo_tells 56 = some (.iload_n 1, 1, .inl (1, 0), false) := rfl
theorem lk_Mo_tells_57 : sc_lk tb_Mo_tells 57 = some (.iaload, 1, .inr (.inr 0), false) := rfl
theorem lk_Mo_tells_58 : sc_lk tb_Mo_tells 58 = some (.invokestatic 110, 3, .inr (.inl (100, 1, mq_Mo_bits)), false) := rfl
theorem lk_Mo_tells_61 : sc_lk tb_Mo_tells 61 = some (.ireturn, 1, .inr (.inr 0), false) := rfl
theorem lk_Mo_tells_62 : sc_lk tb_Mo_tells 62 = some (.aload_n 0, 1, .inl (0, 0), false) := rfl
theorem lk_Mo_tells_63 : sc_lk tb_Mo_tells 63 = some (.iload_n 1, 1, .inl (1, 0), false) := rfl
theorem lk_Mo_tells_64 : sc_lk tb_Mo_tells 64 = some (.invokevirtual 120, 3, .inr (.inl (5, 1, mq_Mo_placesOf)), false) := rfl
theorem lk_Mo_tells_67 : sc_lk tb_Mo_tells 67 = some (.ireturn, 1, .inr (.inr 0), false) := rfl
def tb_Mo_kindOf : sc_T := [(0, .aload_n 0, 1, .inl (0, 0), false), (1, .getfield 17, 3, .inl (5, 6), false), (4, .iload_n 1, 1, .inl (1, 0), false), (5, .iaload, 1, .inr (.inr 0), false), (6, .iconst 2, 1, .inr (.inr 0), false), (7, .if_icmp .ne 16, 3, .inl (23, 0), false), (10, .aload_n 0, 1, .inl (0, 0), false), (11, .getfield 32, 3, .inl (5, 11), false), (14, .iload_n 1, 1, .inl (1, 0), false), (15, .iaload, 1, .inr (.inr 0), false), (16, .ifCond .lt 7, 3, .inl (23, 0), false), (19, .iconst 3, 1, .inr (.inr 0), false), (20, .goto 9, 3, .inl (29, 0), false), (23, .aload_n 0, 1, .inl (0, 0), false), (24, .getfield 17, 3, .inl (5, 6), false), (27, .iload_n 1, 1, .inl (1, 0), false), (28, .iaload, 1, .inr (.inr 0), false), (29, .ireturn, 1, .inr (.inr 0), false)]
theorem tk_Mo_kindOf : sc_ok mq_Mo_kindOf tb_Mo_kindOf = true := by decide +kernel
theorem lk_Mo_kindOf_0 : sc_lk tb_Mo_kindOf 0 = some (.aload_n 0, 1, .inl (0, 0), false) := rfl
theorem lk_Mo_kindOf_1 : sc_lk tb_Mo_kindOf 1 = some (.getfield 17, 3, .inl (5, 6), false) := rfl
theorem lk_Mo_kindOf_4 : sc_lk tb_Mo_kindOf 4 = some (.iload_n 1, 1, .inl (1, 0), false) := rfl
theorem lk_Mo_kindOf_5 : sc_lk tb_Mo_kindOf 5 = some (.iaload, 1, .inr (.inr 0), false) := rfl
theorem lk_Mo_kindOf_6 : sc_lk tb_Mo_kindOf 6 = some (.iconst 2, 1, .inr (.inr 0), false) := rfl
theorem lk_Mo_kindOf_7 : sc_lk tb_Mo_kindOf 7 = some (.if_icmp .ne 16, 3, .inl (23, 0), false) := rfl
theorem lk_Mo_kindOf_10 : sc_lk tb_Mo_kindOf 10 = some (.aload_n 0, 1, .inl (0, 0), false) := rfl
theorem lk_Mo_kindOf_11 : sc_lk tb_Mo_kindOf 11 = some (.getfield 32, 3, .inl (5, 11), false) := rfl
theorem lk_Mo_kindOf_14 : sc_lk tb_Mo_kindOf 14 = some (.iload_n 1, 1, .inl (1, 0), false) := rfl
theorem lk_Mo_kindOf_15 : sc_lk tb_Mo_kindOf 15 = some (.iaload, 1, .inr (.inr 0), false) := rfl
theorem lk_Mo_kindOf_16 : sc_lk tb_Mo_kindOf 16 = some (.ifCond .lt 7, 3, .inl (23, 0), false) := rfl
theorem lk_Mo_kindOf_19 : sc_lk tb_Mo_kindOf 19 = some (.iconst 3, 1, .inr (.inr 0), false) := rfl
theorem lk_Mo_kindOf_20 : sc_lk tb_Mo_kindOf 20 = some (.goto 9, 3, .inl (29, 0), false) := rfl
theorem lk_Mo_kindOf_23 : sc_lk tb_Mo_kindOf 23 = some (.aload_n 0, 1, .inl (0, 0), false) := rfl
theorem lk_Mo_kindOf_24 : sc_lk tb_Mo_kindOf 24 = some (.getfield 17, 3, .inl (5, 6), false) := rfl
theorem lk_Mo_kindOf_27 : sc_lk tb_Mo_kindOf 27 = some (.iload_n 1, 1, .inl (1, 0), false) := rfl
theorem lk_Mo_kindOf_28 : sc_lk tb_Mo_kindOf 28 = some (.iaload, 1, .inr (.inr 0), false) := rfl
theorem lk_Mo_kindOf_29 : sc_lk tb_Mo_kindOf 29 = some (.ireturn, 1, .inr (.inr 0), false) := rfl
def tb_Mo_placesOf : sc_T := [(0, .aload_n 0, 1, .inl (0, 0), false), (1, .getfield 17, 3, .inl (5, 6), false), (4, .iload_n 1, 1, .inl (1, 0), false), (5, .iaload, 1, .inr (.inr 0), false), (6, .iconst 2, 1, .inr (.inr 0), false), (7, .if_icmp .ne 7, 3, .inl (14, 0), false), (10, .iconst 0, 1, .inr (.inr 0), false), (11, .goto 8, 3, .inl (19, 0), false), (14, .aload_n 0, 1, .inl (0, 0), false), (15, .iload_n 1, 1, .inl (1, 0), false), (16, .invokevirtual 87, 3, .inr (.inl (5, 1, mq_Mo_rowsOf)), false), (19, .ireturn, 1, .inr (.inr 0), false)]
theorem tk_Mo_placesOf : sc_ok mq_Mo_placesOf tb_Mo_placesOf = true := by decide +kernel
theorem lk_Mo_placesOf_0 : sc_lk tb_Mo_placesOf 0 = some (.aload_n 0, 1, .inl (0, 0), false) := rfl
theorem lk_Mo_placesOf_1 : sc_lk tb_Mo_placesOf 1 = some (.getfield 17, 3, .inl (5, 6), false) := rfl
theorem lk_Mo_placesOf_4 : sc_lk tb_Mo_placesOf 4 = some (.iload_n 1, 1, .inl (1, 0), false) := rfl
theorem lk_Mo_placesOf_5 : sc_lk tb_Mo_placesOf 5 = some (.iaload, 1, .inr (.inr 0), false) := rfl
theorem lk_Mo_placesOf_6 : sc_lk tb_Mo_placesOf 6 = some (.iconst 2, 1, .inr (.inr 0), false) := rfl
theorem lk_Mo_placesOf_7 : sc_lk tb_Mo_placesOf 7 = some (.if_icmp .ne 7, 3, .inl (14, 0), false) := rfl
theorem lk_Mo_placesOf_10 : sc_lk tb_Mo_placesOf 10 = some (.iconst 0, 1, .inr (.inr 0), false) := rfl
theorem lk_Mo_placesOf_11 : sc_lk tb_Mo_placesOf 11 = some (.goto 8, 3, .inl (19, 0), false) := rfl
theorem lk_Mo_placesOf_14 : sc_lk tb_Mo_placesOf 14 = some (.aload_n 0, 1, .inl (0, 0), false) := rfl
theorem lk_Mo_placesOf_15 : sc_lk tb_Mo_placesOf 15 = some (.iload_n 1, 1, .inl (1, 0), false) := rfl
theorem lk_Mo_placesOf_16 : sc_lk tb_Mo_placesOf 16 = some (.invokevirtual 87, 3, .inr (.inl (5, 1, mq_Mo_rowsOf)), false) := rfl
theorem lk_Mo_placesOf_19 : sc_lk tb_Mo_placesOf 19 = some (.ireturn, 1, .inr (.inr 0), false) := rfl
def tb_Mo_mark : sc_T := [(0, .aload_n 0, 1, .inl (0, 0), false), (1, .iload_n 1, 1, .inl (1, 0), false), (2, .invokevirtual 99, 3, .inr (.inl (5, 1, mq_Mo_isNode)), false), (5, .ifCond .eq 12, 3, .inl (17, 0), false), (8, .iload_n 2, 1, .inl (2, 0), false), (9, .iconst 1, 1, .inr (.inr 0), false), (10, .iconst 3, 1, .inr (.inr 0), false), (11, .invokestatic 83, 3, .inr (.inl (100, 3, mq_Mo_in)), false), (14, .ifCond .ne 5, 3, .inl (19, 0), false), (17, .iconst (-1), 1, .inr (.inr 0), false), (18, .ireturn, 1, .inr (.inr 0), false), (19, .aload_n 0, 1, .inl (0, 0), false), (20, .iload_n 1, 1, .inl (1, 0), false), (21, .invokevirtual 117, 3, .inr (.inl (5, 1, mq_Mo_kindOf)), false), (24, .istore_n 3, 1, .inl (3, 0), false), (25, .iload_n 3, 1, .inl (3, 0), false), (26, .iload_n 2, 1, .inl (2, 0), false), (27, .if_icmp .eq 19, 3, .inl (46, 0), false), (30, .iload_n 2, 1, .inl (2, 0), false), (31, .iconst 2, 1, .inr (.inr 0), false), (32, .if_icmp .ne 8, 3, .inl (40, 0), false), (35, .iload_n 3, 1, .inl (3, 0), false), (36, .iconst 3, 1, .inr (.inr 0), false), (37, .if_icmp .eq 9, 3, .inl (46, 0), false), (40, .aload_n 0, 1, .inl (0, 0), false), (41, .iconst 3, 1, .inr (.inr 0), false), (42, .invokevirtual 103, 3, .inr (.inl (5, 1, mq_Mo_meets)), false), (45, .ireturn, 1, .inr (.inr 0), false), (46, .iconst 0, 1, .inr (.inr 0), false), (47, .istore 4, 2, .inl (4, 0), false), (49, .iconst 0, 1, .inr (.inr 0), false), (50, .istore 5, 2, .inl (5, 0), false), (52, .iload 5, 2, .inl (5, 0), true), (54, .aload_n 0, 1, .inl (0, 0), false), (55, .getfield 80, 3, .inl (5, 5), false), (58, .if_icmp .ge 82, 3, .inl (140, 0), false), (61, .iload_n 2, 1, .inl (2, 0), false), (62, .iconst 1, 1, .inr (.inr 0), false), (63, .if_icmp .ne 19, 3, .inl (82, 0), false), (66, .iload 4, 2, .inl (4, 0), false), (68, .aload_n 0, 1, .inl (0, 0), false), (69, .getfield 29, 3, .inl (5, 10), false), (72, .iload 5, 2, .inl (5, 0), false), (74, .iaload, 1, .inr (.inr 0), false), (75, .iload_n 1, 1, .inl (1, 0), false), (76, .ishr, 1, .inr (.inr 0), false), (77, .iconst 1, 1, .inr (.inr 0), false), (78, .iand, 1, .inr (.inr 0), false), (79, .iadd, 1, .inr (.inr 0), false), (80, .istore 4, 2, .inl (4, 0), false), (82, .iconst 0, 1, .inr (.inr 0), false), (83, .istore 6, 2, .inl (6, 0), false), (85, .iload 6, 2, .inl (6, 0), true), (87, .aload_n 0, 1, .inl (0, 0), false), (88, .getfield 23, 3, .inl (5, 8), false), (91, .iload 5, 2, .inl (5, 0), false), (93, .iaload, 1, .inr (.inr 0), false), (94, .if_icmp .ge 40, 3, .inl (134, 0), false), (97, .iload_n 2, 1, .inl (2, 0), false), (98, .iconst 2, 1, .inr (.inr 0), false), (99, .if_icmp .ne 35, 3, .inl (134, 0), false), (102, .iload 4, 2, .inl (4, 0), false), (104, .aload_n 0, 1, .inl (0, 0), false), (105, .getfield 26, 3, .inl (5, 9), false), (108, .iconst 3, 1, .inr (.inr 0), false), (109, .iload 5, 2, .inl (5, 0), false), (111, .imul, 1, .inr (.inr 0), false), (112, .iload 6, 2, .inl (6, 0), false), (114, .iadd, 1, .inr (.inr 0), false), (115, .iaload, 1, .inr (.inr 0), false), (116, .iload_n 1, 1, .inl (1, 0), false), (117, .if_icmp .ne 7, 3, .inl (124, 0), false), (120, .iconst 1, 1, .inr (.inr 0), false), (121, .goto 4, 3, .inl (125, 0), false), (124, .iconst 0, 1, .inr (.inr 0), false), (125, .iadd, 1, .inr (.inr 0), false), (126, .istore 4, 2, .inl (4, 0), false), (128, .iinc 6 1, 3, .inl (6, 0), false), (131, .goto (-46), 3, .inl (85, 0), false), (134, .iinc 5 1, 3, .inl (5, 0), false), (137, .goto (-85), 3, .inl (52, 0), false), (140, .iload_n 2, 1, .inl (2, 0), false), (141, .iconst 3, 1, .inr (.inr 0), false), (142, .if_icmp .ne 12, 3, .inl (154, 0), false), (145, .aload_n 0, 1, .inl (0, 0), false), (146, .getfield 32, 3, .inl (5, 11), false), (149, .iload_n 1, 1, .inl (1, 0), false), (150, .iaload, 1, .inr (.inr 0), false), (151, .goto 5, 3, .inl (156, 0), false), (154, .iload 4, 2, .inl (4, 0), false), (156, .ireturn, 1, .inr (.inr 0), false)]
theorem tk_Mo_mark : sc_ok mq_Mo_mark tb_Mo_mark = true := by decide +kernel
theorem lk_Mo_mark_0 : sc_lk tb_Mo_mark 0 = some (.aload_n 0, 1, .inl (0, 0), false) := rfl
theorem lk_Mo_mark_1 : sc_lk tb_Mo_mark 1 = some (.iload_n 1, 1, .inl (1, 0), false) := rfl
theorem lk_Mo_mark_2 : sc_lk tb_Mo_mark 2 = some (.invokevirtual 99, 3, .inr (.inl (5, 1, mq_Mo_isNode)), false) := rfl
theorem lk_Mo_mark_5 : sc_lk tb_Mo_mark 5 = some (.ifCond .eq 12, 3, .inl (17, 0), false) := rfl
theorem lk_Mo_mark_8 : sc_lk tb_Mo_mark 8 = some (.iload_n 2, 1, .inl (2, 0), false) := rfl
theorem lk_Mo_mark_9 : sc_lk tb_Mo_mark 9 = some (.iconst 1, 1, .inr (.inr 0), false) := rfl
theorem lk_Mo_mark_10 : sc_lk tb_Mo_mark 10 = some (.iconst 3, 1, .inr (.inr 0), false) := rfl
theorem lk_Mo_mark_11 : sc_lk tb_Mo_mark 11 = some (.invokestatic 83, 3, .inr (.inl (100, 3, mq_Mo_in)), false) := rfl
theorem lk_Mo_mark_14 : sc_lk tb_Mo_mark 14 = some (.ifCond .ne 5, 3, .inl (19, 0), false) := rfl
theorem lk_Mo_mark_17 : sc_lk tb_Mo_mark 17 = some (.iconst (-1), 1, .inr (.inr 0), false) := rfl
theorem lk_Mo_mark_18 : sc_lk tb_Mo_mark 18 = some (.ireturn, 1, .inr (.inr 0), false) := rfl
theorem lk_Mo_mark_19 : sc_lk tb_Mo_mark 19 = some (.aload_n 0, 1, .inl (0, 0), false) := rfl
theorem lk_Mo_mark_20 : sc_lk tb_Mo_mark 20 = some (.iload_n 1, 1, .inl (1, 0), false) := rfl
theorem lk_Mo_mark_21 : sc_lk tb_Mo_mark 21 = some (.invokevirtual 117, 3, .inr (.inl (5, 1, mq_Mo_kindOf)), false) := rfl
theorem lk_Mo_mark_24 : sc_lk tb_Mo_mark 24 = some (.istore_n 3, 1, .inl (3, 0), false) := rfl
theorem lk_Mo_mark_25 : sc_lk tb_Mo_mark 25 = some (.iload_n 3, 1, .inl (3, 0), false) := rfl
theorem lk_Mo_mark_26 : sc_lk tb_Mo_mark 26 = some (.iload_n 2, 1, .inl (2, 0), false) := rfl
theorem lk_Mo_mark_27 : sc_lk tb_Mo_mark 27 = some (.if_icmp .eq 19, 3, .inl (46, 0), false) := rfl
theorem lk_Mo_mark_30 : sc_lk tb_Mo_mark 30 = some (.iload_n 2, 1, .inl (2, 0), false) := rfl
theorem lk_Mo_mark_31 : sc_lk tb_Mo_mark 31 = some (.iconst 2, 1, .inr (.inr 0), false) := rfl
theorem lk_Mo_mark_32 : sc_lk tb_Mo_mark 32 = some (.if_icmp .ne 8, 3, .inl (40, 0), false) := rfl
theorem lk_Mo_mark_35 : sc_lk tb_Mo_mark 35 = some (.iload_n 3, 1, .inl (3, 0), false) := rfl
theorem lk_Mo_mark_36 : sc_lk tb_Mo_mark 36 = some (.iconst 3, 1, .inr (.inr 0), false) := rfl
theorem lk_Mo_mark_37 : sc_lk tb_Mo_mark 37 = some (.if_icmp .eq 9, 3, .inl (46, 0), false) := rfl
theorem lk_Mo_mark_40 : sc_lk tb_Mo_mark 40 = some (.aload_n 0, 1, .inl (0, 0), false) := rfl
theorem lk_Mo_mark_41 : sc_lk tb_Mo_mark 41 = some (.iconst 3, 1, .inr (.inr 0), false) := rfl
theorem lk_Mo_mark_42 : sc_lk tb_Mo_mark 42 = some (.invokevirtual 103, 3, .inr (.inl (5, 1, mq_Mo_meets)), false) := rfl
theorem lk_Mo_mark_45 : sc_lk tb_Mo_mark 45 = some (.ireturn, 1, .inr (.inr 0), false) := rfl
theorem lk_Mo_mark_46 : sc_lk tb_Mo_mark 46 = some (.iconst 0, 1, .inr (.inr 0), false) := rfl
theorem lk_Mo_mark_47 : sc_lk tb_Mo_mark 47 = some (.istore 4, 2, .inl (4, 0), false) := rfl
theorem lk_Mo_mark_49 : sc_lk tb_Mo_mark 49 = some (.iconst 0, 1, .inr (.inr 0), false) := rfl
theorem lk_Mo_mark_50 : sc_lk tb_Mo_mark 50 = some (.istore 5, 2, .inl (5, 0), false) := rfl
theorem lk_Mo_mark_52 : sc_lk tb_Mo_mark 52 = some (.iload 5, 2, .inl (5, 0), true) := rfl
theorem lk_Mo_mark_54 : sc_lk tb_Mo_mark 54 = some (.aload_n 0, 1, .inl (0, 0), false) := rfl
theorem lk_Mo_mark_55 : sc_lk tb_Mo_mark 55 = some (.getfield 80, 3, .inl (5, 5), false) := rfl
theorem lk_Mo_mark_58 : sc_lk tb_Mo_mark 58 = some (.if_icmp .ge 82, 3, .inl (140, 0), false) := rfl
theorem lk_Mo_mark_61 : sc_lk tb_Mo_mark 61 = some (.iload_n 2, 1, .inl (2, 0), false) := rfl
theorem lk_Mo_mark_62 : sc_lk tb_Mo_mark 62 = some (.iconst 1, 1, .inr (.inr 0), false) := rfl
theorem lk_Mo_mark_63 : sc_lk tb_Mo_mark 63 = some (.if_icmp .ne 19, 3, .inl (82, 0), false) := rfl
theorem lk_Mo_mark_66 : sc_lk tb_Mo_mark 66 = some (.iload 4, 2, .inl (4, 0), false) := rfl
theorem lk_Mo_mark_68 : sc_lk tb_Mo_mark 68 = some (.aload_n 0, 1, .inl (0, 0), false) := rfl
theorem lk_Mo_mark_69 : sc_lk tb_Mo_mark 69 = some (.getfield 29, 3, .inl (5, 10), false) := rfl
theorem lk_Mo_mark_72 : sc_lk tb_Mo_mark 72 = some (.iload 5, 2, .inl (5, 0), false) := rfl
theorem lk_Mo_mark_74 : sc_lk tb_Mo_mark 74 = some (.iaload, 1, .inr (.inr 0), false) := rfl
theorem lk_Mo_mark_75 : sc_lk tb_Mo_mark 75 = some (.iload_n 1, 1, .inl (1, 0), false) := rfl
theorem lk_Mo_mark_76 : sc_lk tb_Mo_mark 76 = some (.ishr, 1, .inr (.inr 0), false) := rfl
theorem lk_Mo_mark_77 : sc_lk tb_Mo_mark 77 = some (.iconst 1, 1, .inr (.inr 0), false) := rfl
theorem lk_Mo_mark_78 : sc_lk tb_Mo_mark 78 = some (.iand, 1, .inr (.inr 0), false) := rfl
theorem lk_Mo_mark_79 : sc_lk tb_Mo_mark 79 = some (.iadd, 1, .inr (.inr 0), false) := rfl
theorem lk_Mo_mark_80 : sc_lk tb_Mo_mark 80 = some (.istore 4, 2, .inl (4, 0), false) := rfl
theorem lk_Mo_mark_82 : sc_lk tb_Mo_mark 82 = some (.iconst 0, 1, .inr (.inr 0), false) := rfl
theorem lk_Mo_mark_83 : sc_lk tb_Mo_mark 83 = some (.istore 6, 2, .inl (6, 0), false) := rfl
theorem lk_Mo_mark_85 : sc_lk tb_Mo_mark 85 = some (.iload 6, 2, .inl (6, 0), true) := rfl
theorem lk_Mo_mark_87 : sc_lk tb_Mo_mark 87 = some (.aload_n 0, 1, .inl (0, 0), false) := rfl
theorem lk_Mo_mark_88 : sc_lk tb_Mo_mark 88 = some (.getfield 23, 3, .inl (5, 8), false) := rfl
theorem lk_Mo_mark_91 : sc_lk tb_Mo_mark 91 = some (.iload 5, 2, .inl (5, 0), false) := rfl
theorem lk_Mo_mark_93 : sc_lk tb_Mo_mark 93 = some (.iaload, 1, .inr (.inr 0), false) := rfl
theorem lk_Mo_mark_94 : sc_lk tb_Mo_mark 94 = some (.if_icmp .ge 40, 3, .inl (134, 0), false) := rfl
theorem lk_Mo_mark_97 : sc_lk tb_Mo_mark 97 = some (.iload_n 2, 1, .inl (2, 0), false) := rfl
theorem lk_Mo_mark_98 : sc_lk tb_Mo_mark 98 = some (.iconst 2, 1, .inr (.inr 0), false) := rfl
theorem lk_Mo_mark_99 : sc_lk tb_Mo_mark 99 = some (.if_icmp .ne 35, 3, .inl (134, 0), false) := rfl
theorem lk_Mo_mark_102 : sc_lk tb_Mo_mark 102 = some (.iload 4, 2, .inl (4, 0), false) := rfl
theorem lk_Mo_mark_104 : sc_lk tb_Mo_mark 104 = some (.aload_n 0, 1, .inl (0, 0), false) := rfl
theorem lk_Mo_mark_105 : sc_lk tb_Mo_mark 105 = some (.getfield 26, 3, .inl (5, 9), false) := rfl
theorem lk_Mo_mark_108 : sc_lk tb_Mo_mark 108 = some (.iconst 3, 1, .inr (.inr 0), false) := rfl
theorem lk_Mo_mark_109 : sc_lk tb_Mo_mark 109 = some (.iload 5, 2, .inl (5, 0), false) := rfl
theorem lk_Mo_mark_111 : sc_lk tb_Mo_mark 111 = some (.imul, 1, .inr (.inr 0), false) := rfl
theorem lk_Mo_mark_112 : sc_lk tb_Mo_mark 112 = some (.iload 6, 2, .inl (6, 0), false) := rfl
theorem lk_Mo_mark_114 : sc_lk tb_Mo_mark 114 = some (.iadd, 1, .inr (.inr 0), false) := rfl
theorem lk_Mo_mark_115 : sc_lk tb_Mo_mark 115 = some (.iaload, 1, .inr (.inr 0), false) := rfl
theorem lk_Mo_mark_116 : sc_lk tb_Mo_mark 116 = some (.iload_n 1, 1, .inl (1, 0), false) := rfl
theorem lk_Mo_mark_117 : sc_lk tb_Mo_mark 117 = some (.if_icmp .ne 7, 3, .inl (124, 0), false) := rfl
theorem lk_Mo_mark_120 : sc_lk tb_Mo_mark 120 = some (.iconst 1, 1, .inr (.inr 0), false) := rfl
theorem lk_Mo_mark_121 : sc_lk tb_Mo_mark 121 = some (.goto 4, 3, .inl (125, 0), false) := rfl
theorem lk_Mo_mark_124 : sc_lk tb_Mo_mark 124 = some (.iconst 0, 1, .inr (.inr 0), false) := rfl
theorem lk_Mo_mark_125 : sc_lk tb_Mo_mark 125 = some (.iadd, 1, .inr (.inr 0), false) := rfl
theorem lk_Mo_mark_126 : sc_lk tb_Mo_mark 126 = some (.istore 4, 2, .inl (4, 0), false) := rfl
theorem lk_Mo_mark_128 : sc_lk tb_Mo_mark 128 = some (.iinc 6 1, 3, .inl (6, 0), false) := rfl
theorem lk_Mo_mark_131 : sc_lk tb_Mo_mark 131 = some (.goto (-46), 3, .inl (85, 0), false) := rfl
theorem lk_Mo_mark_134 : sc_lk tb_Mo_mark 134 = some (.iinc 5 1, 3, .inl (5, 0), false) := rfl
theorem lk_Mo_mark_137 : sc_lk tb_Mo_mark 137 = some (.goto (-85), 3, .inl (52, 0), false) := rfl
theorem lk_Mo_mark_140 : sc_lk tb_Mo_mark 140 = some (.iload_n 2, 1, .inl (2, 0), false) := rfl
theorem lk_Mo_mark_141 : sc_lk tb_Mo_mark 141 = some (.iconst 3, 1, .inr (.inr 0), false) := rfl
theorem lk_Mo_mark_142 : sc_lk tb_Mo_mark 142 = some (.if_icmp .ne 12, 3, .inl (154, 0), false) := rfl
theorem lk_Mo_mark_145 : sc_lk tb_Mo_mark 145 = some (.aload_n 0, 1, .inl (0, 0), false) := rfl
theorem lk_Mo_mark_146 : sc_lk tb_Mo_mark 146 = some (.getfield 32, 3, .inl (5, 11), false) := rfl
theorem lk_Mo_mark_149 : sc_lk tb_Mo_mark 149 = some (.iload_n 1, 1, .inl (1, 0), false) := rfl
theorem lk_Mo_mark_150 : sc_lk tb_Mo_mark 150 = some (.iaload, 1, .inr (.inr 0), false) := rfl
theorem lk_Mo_mark_151 : sc_lk tb_Mo_mark 151 = some (.goto 5, 3, .inl (156, 0), false) := rfl
theorem lk_Mo_mark_154 : sc_lk tb_Mo_mark 154 = some (.iload 4, 2, .inl (4, 0), false) := rfl
theorem lk_Mo_mark_156 : sc_lk tb_Mo_mark 156 = some (.ireturn, 1, .inr (.inr 0), false) := rfl
def tb_Mo_mean : sc_T := [(0, .aload_n 0, 1, .inl (0, 0), false), (1, .iload_n 1, 1, .inl (1, 0), false), (2, .invokevirtual 99, 3, .inr (.inl (5, 1, mq_Mo_isNode)), false), (5, .ifCond .ne 5, 3, .inl (10, 0), false), (8, .iconst (-1), 1, .inr (.inr 0), false), (9, .ireturn, 1, .inr (.inr 0), false), (10, .aload_n 0, 1, .inl (0, 0), false), (11, .getfield 17, 3, .inl (5, 6), false), (14, .iload_n 1, 1, .inl (1, 0), false), (15, .iaload, 1, .inr (.inr 0), false), (16, .ifCond .eq 9, 3, .inl (25, 0), false), (19, .aload_n 0, 1, .inl (0, 0), false), (20, .iconst 3, 1, .inr (.inr 0), false), (21, .invokevirtual 103, 3, .inr (.inl (5, 1, mq_Mo_meets)), false), (24, .ireturn, 1, .inr (.inr 0), false), (25, .iconst 0, 1, .inr (.inr 0), false), (26, .istore_n 2, 1, .inl (2, 0), false), (27, .iconst 0, 1, .inr (.inr 0), false), (28, .istore_n 3, 1, .inl (3, 0), false), (29, .iload_n 3, 1, .inl (3, 0), true), (30, .aload_n 0, 1, .inl (0, 0), false), (31, .iload_n 1, 1, .inl (1, 0), false), (32, .invokevirtual 87, 3, .inr (.inl (5, 1, mq_Mo_rowsOf)), false), (35, .if_icmp .ge 23, 3, .inl (58, 0), false), (38, .iload_n 2, 1, .inl (2, 0), false), (39, .aload_n 0, 1, .inl (0, 0), false), (40, .getfield 35, 3, .inl (5, 12), false), (43, .bipush 27, 2, .inr (.inr 0), false), (45, .iload_n 1, 1, .inl (1, 0), false), (46, .imul, 1, .inr (.inr 0), false), (47, .iload_n 3, 1, .inl (3, 0), false), (48, .iadd, 1, .inr (.inr 0), false), (49, .iaload, 1, .inr (.inr 0), false), (50, .iadd, 1, .inr (.inr 0), false), (51, .istore_n 2, 1, .inl (2, 0), false), (52, .iinc 3 1, 3, .inl (3, 0), false), (55, .goto (-26), 3, .inl (29, 0), false), (58, .aload_n 0, 1, .inl (0, 0), false), (59, .iload_n 2, 1, .inl (2, 0), false), (60, .aload_n 0, 1, .inl (0, 0), false), (61, .iload_n 1, 1, .inl (1, 0), false), (62, .invokevirtual 87, 3, .inr (.inl (5, 1, mq_Mo_rowsOf)), false), (65, .idiv, 1, .inr (.inr 0), false), (66, .invokevirtual 126, 3, .inr (.inl (5, 1, mq_Mo_ask)), false), (69, .ireturn, 1, .inr (.inr 0), false)]
theorem tk_Mo_mean : sc_ok mq_Mo_mean tb_Mo_mean = true := by decide +kernel
theorem lk_Mo_mean_0 : sc_lk tb_Mo_mean 0 = some (.aload_n 0, 1, .inl (0, 0), false) := rfl
theorem lk_Mo_mean_1 : sc_lk tb_Mo_mean 1 = some (.iload_n 1, 1, .inl (1, 0), false) := rfl
theorem lk_Mo_mean_2 : sc_lk tb_Mo_mean 2 = some (.invokevirtual 99, 3, .inr (.inl (5, 1, mq_Mo_isNode)), false) := rfl
theorem lk_Mo_mean_5 : sc_lk tb_Mo_mean 5 = some (.ifCond .ne 5, 3, .inl (10, 0), false) := rfl
theorem lk_Mo_mean_8 : sc_lk tb_Mo_mean 8 = some (.iconst (-1), 1, .inr (.inr 0), false) := rfl
theorem lk_Mo_mean_9 : sc_lk tb_Mo_mean 9 = some (.ireturn, 1, .inr (.inr 0), false) := rfl
theorem lk_Mo_mean_10 : sc_lk tb_Mo_mean 10 = some (.aload_n 0, 1, .inl (0, 0), false) := rfl
theorem lk_Mo_mean_11 : sc_lk tb_Mo_mean 11 = some (.getfield 17, 3, .inl (5, 6), false) := rfl
theorem lk_Mo_mean_14 : sc_lk tb_Mo_mean 14 = some (.iload_n 1, 1, .inl (1, 0), false) := rfl
theorem lk_Mo_mean_15 : sc_lk tb_Mo_mean 15 = some (.iaload, 1, .inr (.inr 0), false) := rfl
theorem lk_Mo_mean_16 : sc_lk tb_Mo_mean 16 = some (.ifCond .eq 9, 3, .inl (25, 0), false) := rfl
theorem lk_Mo_mean_19 : sc_lk tb_Mo_mean 19 = some (.aload_n 0, 1, .inl (0, 0), false) := rfl
theorem lk_Mo_mean_20 : sc_lk tb_Mo_mean 20 = some (.iconst 3, 1, .inr (.inr 0), false) := rfl
theorem lk_Mo_mean_21 : sc_lk tb_Mo_mean 21 = some (.invokevirtual 103, 3, .inr (.inl (5, 1, mq_Mo_meets)), false) := rfl
theorem lk_Mo_mean_24 : sc_lk tb_Mo_mean 24 = some (.ireturn, 1, .inr (.inr 0), false) := rfl
theorem lk_Mo_mean_25 : sc_lk tb_Mo_mean 25 = some (.iconst 0, 1, .inr (.inr 0), false) := rfl
theorem lk_Mo_mean_26 : sc_lk tb_Mo_mean 26 = some (.istore_n 2, 1, .inl (2, 0), false) := rfl
theorem lk_Mo_mean_27 : sc_lk tb_Mo_mean 27 = some (.iconst 0, 1, .inr (.inr 0), false) := rfl
theorem lk_Mo_mean_28 : sc_lk tb_Mo_mean 28 = some (.istore_n 3, 1, .inl (3, 0), false) := rfl
theorem lk_Mo_mean_29 : sc_lk tb_Mo_mean 29 = some (.iload_n 3, 1, .inl (3, 0), true) := rfl
theorem lk_Mo_mean_30 : sc_lk tb_Mo_mean 30 = some (.aload_n 0, 1, .inl (0, 0), false) := rfl
theorem lk_Mo_mean_31 : sc_lk tb_Mo_mean 31 = some (.iload_n 1, 1, .inl (1, 0), false) := rfl
theorem lk_Mo_mean_32 : sc_lk tb_Mo_mean 32 = some (.invokevirtual 87, 3, .inr (.inl (5, 1, mq_Mo_rowsOf)), false) := rfl
theorem lk_Mo_mean_35 : sc_lk tb_Mo_mean 35 = some (.if_icmp .ge 23, 3, .inl (58, 0), false) := rfl
theorem lk_Mo_mean_38 : sc_lk tb_Mo_mean 38 = some (.iload_n 2, 1, .inl (2, 0), false) := rfl
theorem lk_Mo_mean_39 : sc_lk tb_Mo_mean 39 = some (.aload_n 0, 1, .inl (0, 0), false) := rfl
theorem lk_Mo_mean_40 : sc_lk tb_Mo_mean 40 = some (.getfield 35, 3, .inl (5, 12), false) := rfl
theorem lk_Mo_mean_43 : sc_lk tb_Mo_mean 43 = some (.bipush 27, 2, .inr (.inr 0), false) := rfl
theorem lk_Mo_mean_45 : sc_lk tb_Mo_mean 45 = some (.iload_n 1, 1, .inl (1, 0), false) := rfl
theorem lk_Mo_mean_46 : sc_lk tb_Mo_mean 46 = some (.imul, 1, .inr (.inr 0), false) := rfl
theorem lk_Mo_mean_47 : sc_lk tb_Mo_mean 47 = some (.iload_n 3, 1, .inl (3, 0), false) := rfl
theorem lk_Mo_mean_48 : sc_lk tb_Mo_mean 48 = some (.iadd, 1, .inr (.inr 0), false) := rfl
theorem lk_Mo_mean_49 : sc_lk tb_Mo_mean 49 = some (.iaload, 1, .inr (.inr 0), false) := rfl
theorem lk_Mo_mean_50 : sc_lk tb_Mo_mean 50 = some (.iadd, 1, .inr (.inr 0), false) := rfl
theorem lk_Mo_mean_51 : sc_lk tb_Mo_mean 51 = some (.istore_n 2, 1, .inl (2, 0), false) := rfl
theorem lk_Mo_mean_52 : sc_lk tb_Mo_mean 52 = some (.iinc 3 1, 3, .inl (3, 0), false) := rfl
theorem lk_Mo_mean_55 : sc_lk tb_Mo_mean 55 = some (.goto (-26), 3, .inl (29, 0), false) := rfl
theorem lk_Mo_mean_58 : sc_lk tb_Mo_mean 58 = some (.aload_n 0, 1, .inl (0, 0), false) := rfl
theorem lk_Mo_mean_59 : sc_lk tb_Mo_mean 59 = some (.iload_n 2, 1, .inl (2, 0), false) := rfl
theorem lk_Mo_mean_60 : sc_lk tb_Mo_mean 60 = some (.aload_n 0, 1, .inl (0, 0), false) := rfl
theorem lk_Mo_mean_61 : sc_lk tb_Mo_mean 61 = some (.iload_n 1, 1, .inl (1, 0), false) := rfl
theorem lk_Mo_mean_62 : sc_lk tb_Mo_mean 62 = some (.invokevirtual 87, 3, .inr (.inl (5, 1, mq_Mo_rowsOf)), false) := rfl
theorem lk_Mo_mean_65 : sc_lk tb_Mo_mean 65 = some (.idiv, 1, .inr (.inr 0), false) := rfl
theorem lk_Mo_mean_66 : sc_lk tb_Mo_mean 66 = some (.invokevirtual 126, 3, .inr (.inl (5, 1, mq_Mo_ask)), false) := rfl
theorem lk_Mo_mean_69 : sc_lk tb_Mo_mean 69 = some (.ireturn, 1, .inr (.inr 0), false) := rfl
def tb_Mo_ask : sc_T := [(0, .aload_n 0, 1, .inl (0, 0), false), (1, .iload_n 1, 1, .inl (1, 0), false), (2, .putfield 74, 3, .inl (5, 2), false), (5, .iconst 1, 1, .inr (.inr 0), false), (6, .ireturn, 1, .inr (.inr 0), false)]
theorem tk_Mo_ask : sc_ok mq_Mo_ask tb_Mo_ask = true := by decide +kernel
theorem lk_Mo_ask_0 : sc_lk tb_Mo_ask 0 = some (.aload_n 0, 1, .inl (0, 0), false) := rfl
theorem lk_Mo_ask_1 : sc_lk tb_Mo_ask 1 = some (.iload_n 1, 1, .inl (1, 0), false) := rfl
theorem lk_Mo_ask_2 : sc_lk tb_Mo_ask 2 = some (.putfield 74, 3, .inl (5, 2), false) := rfl
theorem lk_Mo_ask_5 : sc_lk tb_Mo_ask 5 = some (.iconst 1, 1, .inr (.inr 0), false) := rfl
theorem lk_Mo_ask_6 : sc_lk tb_Mo_ask 6 = some (.ireturn, 1, .inr (.inr 0), false) := rfl
def tb_Mo_meanSights : sc_T := [(0, .iconst 0, 1, .inr (.inr 0), false), (1, .istore_n 1, 1, .inl (1, 0), false), (2, .iconst 0, 1, .inr (.inr 0), false), (3, .istore_n 2, 1, .inl (2, 0), false), (4, .iconst 0, 1, .inr (.inr 0), false), (5, .istore_n 3, 1, .inl (3, 0), false), (6, .iload_n 3, 1, .inl (3, 0), true), (7, .aload_n 0, 1, .inl (0, 0), false), (8, .getfield 80, 3, .inl (5, 5), false), (11, .if_icmp .ge 39, 3, .inl (50, 0), false), (14, .iload_n 1, 1, .inl (1, 0), false), (15, .aload_n 0, 1, .inl (0, 0), false), (16, .getfield 17, 3, .inl (5, 6), false), (19, .iload_n 3, 1, .inl (3, 0), false), (20, .iaload, 1, .inr (.inr 0), false), (21, .iconst 2, 1, .inr (.inr 0), false), (22, .if_icmp .ne 7, 3, .inl (29, 0), false), (25, .iconst 1, 1, .inr (.inr 0), false), (26, .goto 4, 3, .inl (30, 0), false), (29, .iconst 0, 1, .inr (.inr 0), false), (30, .iadd, 1, .inr (.inr 0), false), (31, .istore_n 1, 1, .inl (1, 0), false), (32, .iload_n 2, 1, .inl (2, 0), false), (33, .aload_n 0, 1, .inl (0, 0), false), (34, .getfield 29, 3, .inl (5, 10), false), (37, .iload_n 3, 1, .inl (3, 0), false), (38, .iaload, 1, .inr (.inr 0), false), (39, .invokestatic 110, 3, .inr (.inl (100, 1, mq_Mo_bits)), false), (42, .iadd, 1, .inr (.inr 0), false), (43, .istore_n 2, 1, .inl (2, 0), false), (44, .iinc 3 1, 3, .inl (3, 0), false), (47, .goto (-41), 3, .inl (6, 0), false), (50, .iload_n 1, 1, .inl (1, 0), false), (51, .ifCond .ne 11, 3, .inl (62, 0), false), (54, .aload_n 0, 1, .inl (0, 0), false), (55, .iconst 4, 1, .inr (.inr 0), false), (56, .invokevirtual 103, 3, .inr (.inl (5, 1, mq_Mo_meets)), false), (59, .goto 6, 3, .inl (65, 0), false), (62, .iload_n 2, 1, .inl (2, 0), false), (63, .iload_n 1, 1, .inl (1, 0), false), (64, .idiv, 1, .inr (.inr 0), false), (65, .ireturn, 1, .inr (.inr 0), false)]
theorem tk_Mo_meanSights : sc_ok mq_Mo_meanSights tb_Mo_meanSights = true := by decide +kernel
theorem lk_Mo_meanSights_0 : sc_lk tb_Mo_meanSights 0 = some (.iconst 0, 1, .inr (.inr 0), false) := rfl
theorem lk_Mo_meanSights_1 : sc_lk tb_Mo_meanSights 1 = some (.istore_n 1, 1, .inl (1, 0), false) := rfl
theorem lk_Mo_meanSights_2 : sc_lk tb_Mo_meanSights 2 = some (.iconst 0, 1, .inr (.inr 0), false) := rfl
theorem lk_Mo_meanSights_3 : sc_lk tb_Mo_meanSights 3 = some (.istore_n 2, 1, .inl (2, 0), false) := rfl
theorem lk_Mo_meanSights_4 : sc_lk tb_Mo_meanSights 4 = some (.iconst 0, 1, .inr (.inr 0), false) := rfl
theorem lk_Mo_meanSights_5 : sc_lk tb_Mo_meanSights 5 = some (.istore_n 3, 1, .inl (3, 0), false) := rfl
theorem lk_Mo_meanSights_6 : sc_lk tb_Mo_meanSights 6 = some (.iload_n 3, 1, .inl (3, 0), true) := rfl
theorem lk_Mo_meanSights_7 : sc_lk tb_Mo_meanSights 7 = some (.aload_n 0, 1, .inl (0, 0), false) := rfl
theorem lk_Mo_meanSights_8 : sc_lk tb_Mo_meanSights 8 = some (.getfield 80, 3, .inl (5, 5), false) := rfl
theorem lk_Mo_meanSights_11 : sc_lk tb_Mo_meanSights 11 = some (.if_icmp .ge 39, 3, .inl (50, 0), false) := rfl
theorem lk_Mo_meanSights_14 : sc_lk tb_Mo_meanSights 14 = some (.iload_n 1, 1, .inl (1, 0), false) := rfl
theorem lk_Mo_meanSights_15 : sc_lk tb_Mo_meanSights 15 = some (.aload_n 0, 1, .inl (0, 0), false) := rfl
theorem lk_Mo_meanSights_16 : sc_lk tb_Mo_meanSights 16 = some (.getfield 17, 3, .inl (5, 6), false) := rfl
theorem lk_Mo_meanSights_19 : sc_lk tb_Mo_meanSights 19 = some (.iload_n 3, 1, .inl (3, 0), false) := rfl
theorem lk_Mo_meanSights_20 : sc_lk tb_Mo_meanSights 20 = some (.iaload, 1, .inr (.inr 0), false) := rfl
theorem lk_Mo_meanSights_21 : sc_lk tb_Mo_meanSights 21 = some (.iconst 2, 1, .inr (.inr 0), false) := rfl
theorem lk_Mo_meanSights_22 : sc_lk tb_Mo_meanSights 22 = some (.if_icmp .ne 7, 3, .inl (29, 0), false) := rfl
theorem lk_Mo_meanSights_25 : sc_lk tb_Mo_meanSights 25 = some (.iconst 1, 1, .inr (.inr 0), false) := rfl
theorem lk_Mo_meanSights_26 : sc_lk tb_Mo_meanSights 26 = some (.goto 4, 3, .inl (30, 0), false) := rfl
theorem lk_Mo_meanSights_29 : sc_lk tb_Mo_meanSights 29 = some (.iconst 0, 1, .inr (.inr 0), false) := rfl
theorem lk_Mo_meanSights_30 : sc_lk tb_Mo_meanSights 30 = some (.iadd, 1, .inr (.inr 0), false) := rfl
theorem lk_Mo_meanSights_31 : sc_lk tb_Mo_meanSights 31 = some (.istore_n 1, 1, .inl (1, 0), false) := rfl
theorem lk_Mo_meanSights_32 : sc_lk tb_Mo_meanSights 32 = some (.iload_n 2, 1, .inl (2, 0), false) := rfl
theorem lk_Mo_meanSights_33 : sc_lk tb_Mo_meanSights 33 = some (.aload_n 0, 1, .inl (0, 0), false) := rfl
theorem lk_Mo_meanSights_34 : sc_lk tb_Mo_meanSights 34 = some (.getfield 29, 3, .inl (5, 10), false) := rfl
theorem lk_Mo_meanSights_37 : sc_lk tb_Mo_meanSights 37 = some (.iload_n 3, 1, .inl (3, 0), false) := rfl
theorem lk_Mo_meanSights_38 : sc_lk tb_Mo_meanSights 38 = some (.iaload, 1, .inr (.inr 0), false) := rfl
theorem lk_Mo_meanSights_39 : sc_lk tb_Mo_meanSights 39 = some (.invokestatic 110, 3, .inr (.inl (100, 1, mq_Mo_bits)), false) := rfl
theorem lk_Mo_meanSights_42 : sc_lk tb_Mo_meanSights 42 = some (.iadd, 1, .inr (.inr 0), false) := rfl
theorem lk_Mo_meanSights_43 : sc_lk tb_Mo_meanSights 43 = some (.istore_n 2, 1, .inl (2, 0), false) := rfl
theorem lk_Mo_meanSights_44 : sc_lk tb_Mo_meanSights 44 = some (.iinc 3 1, 3, .inl (3, 0), false) := rfl
theorem lk_Mo_meanSights_47 : sc_lk tb_Mo_meanSights 47 = some (.goto (-41), 3, .inl (6, 0), false) := rfl
theorem lk_Mo_meanSights_50 : sc_lk tb_Mo_meanSights 50 = some (.iload_n 1, 1, .inl (1, 0), false) := rfl
theorem lk_Mo_meanSights_51 : sc_lk tb_Mo_meanSights 51 = some (.ifCond .ne 11, 3, .inl (62, 0), false) := rfl
theorem lk_Mo_meanSights_54 : sc_lk tb_Mo_meanSights 54 = some (.aload_n 0, 1, .inl (0, 0), false) := rfl
theorem lk_Mo_meanSights_55 : sc_lk tb_Mo_meanSights 55 = some (.iconst 4, 1, .inr (.inr 0), false) := rfl
theorem lk_Mo_meanSights_56 : sc_lk tb_Mo_meanSights 56 = some (.invokevirtual 103, 3, .inr (.inl (5, 1, mq_Mo_meets)), false) := rfl
theorem lk_Mo_meanSights_59 : sc_lk tb_Mo_meanSights 59 = some (.goto 6, 3, .inl (65, 0), false) := rfl
theorem lk_Mo_meanSights_62 : sc_lk tb_Mo_meanSights 62 = some (.iload_n 2, 1, .inl (2, 0), false) := rfl
theorem lk_Mo_meanSights_63 : sc_lk tb_Mo_meanSights 63 = some (.iload_n 1, 1, .inl (1, 0), false) := rfl
theorem lk_Mo_meanSights_64 : sc_lk tb_Mo_meanSights 64 = some (.idiv, 1, .inr (.inr 0), false) := rfl
theorem lk_Mo_meanSights_65 : sc_lk tb_Mo_meanSights 65 = some (.ireturn, 1, .inr (.inr 0), false) := rfl
def tb_Mo_best : sc_T := [(0, .aload_n 0, 1, .inl (0, 0), false), (1, .aload_n 0, 1, .inl (0, 0), false), (2, .invokevirtual 172, 3, .inr (.inl (5, 0, mq_Mo_bestSum)), false), (5, .aload_n 0, 1, .inl (0, 0), false), (6, .invokevirtual 175, 3, .inr (.inl (5, 0, mq_Mo_allWeights)), false), (9, .invokevirtual 178, 3, .inr (.inl (5, 2, mq_Mo_tell)), false), (12, .ireturn, 1, .inr (.inr 0), false)]
theorem tk_Mo_best : sc_ok mq_Mo_best tb_Mo_best = true := by decide +kernel
theorem lk_Mo_best_0 : sc_lk tb_Mo_best 0 = some (.aload_n 0, 1, .inl (0, 0), false) := rfl
theorem lk_Mo_best_1 : sc_lk tb_Mo_best 1 = some (.aload_n 0, 1, .inl (0, 0), false) := rfl
theorem lk_Mo_best_2 : sc_lk tb_Mo_best 2 = some (.invokevirtual 172, 3, .inr (.inl (5, 0, mq_Mo_bestSum)), false) := rfl
theorem lk_Mo_best_5 : sc_lk tb_Mo_best 5 = some (.aload_n 0, 1, .inl (0, 0), false) := rfl
theorem lk_Mo_best_6 : sc_lk tb_Mo_best 6 = some (.invokevirtual 175, 3, .inr (.inl (5, 0, mq_Mo_allWeights)), false) := rfl
theorem lk_Mo_best_9 : sc_lk tb_Mo_best 9 = some (.invokevirtual 178, 3, .inr (.inl (5, 2, mq_Mo_tell)), false) := rfl
theorem lk_Mo_best_12 : sc_lk tb_Mo_best 12 = some (.ireturn, 1, .inr (.inr 0), false) := rfl
def tb_Mo_bestSum : sc_T := [(0, .aload_n 0, 1, .inl (0, 0), false), (1, .invokevirtual 166, 3, .inr (.inl (5, 0, mq_Mo_setPlan)), false), (4, .aload_n 0, 1, .inl (0, 0), false), (5, .invokevirtual 169, 3, .inr (.inl (5, 0, mq_Mo_sumOfPlan)), false), (8, .lreturn, 1, .inr (.inr 0), false)]
theorem tk_Mo_bestSum : sc_ok mq_Mo_bestSum tb_Mo_bestSum = true := by decide +kernel
theorem lk_Mo_bestSum_0 : sc_lk tb_Mo_bestSum 0 = some (.aload_n 0, 1, .inl (0, 0), false) := rfl
theorem lk_Mo_bestSum_1 : sc_lk tb_Mo_bestSum 1 = some (.invokevirtual 166, 3, .inr (.inl (5, 0, mq_Mo_setPlan)), false) := rfl
theorem lk_Mo_bestSum_4 : sc_lk tb_Mo_bestSum 4 = some (.aload_n 0, 1, .inl (0, 0), false) := rfl
theorem lk_Mo_bestSum_5 : sc_lk tb_Mo_bestSum 5 = some (.invokevirtual 169, 3, .inr (.inl (5, 0, mq_Mo_sumOfPlan)), false) := rfl
theorem lk_Mo_bestSum_8 : sc_lk tb_Mo_bestSum 8 = some (.lreturn, 1, .inr (.inr 0), false) := rfl
def tb_Mo_setPlan : sc_T := [(0, .aload_n 0, 1, .inl (0, 0), false), (1, .getfield 80, 3, .inl (5, 5), false), (4, .iconst 1, 1, .inr (.inr 0), false), (5, .isub, 1, .inr (.inr 0), false), (6, .istore_n 1, 1, .inl (1, 0), false), (7, .iload_n 1, 1, .inl (1, 0), true), (8, .ifCond .lt 33, 3, .inl (41, 0), false), (11, .aload_n 0, 1, .inl (0, 0), false), (12, .iload_n 1, 1, .inl (1, 0), false), (13, .invokevirtual 137, 3, .inr (.inl (5, 1, mq_Mo_isChoice)), false), (16, .ifCond .eq 19, 3, .inl (35, 0), false), (19, .aload_n 0, 1, .inl (0, 0), false), (20, .getfield 56, 3, .inl (5, 18), false), (23, .iload_n 1, 1, .inl (1, 0), false), (24, .aload_n 0, 1, .inl (0, 0), false), (25, .iload_n 1, 1, .inl (1, 0), false), (26, .invokevirtual 156, 3, .inr (.inl (5, 1, mq_Mo_knownAt)), false), (29, .iastore, 1, .inr (.inr 0), false), (30, .aload_n 0, 1, .inl (0, 0), false), (31, .iload_n 1, 1, .inl (1, 0), false), (32, .invokevirtual 159, 3, .inr (.inl (5, 1, mq_Mo_planAt)), false), (35, .iinc 1 (-1), 3, .inl (1, 0), false), (38, .goto (-31), 3, .inl (7, 0), false), (41, .return_, 1, .inr (.inr 0), false)]
theorem tk_Mo_setPlan : sc_ok mq_Mo_setPlan tb_Mo_setPlan = true := by decide +kernel
theorem lk_Mo_setPlan_0 : sc_lk tb_Mo_setPlan 0 = some (.aload_n 0, 1, .inl (0, 0), false) := rfl
theorem lk_Mo_setPlan_1 : sc_lk tb_Mo_setPlan 1 = some (.getfield 80, 3, .inl (5, 5), false) := rfl
theorem lk_Mo_setPlan_4 : sc_lk tb_Mo_setPlan 4 = some (.iconst 1, 1, .inr (.inr 0), false) := rfl
theorem lk_Mo_setPlan_5 : sc_lk tb_Mo_setPlan 5 = some (.isub, 1, .inr (.inr 0), false) := rfl
theorem lk_Mo_setPlan_6 : sc_lk tb_Mo_setPlan 6 = some (.istore_n 1, 1, .inl (1, 0), false) := rfl
theorem lk_Mo_setPlan_7 : sc_lk tb_Mo_setPlan 7 = some (.iload_n 1, 1, .inl (1, 0), true) := rfl
theorem lk_Mo_setPlan_8 : sc_lk tb_Mo_setPlan 8 = some (.ifCond .lt 33, 3, .inl (41, 0), false) := rfl
theorem lk_Mo_setPlan_11 : sc_lk tb_Mo_setPlan 11 = some (.aload_n 0, 1, .inl (0, 0), false) := rfl
theorem lk_Mo_setPlan_12 : sc_lk tb_Mo_setPlan 12 = some (.iload_n 1, 1, .inl (1, 0), false) := rfl
theorem lk_Mo_setPlan_13 : sc_lk tb_Mo_setPlan 13 = some (.invokevirtual 137, 3, .inr (.inl (5, 1, mq_Mo_isChoice)), false) := rfl
theorem lk_Mo_setPlan_16 : sc_lk tb_Mo_setPlan 16 = some (.ifCond .eq 19, 3, .inl (35, 0), false) := rfl
theorem lk_Mo_setPlan_19 : sc_lk tb_Mo_setPlan 19 = some (.aload_n 0, 1, .inl (0, 0), false) := rfl
theorem lk_Mo_setPlan_20 : sc_lk tb_Mo_setPlan 20 = some (.getfield 56, 3, .inl (5, 18), false) := rfl
theorem lk_Mo_setPlan_23 : sc_lk tb_Mo_setPlan 23 = some (.iload_n 1, 1, .inl (1, 0), false) := rfl
theorem lk_Mo_setPlan_24 : sc_lk tb_Mo_setPlan 24 = some (.aload_n 0, 1, .inl (0, 0), false) := rfl
theorem lk_Mo_setPlan_25 : sc_lk tb_Mo_setPlan 25 = some (.iload_n 1, 1, .inl (1, 0), false) := rfl
theorem lk_Mo_setPlan_26 : sc_lk tb_Mo_setPlan 26 = some (.invokevirtual 156, 3, .inr (.inl (5, 1, mq_Mo_knownAt)), false) := rfl
theorem lk_Mo_setPlan_29 : sc_lk tb_Mo_setPlan 29 = some (.iastore, 1, .inr (.inr 0), false) := rfl
theorem lk_Mo_setPlan_30 : sc_lk tb_Mo_setPlan 30 = some (.aload_n 0, 1, .inl (0, 0), false) := rfl
theorem lk_Mo_setPlan_31 : sc_lk tb_Mo_setPlan 31 = some (.iload_n 1, 1, .inl (1, 0), false) := rfl
theorem lk_Mo_setPlan_32 : sc_lk tb_Mo_setPlan 32 = some (.invokevirtual 159, 3, .inr (.inl (5, 1, mq_Mo_planAt)), false) := rfl
theorem lk_Mo_setPlan_35 : sc_lk tb_Mo_setPlan 35 = some (.iinc 1 (-1), 3, .inl (1, 0), false) := rfl
theorem lk_Mo_setPlan_38 : sc_lk tb_Mo_setPlan 38 = some (.goto (-31), 3, .inl (7, 0), false) := rfl
theorem lk_Mo_setPlan_41 : sc_lk tb_Mo_setPlan 41 = some (.return_, 1, .inr (.inr 0), false) := rfl
def tb_Mo_isChoice : sc_T := [(0, .aload_n 0, 1, .inl (0, 0), false), (1, .getfield 17, 3, .inl (5, 6), false), (4, .iload_n 1, 1, .inl (1, 0), false), (5, .iaload, 1, .inr (.inr 0), false), (6, .iconst 2, 1, .inr (.inr 0), false), (7, .if_icmp .eq 11, 3, .inl (18, 0), false), (10, .iload_n 1, 1, .inl (1, 0), false), (11, .aload_n 0, 1, .inl (0, 0), false), (12, .getfield 38, 3, .inl (5, 13), false), (15, .if_icmp .ne 7, 3, .inl (22, 0), false), (18, .iconst 1, 1, .inr (.inr 0), false), (19, .goto 4, 3, .inl (23, 0), false), (22, .iconst 0, 1, .inr (.inr 0), false), (23, .ireturn, 1, .inr (.inr 0), false)]
theorem tk_Mo_isChoice : sc_ok mq_Mo_isChoice tb_Mo_isChoice = true := by decide +kernel
theorem lk_Mo_isChoice_0 : sc_lk tb_Mo_isChoice 0 = some (.aload_n 0, 1, .inl (0, 0), false) := rfl
theorem lk_Mo_isChoice_1 : sc_lk tb_Mo_isChoice 1 = some (.getfield 17, 3, .inl (5, 6), false) := rfl
theorem lk_Mo_isChoice_4 : sc_lk tb_Mo_isChoice 4 = some (.iload_n 1, 1, .inl (1, 0), false) := rfl
theorem lk_Mo_isChoice_5 : sc_lk tb_Mo_isChoice 5 = some (.iaload, 1, .inr (.inr 0), false) := rfl
theorem lk_Mo_isChoice_6 : sc_lk tb_Mo_isChoice 6 = some (.iconst 2, 1, .inr (.inr 0), false) := rfl
theorem lk_Mo_isChoice_7 : sc_lk tb_Mo_isChoice 7 = some (.if_icmp .eq 11, 3, .inl (18, 0), false) := rfl
theorem lk_Mo_isChoice_10 : sc_lk tb_Mo_isChoice 10 = some (.iload_n 1, 1, .inl (1, 0), false) := rfl
theorem lk_Mo_isChoice_11 : sc_lk tb_Mo_isChoice 11 = some (.aload_n 0, 1, .inl (0, 0), false) := rfl
theorem lk_Mo_isChoice_12 : sc_lk tb_Mo_isChoice 12 = some (.getfield 38, 3, .inl (5, 13), false) := rfl
theorem lk_Mo_isChoice_15 : sc_lk tb_Mo_isChoice 15 = some (.if_icmp .ne 7, 3, .inl (22, 0), false) := rfl
theorem lk_Mo_isChoice_18 : sc_lk tb_Mo_isChoice 18 = some (.iconst 1, 1, .inr (.inr 0), false) := rfl
theorem lk_Mo_isChoice_19 : sc_lk tb_Mo_isChoice 19 = some (.goto 4, 3, .inl (23, 0), false) := rfl
theorem lk_Mo_isChoice_22 : sc_lk tb_Mo_isChoice 22 = some (.iconst 0, 1, .inr (.inr 0), false) := rfl
theorem lk_Mo_isChoice_23 : sc_lk tb_Mo_isChoice 23 = some (.ireturn, 1, .inr (.inr 0), false) := rfl
def tb_Mo_knownAt : sc_T := [(0, .aload_n 0, 1, .inl (0, 0), false), (1, .iload_n 1, 1, .inl (1, 0), false), (2, .invokevirtual 134, 3, .inr (.inl (5, 1, mq_Mo_sightsOf)), false), (5, .istore_n 2, 1, .inl (2, 0), false), (6, .iconst 0, 1, .inr (.inr 0), false), (7, .istore_n 3, 1, .inl (3, 0), false), (8, .iload_n 3, 1, .inl (3, 0), true), (9, .iload_n 1, 1, .inl (1, 0), false), (10, .if_icmp .ge 33, 3, .inl (43, 0), false), (13, .iload_n 2, 1, .inl (2, 0), false), (14, .aload_n 0, 1, .inl (0, 0), false), (15, .iload_n 3, 1, .inl (3, 0), false), (16, .invokevirtual 137, 3, .inr (.inl (5, 1, mq_Mo_isChoice)), false), (19, .ifCond .eq 15, 3, .inl (34, 0), false), (22, .aload_n 0, 1, .inl (0, 0), false), (23, .iload_n 3, 1, .inl (3, 0), false), (24, .invokevirtual 134, 3, .inr (.inl (5, 1, mq_Mo_sightsOf)), false), (27, .iconst 1, 1, .inr (.inr 0), false), (28, .iload_n 3, 1, .inl (3, 0), false), (29, .ishl, 1, .inr (.inr 0), false), (30, .ior, 1, .inr (.inr 0), false), (31, .goto 4, 3, .inl (35, 0), false), (34, .iconst 0, 1, .inr (.inr 0), false), (35, .ior, 1, .inr (.inr 0), false), (36, .istore_n 2, 1, .inl (2, 0), false), (37, .iinc 3 1, 3, .inl (3, 0), false), (40, .goto (-32), 3, .inl (8, 0), false), (43, .iload_n 2, 1, .inl (2, 0), false), (44, .ireturn, 1, .inr (.inr 0), false)]
theorem tk_Mo_knownAt : sc_ok mq_Mo_knownAt tb_Mo_knownAt = true := by decide +kernel
theorem lk_Mo_knownAt_0 : sc_lk tb_Mo_knownAt 0 = some (.aload_n 0, 1, .inl (0, 0), false) := rfl
theorem lk_Mo_knownAt_1 : sc_lk tb_Mo_knownAt 1 = some (.iload_n 1, 1, .inl (1, 0), false) := rfl
theorem lk_Mo_knownAt_2 : sc_lk tb_Mo_knownAt 2 = some (.invokevirtual 134, 3, .inr (.inl (5, 1, mq_Mo_sightsOf)), false) := rfl
theorem lk_Mo_knownAt_5 : sc_lk tb_Mo_knownAt 5 = some (.istore_n 2, 1, .inl (2, 0), false) := rfl
theorem lk_Mo_knownAt_6 : sc_lk tb_Mo_knownAt 6 = some (.iconst 0, 1, .inr (.inr 0), false) := rfl
theorem lk_Mo_knownAt_7 : sc_lk tb_Mo_knownAt 7 = some (.istore_n 3, 1, .inl (3, 0), false) := rfl
theorem lk_Mo_knownAt_8 : sc_lk tb_Mo_knownAt 8 = some (.iload_n 3, 1, .inl (3, 0), true) := rfl
theorem lk_Mo_knownAt_9 : sc_lk tb_Mo_knownAt 9 = some (.iload_n 1, 1, .inl (1, 0), false) := rfl
theorem lk_Mo_knownAt_10 : sc_lk tb_Mo_knownAt 10 = some (.if_icmp .ge 33, 3, .inl (43, 0), false) := rfl
theorem lk_Mo_knownAt_13 : sc_lk tb_Mo_knownAt 13 = some (.iload_n 2, 1, .inl (2, 0), false) := rfl
theorem lk_Mo_knownAt_14 : sc_lk tb_Mo_knownAt 14 = some (.aload_n 0, 1, .inl (0, 0), false) := rfl
theorem lk_Mo_knownAt_15 : sc_lk tb_Mo_knownAt 15 = some (.iload_n 3, 1, .inl (3, 0), false) := rfl
theorem lk_Mo_knownAt_16 : sc_lk tb_Mo_knownAt 16 = some (.invokevirtual 137, 3, .inr (.inl (5, 1, mq_Mo_isChoice)), false) := rfl
theorem lk_Mo_knownAt_19 : sc_lk tb_Mo_knownAt 19 = some (.ifCond .eq 15, 3, .inl (34, 0), false) := rfl
theorem lk_Mo_knownAt_22 : sc_lk tb_Mo_knownAt 22 = some (.aload_n 0, 1, .inl (0, 0), false) := rfl
theorem lk_Mo_knownAt_23 : sc_lk tb_Mo_knownAt 23 = some (.iload_n 3, 1, .inl (3, 0), false) := rfl
theorem lk_Mo_knownAt_24 : sc_lk tb_Mo_knownAt 24 = some (.invokevirtual 134, 3, .inr (.inl (5, 1, mq_Mo_sightsOf)), false) := rfl
theorem lk_Mo_knownAt_27 : sc_lk tb_Mo_knownAt 27 = some (.iconst 1, 1, .inr (.inr 0), false) := rfl
theorem lk_Mo_knownAt_28 : sc_lk tb_Mo_knownAt 28 = some (.iload_n 3, 1, .inl (3, 0), false) := rfl
theorem lk_Mo_knownAt_29 : sc_lk tb_Mo_knownAt 29 = some (.ishl, 1, .inr (.inr 0), false) := rfl
theorem lk_Mo_knownAt_30 : sc_lk tb_Mo_knownAt 30 = some (.ior, 1, .inr (.inr 0), false) := rfl
theorem lk_Mo_knownAt_31 : sc_lk tb_Mo_knownAt 31 = some (.goto 4, 3, .inl (35, 0), false) := rfl
theorem lk_Mo_knownAt_34 : sc_lk tb_Mo_knownAt 34 = some (.iconst 0, 1, .inr (.inr 0), false) := rfl
theorem lk_Mo_knownAt_35 : sc_lk tb_Mo_knownAt 35 = some (.ior, 1, .inr (.inr 0), false) := rfl
theorem lk_Mo_knownAt_36 : sc_lk tb_Mo_knownAt 36 = some (.istore_n 2, 1, .inl (2, 0), false) := rfl
theorem lk_Mo_knownAt_37 : sc_lk tb_Mo_knownAt 37 = some (.iinc 3 1, 3, .inl (3, 0), false) := rfl
theorem lk_Mo_knownAt_40 : sc_lk tb_Mo_knownAt 40 = some (.goto (-32), 3, .inl (8, 0), false) := rfl
theorem lk_Mo_knownAt_43 : sc_lk tb_Mo_knownAt 43 = some (.iload_n 2, 1, .inl (2, 0), false) := rfl
theorem lk_Mo_knownAt_44 : sc_lk tb_Mo_knownAt 44 = some (.ireturn, 1, .inr (.inr 0), false) := rfl
def tb_Mo_sightsOf : sc_T := [(0, .aload_n 0, 1, .inl (0, 0), false), (1, .getfield 29, 3, .inl (5, 10), false), (4, .iload_n 1, 1, .inl (1, 0), false), (5, .iaload, 1, .inr (.inr 0), false), (6, .istore_n 2, 1, .inl (2, 0), false), (7, .iconst 0, 1, .inr (.inr 0), false), (8, .istore_n 3, 1, .inl (3, 0), false), (9, .iload_n 3, 1, .inl (3, 0), true), (10, .aload_n 0, 1, .inl (0, 0), false), (11, .getfield 23, 3, .inl (5, 8), false), (14, .iload_n 1, 1, .inl (1, 0), false), (15, .iaload, 1, .inr (.inr 0), false), (16, .if_icmp .ge 51, 3, .inl (67, 0), false), (19, .iload_n 1, 1, .inl (1, 0), false), (20, .aload_n 0, 1, .inl (0, 0), false), (21, .getfield 38, 3, .inl (5, 13), false), (24, .if_icmp .ne 43, 3, .inl (67, 0), false), (27, .aload_n 0, 1, .inl (0, 0), false), (28, .getfield 26, 3, .inl (5, 9), false), (31, .iconst 3, 1, .inr (.inr 0), false), (32, .iload_n 1, 1, .inl (1, 0), false), (33, .imul, 1, .inr (.inr 0), false), (34, .iload_n 3, 1, .inl (3, 0), false), (35, .iadd, 1, .inr (.inr 0), false), (36, .iaload, 1, .inr (.inr 0), false), (37, .istore 4, 2, .inl (4, 0), false), (39, .iload_n 2, 1, .inl (2, 0), false), (40, .aload_n 0, 1, .inl (0, 0), false), (41, .getfield 17, 3, .inl (5, 6), false), (44, .iload 4, 2, .inl (4, 0), false), (46, .iaload, 1, .inr (.inr 0), false), (47, .iconst 1, 1, .inr (.inr 0), false), (48, .if_icmp .ne 10, 3, .inl (58, 0), false), (51, .iconst 1, 1, .inr (.inr 0), false), (52, .iload 4, 2, .inl (4, 0), false), (54, .ishl, 1, .inr (.inr 0), false), (55, .goto 4, 3, .inl (59, 0), false), (58, .iconst 0, 1, .inr (.inr 0), false), (59, .ior, 1, .inr (.inr 0), false), (60, .istore_n 2, 1, .inl (2, 0), false), (61, .iinc 3 1, 3, .inl (3, 0), false), (64, .goto (-55), 3, .inl (9, 0), false), (67, .iload_n 2, 1, .inl (2, 0), false), (68, .ireturn, 1, .inr (.inr 0), false)]
theorem tk_Mo_sightsOf : sc_ok mq_Mo_sightsOf tb_Mo_sightsOf = true := by decide +kernel
theorem lk_Mo_sightsOf_0 : sc_lk tb_Mo_sightsOf 0 = some (.aload_n 0, 1, .inl (0, 0), false) := rfl
theorem lk_Mo_sightsOf_1 : sc_lk tb_Mo_sightsOf 1 = some (.getfield 29, 3, .inl (5, 10), false) := rfl
theorem lk_Mo_sightsOf_4 : sc_lk tb_Mo_sightsOf 4 = some (.iload_n 1, 1, .inl (1, 0), false) := rfl
theorem lk_Mo_sightsOf_5 : sc_lk tb_Mo_sightsOf 5 = some (.iaload, 1, .inr (.inr 0), false) := rfl
theorem lk_Mo_sightsOf_6 : sc_lk tb_Mo_sightsOf 6 = some (.istore_n 2, 1, .inl (2, 0), false) := rfl
theorem lk_Mo_sightsOf_7 : sc_lk tb_Mo_sightsOf 7 = some (.iconst 0, 1, .inr (.inr 0), false) := rfl
theorem lk_Mo_sightsOf_8 : sc_lk tb_Mo_sightsOf 8 = some (.istore_n 3, 1, .inl (3, 0), false) := rfl
theorem lk_Mo_sightsOf_9 : sc_lk tb_Mo_sightsOf 9 = some (.iload_n 3, 1, .inl (3, 0), true) := rfl
theorem lk_Mo_sightsOf_10 : sc_lk tb_Mo_sightsOf 10 = some (.aload_n 0, 1, .inl (0, 0), false) := rfl
theorem lk_Mo_sightsOf_11 : sc_lk tb_Mo_sightsOf 11 = some (.getfield 23, 3, .inl (5, 8), false) := rfl
theorem lk_Mo_sightsOf_14 : sc_lk tb_Mo_sightsOf 14 = some (.iload_n 1, 1, .inl (1, 0), false) := rfl
theorem lk_Mo_sightsOf_15 : sc_lk tb_Mo_sightsOf 15 = some (.iaload, 1, .inr (.inr 0), false) := rfl
theorem lk_Mo_sightsOf_16 : sc_lk tb_Mo_sightsOf 16 = some (.if_icmp .ge 51, 3, .inl (67, 0), false) := rfl
theorem lk_Mo_sightsOf_19 : sc_lk tb_Mo_sightsOf 19 = some (.iload_n 1, 1, .inl (1, 0), false) := rfl
theorem lk_Mo_sightsOf_20 : sc_lk tb_Mo_sightsOf 20 = some (.aload_n 0, 1, .inl (0, 0), false) := rfl
theorem lk_Mo_sightsOf_21 : sc_lk tb_Mo_sightsOf 21 = some (.getfield 38, 3, .inl (5, 13), false) := rfl
theorem lk_Mo_sightsOf_24 : sc_lk tb_Mo_sightsOf 24 = some (.if_icmp .ne 43, 3, .inl (67, 0), false) := rfl
theorem lk_Mo_sightsOf_27 : sc_lk tb_Mo_sightsOf 27 = some (.aload_n 0, 1, .inl (0, 0), false) := rfl
theorem lk_Mo_sightsOf_28 : sc_lk tb_Mo_sightsOf 28 = some (.getfield 26, 3, .inl (5, 9), false) := rfl
theorem lk_Mo_sightsOf_31 : sc_lk tb_Mo_sightsOf 31 = some (.iconst 3, 1, .inr (.inr 0), false) := rfl
theorem lk_Mo_sightsOf_32 : sc_lk tb_Mo_sightsOf 32 = some (.iload_n 1, 1, .inl (1, 0), false) := rfl
theorem lk_Mo_sightsOf_33 : sc_lk tb_Mo_sightsOf 33 = some (.imul, 1, .inr (.inr 0), false) := rfl
theorem lk_Mo_sightsOf_34 : sc_lk tb_Mo_sightsOf 34 = some (.iload_n 3, 1, .inl (3, 0), false) := rfl
theorem lk_Mo_sightsOf_35 : sc_lk tb_Mo_sightsOf 35 = some (.iadd, 1, .inr (.inr 0), false) := rfl
theorem lk_Mo_sightsOf_36 : sc_lk tb_Mo_sightsOf 36 = some (.iaload, 1, .inr (.inr 0), false) := rfl
theorem lk_Mo_sightsOf_37 : sc_lk tb_Mo_sightsOf 37 = some (.istore 4, 2, .inl (4, 0), false) := rfl
theorem lk_Mo_sightsOf_39 : sc_lk tb_Mo_sightsOf 39 = some (.iload_n 2, 1, .inl (2, 0), false) := rfl
theorem lk_Mo_sightsOf_40 : sc_lk tb_Mo_sightsOf 40 = some (.aload_n 0, 1, .inl (0, 0), false) := rfl
theorem lk_Mo_sightsOf_41 : sc_lk tb_Mo_sightsOf 41 = some (.getfield 17, 3, .inl (5, 6), false) := rfl
theorem lk_Mo_sightsOf_44 : sc_lk tb_Mo_sightsOf 44 = some (.iload 4, 2, .inl (4, 0), false) := rfl
theorem lk_Mo_sightsOf_46 : sc_lk tb_Mo_sightsOf 46 = some (.iaload, 1, .inr (.inr 0), false) := rfl
theorem lk_Mo_sightsOf_47 : sc_lk tb_Mo_sightsOf 47 = some (.iconst 1, 1, .inr (.inr 0), false) := rfl
theorem lk_Mo_sightsOf_48 : sc_lk tb_Mo_sightsOf 48 = some (.if_icmp .ne 10, 3, .inl (58, 0), false) := rfl
theorem lk_Mo_sightsOf_51 : sc_lk tb_Mo_sightsOf 51 = some (.iconst 1, 1, .inr (.inr 0), false) := rfl
theorem lk_Mo_sightsOf_52 : sc_lk tb_Mo_sightsOf 52 = some (.iload 4, 2, .inl (4, 0), false) := rfl
theorem lk_Mo_sightsOf_54 : sc_lk tb_Mo_sightsOf 54 = some (.ishl, 1, .inr (.inr 0), false) := rfl
theorem lk_Mo_sightsOf_55 : sc_lk tb_Mo_sightsOf 55 = some (.goto 4, 3, .inl (59, 0), false) := rfl
theorem lk_Mo_sightsOf_58 : sc_lk tb_Mo_sightsOf 58 = some (.iconst 0, 1, .inr (.inr 0), false) := rfl
theorem lk_Mo_sightsOf_59 : sc_lk tb_Mo_sightsOf 59 = some (.ior, 1, .inr (.inr 0), false) := rfl
theorem lk_Mo_sightsOf_60 : sc_lk tb_Mo_sightsOf 60 = some (.istore_n 2, 1, .inl (2, 0), false) := rfl
theorem lk_Mo_sightsOf_61 : sc_lk tb_Mo_sightsOf 61 = some (.iinc 3 1, 3, .inl (3, 0), false) := rfl
theorem lk_Mo_sightsOf_64 : sc_lk tb_Mo_sightsOf 64 = some (.goto (-55), 3, .inl (9, 0), false) := rfl
theorem lk_Mo_sightsOf_67 : sc_lk tb_Mo_sightsOf 67 = some (.iload_n 2, 1, .inl (2, 0), false) := rfl
theorem lk_Mo_sightsOf_68 : sc_lk tb_Mo_sightsOf 68 = some (.ireturn, 1, .inr (.inr 0), false) := rfl
def tb_Mo_planAt : sc_T := [(0, .iconst 0, 1, .inr (.inr 0), false), (1, .istore_n 2, 1, .inl (2, 0), false), (2, .iload_n 2, 1, .inl (2, 0), true), (3, .sipush 729, 3, .inr (.inr 0), false), (6, .if_icmp .ge 16, 3, .inl (22, 0), false), (9, .aload_n 0, 1, .inl (0, 0), false), (10, .getfield 48, 3, .inl (5, 16), false), (13, .iload_n 2, 1, .inl (2, 0), false), (14, .lconst 0, 1, .inr (.inr 0), false), (15, .lastore, 1, .inr (.inr 0), false), (16, .iinc 2 1, 3, .inl (2, 0), false), (19, .goto (-17), 3, .inl (2, 0), false), (22, .iconst 0, 1, .inr (.inr 0), false), (23, .istore_n 2, 1, .inl (2, 0), false), (24, .iload_n 2, 1, .inl (2, 0), true), (25, .sipush 243, 3, .inr (.inr 0), false), (28, .if_icmp .ge 29, 3, .inl (57, 0), false), (31, .aload_n 0, 1, .inl (0, 0), false), (32, .getfield 52, 3, .inl (5, 17), false), (35, .iload_n 2, 1, .inl (2, 0), false), (36, .iconst 0, 1, .inr (.inr 0), false), (37, .bastore, 1, .inr (.inr 0), false), (38, .aload_n 0, 1, .inl (0, 0), false), (39, .getfield 45, 3, .inl (5, 15), false), (42, .sipush 243, 3, .inr (.inr 0), false), (45, .iload_n 1, 1, .inl (1, 0), false), (46, .imul, 1, .inr (.inr 0), false), (47, .iload_n 2, 1, .inl (2, 0), false), (48, .iadd, 1, .inr (.inr 0), false), (49, .iconst 0, 1, .inr (.inr 0), false), (50, .iastore, 1, .inr (.inr 0), false), (51, .iinc 2 1, 3, .inl (2, 0), false), (54, .goto (-30), 3, .inl (24, 0), false), (57, .aload_n 0, 1, .inl (0, 0), false), (58, .invokevirtual 91, 3, .inr (.inl (5, 0, mq_Mo_worlds)), false), (61, .istore_n 2, 1, .inl (2, 0), false), (62, .iconst 0, 1, .inr (.inr 0), false), (63, .istore_n 3, 1, .inl (3, 0), false), (64, .iload_n 3, 1, .inl (3, 0), true), (65, .iload_n 2, 1, .inl (2, 0), false), (66, .if_icmp .ge 212, 3, .inl (278, 0), false), (69, .aload_n 0, 1, .inl (0, 0), false), (70, .iload_n 3, 1, .inl (3, 0), false), (71, .invokevirtual 143, 3, .inr (.inl (5, 1, mq_Mo_setWorld)), false), (74, .aload_n 0, 1, .inl (0, 0), false), (75, .invokevirtual 146, 3, .inr (.inl (5, 0, mq_Mo_weightNow)), false), (78, .lstore 4, 2, .inl (4, 0), false), (80, .aload_n 0, 1, .inl (0, 0), false), (81, .aload_n 0, 1, .inl (0, 0), false), (82, .getfield 56, 3, .inl (5, 18), false), (85, .iload_n 1, 1, .inl (1, 0), false), (86, .iaload, 1, .inr (.inr 0), false), (87, .invokevirtual 140, 3, .inr (.inl (5, 1, mq_Mo_numberOf)), false), (90, .istore 6, 2, .inl (6, 0), false), (92, .iconst 1, 1, .inr (.inr 0), false), (93, .istore 7, 2, .inl (7, 0), false), (95, .iconst 0, 1, .inr (.inr 0), false), (96, .istore 8, 2, .inl (8, 0), false), (98, .iload 8, 2, .inl (8, 0), true), (100, .iload_n 1, 1, .inl (1, 0), false), (101, .if_icmp .ge 48, 3, .inl (149, 0), false), (104, .iload 7, 2, .inl (7, 0), false), (106, .ifCond .eq 34, 3, .inl (140, 0), false), (109, .aload_n 0, 1, .inl (0, 0), false), (110, .getfield 32, 3, .inl (5, 11), false), (113, .iload 8, 2, .inl (8, 0), false), (115, .iaload, 1, .inr (.inr 0), false), (116, .ifCond .lt 20, 3, .inl (136, 0), false), (119, .aload_n 0, 1, .inl (0, 0), false), (120, .getfield 42, 3, .inl (5, 14), false), (123, .iload 8, 2, .inl (8, 0), false), (125, .iaload, 1, .inr (.inr 0), false), (126, .aload_n 0, 1, .inl (0, 0), false), (127, .getfield 32, 3, .inl (5, 11), false), (130, .iload 8, 2, .inl (8, 0), false), (132, .iaload, 1, .inr (.inr 0), false), (133, .if_icmp .ne 7, 3, .inl (140, 0), false), (136, .iconst 1, 1, .inr (.inr 0), false), (137, .goto 4, 3, .inl (141, 0), false), (140, .iconst 0, 1, .inr (.inr 0), false), (141, .istore 7, 2, .inl (7, 0), false), (143, .iinc 8 1, 3, .inl (8, 0), false), (146, .goto (-48), 3, .inl (98, 0), false), (149, .aload_n 0, 1, .inl (0, 0), false), (150, .getfield 52, 3, .inl (5, 17), false), (153, .iload 6, 2, .inl (6, 0), false), (155, .aload_n 0, 1, .inl (0, 0), false), (156, .getfield 52, 3, .inl (5, 17), false), (159, .iload 6, 2, .inl (6, 0), false), (161, .baload, 1, .inr (.inr 0), false), (162, .ifCond .ne 15, 3, .inl (177, 0), false), (165, .lload 4, 2, .inl (4, 0), false), (167, .lconst 0, 1, .inr (.inr 0), false), (168, .lcmp, 1, .inr (.inr 0), false), (169, .ifCond .le 12, 3, .inl (181, 0), false), (172, .iload 7, 2, .inl (7, 0), false), (174, .ifCond .eq 7, 3, .inl (181, 0), false), (177, .iconst 1, 1, .inr (.inr 0), false), (178, .goto 4, 3, .inl (182, 0), false), (181, .iconst 0, 1, .inr (.inr 0), false), (182, .bastore, 1, .inr (.inr 0), false), (183, .iconst 1, 1, .inr (.inr 0), false), (184, .istore 8, 2, .inl (8, 0), false), (186, .iload_n 1, 1, .inl (1, 0), false), (187, .iconst 1, 1, .inr (.inr 0), false), (188, .iadd, 1, .inr (.inr 0), false), (189, .istore 9, 2, .inl (9, 0), false), (191, .iload 9, 2, .inl (9, 0), true), (193, .aload_n 0, 1, .inl (0, 0), false), (194, .getfield 80, 3, .inl (5, 5), false), (197, .if_icmp .ge 39, 3, .inl (236, 0), false), (200, .iload 8, 2, .inl (8, 0), false), (202, .ifCond .eq 34, 3, .inl (236, 0), false), (205, .aload_n 0, 1, .inl (0, 0), false), (206, .iload 9, 2, .inl (9, 0), false), (208, .invokevirtual 137, 3, .inr (.inl (5, 1, mq_Mo_isChoice)), false), (211, .ifCond .eq 12, 3, .inl (223, 0), false), (214, .aload_n 0, 1, .inl (0, 0), false), (215, .iload 9, 2, .inl (9, 0), false), (217, .invokevirtual 150, 3, .inr (.inl (5, 1, mq_Mo_goes)), false), (220, .ifCond .eq 7, 3, .inl (227, 0), false), (223, .iconst 1, 1, .inr (.inr 0), false), (224, .goto 4, 3, .inl (228, 0), false), (227, .iconst 0, 1, .inr (.inr 0), false), (228, .istore 8, 2, .inl (8, 0), false), (230, .iinc 9 1, 3, .inl (9, 0), false), (233, .goto (-42), 3, .inl (191, 0), false), (236, .aload_n 0, 1, .inl (0, 0), false), (237, .getfield 48, 3, .inl (5, 16), false), (240, .iconst 3, 1, .inr (.inr 0), false), (241, .iload 6, 2, .inl (6, 0), false), (243, .imul, 1, .inr (.inr 0), false), (244, .aload_n 0, 1, .inl (0, 0), false), (245, .getfield 42, 3, .inl (5, 14), false), (248, .iload_n 1, 1, .inl (1, 0), false), (249, .iaload, 1, .inr (.inr 0), false), (250, .iadd, 1, .inr (.inr 0), false), (251, .dup2, 1, .inr (.inr 0), false), (252, .laload, 1, .inr (.inr 0), false), (253, .iload 8, 2, .inl (8, 0), false), (255, .ifCond .eq 14, 3, .inl (269, 0), false), (258, .lload 4, 2, .inl (4, 0), false), (260, .aload_n 0, 1, .inl (0, 0), false), (261, .invokevirtual 153, 3, .inr (.inl (5, 0, mq_Mo_worthNow)), false), (264, .i2l, 1, .inr (.inr 0), false), (265, .lmul, 1, .inr (.inr 0), false), (266, .goto 4, 3, .inl (270, 0), false), (269, .lconst 0, 1, .inr (.inr 0), false), (270, .ladd, 1, .inr (.inr 0), false), (271, .lastore, 1, .inr (.inr 0), false), (272, .iinc 3 1, 3, .inl (3, 0), false), (275, .goto (-211), 3, .inl (64, 0), false), (278, .iconst 0, 1, .inr (.inr 0), false), (279, .istore_n 3, 1, .inl (3, 0), false), (280, .iload_n 3, 1, .inl (3, 0), true), (281, .sipush 243, 3, .inr (.inr 0), false), (284, .if_icmp .ge 90, 3, .inl (374, 0), false), (287, .iconst 0, 1, .inr (.inr 0), false), (288, .istore 4, 2, .inl (4, 0), false), (290, .iconst 1, 1, .inr (.inr 0), false), (291, .istore 5, 2, .inl (5, 0), false), (293, .iload 5, 2, .inl (5, 0), true), (295, .aload_n 0, 1, .inl (0, 0), false), (296, .getfield 20, 3, .inl (5, 7), false), (299, .iload_n 1, 1, .inl (1, 0), false), (300, .iaload, 1, .inr (.inr 0), false), (301, .if_icmp .ge 53, 3, .inl (354, 0), false), (304, .aload_n 0, 1, .inl (0, 0), false), (305, .getfield 52, 3, .inl (5, 17), false), (308, .iload_n 3, 1, .inl (3, 0), false), (309, .baload, 1, .inr (.inr 0), false), (310, .ifCond .eq 44, 3, .inl (354, 0), false), (313, .aload_n 0, 1, .inl (0, 0), false), (314, .getfield 48, 3, .inl (5, 16), false), (317, .iconst 3, 1, .inr (.inr 0), false), (318, .iload_n 3, 1, .inl (3, 0), false), (319, .imul, 1, .inr (.inr 0), false), (320, .iload 5, 2, .inl (5, 0), false), (322, .iadd, 1, .inr (.inr 0), false), (323, .laload, 1, .inr (.inr 0), false), (324, .aload_n 0, 1, .inl (0, 0), false), (325, .getfield 48, 3, .inl (5, 16), false), (328, .iconst 3, 1, .inr (.inr 0), false), (329, .iload_n 3, 1, .inl (3, 0), false), (330, .imul, 1, .inr (.inr 0), false), (331, .iload 4, 2, .inl (4, 0), false), (333, .iadd, 1, .inr (.inr 0), false), (334, .laload, 1, .inr (.inr 0), false), (335, .lcmp, 1, .inr (.inr 0), false), (336, .ifCond .le 8, 3, .inl (344, 0), false), (339, .iload 5, 2, .inl (5, 0), false), (341, .goto 5, 3, .inl (346, 0), false), (344, .iload 4, 2, .inl (4, 0), false), (346, .istore 4, 2, .inl (4, 0), false), (348, .iinc 5 1, 3, .inl (5, 0), false), (351, .goto (-58), 3, .inl (293, 0), false), (354, .aload_n 0, 1, .inl (0, 0), false), (355, .getfield 45, 3, .inl (5, 15), false), (358, .sipush 243, 3, .inr (.inr 0), false), (361, .iload_n 1, 1, .inl (1, 0), false), (362, .imul, 1, .inr (.inr 0), false), (363, .iload_n 3, 1, .inl (3, 0), false), (364, .iadd, 1, .inr (.inr 0), false), (365, .iload 4, 2, .inl (4, 0), false), (367, .iastore, 1, .inr (.inr 0), false), (368, .iinc 3 1, 3, .inl (3, 0), false), (371, .goto (-91), 3, .inl (280, 0), false), (374, .return_, 1, .inr (.inr 0), false)]
theorem tk_Mo_planAt : sc_ok mq_Mo_planAt tb_Mo_planAt = true := by decide +kernel
set_option maxRecDepth 20000 in
theorem lk_Mo_planAt_0 : sc_lk tb_Mo_planAt 0 = some (.iconst 0, 1, .inr (.inr 0), false) := rfl
set_option maxRecDepth 20000 in
theorem lk_Mo_planAt_1 : sc_lk tb_Mo_planAt 1 = some (.istore_n 2, 1, .inl (2, 0), false) := rfl
set_option maxRecDepth 20000 in
theorem lk_Mo_planAt_2 : sc_lk tb_Mo_planAt 2 = some (.iload_n 2, 1, .inl (2, 0), true) := rfl
set_option maxRecDepth 20000 in
theorem lk_Mo_planAt_3 : sc_lk tb_Mo_planAt 3 = some (.sipush 729, 3, .inr (.inr 0), false) := rfl
set_option maxRecDepth 20000 in
theorem lk_Mo_planAt_6 : sc_lk tb_Mo_planAt 6 = some (.if_icmp .ge 16, 3, .inl (22, 0), false) := rfl
set_option maxRecDepth 20000 in
theorem lk_Mo_planAt_9 : sc_lk tb_Mo_planAt 9 = some (.aload_n 0, 1, .inl (0, 0), false) := rfl
set_option maxRecDepth 20000 in
theorem lk_Mo_planAt_10 : sc_lk tb_Mo_planAt 10 = some (.getfield 48, 3, .inl (5, 16), false) := rfl
set_option maxRecDepth 20000 in
theorem lk_Mo_planAt_13 : sc_lk tb_Mo_planAt 13 = some (.iload_n 2, 1, .inl (2, 0), false) := rfl
set_option maxRecDepth 20000 in
theorem lk_Mo_planAt_14 : sc_lk tb_Mo_planAt 14 = some (.lconst 0, 1, .inr (.inr 0), false) := rfl
set_option maxRecDepth 20000 in
theorem lk_Mo_planAt_15 : sc_lk tb_Mo_planAt 15 = some (.lastore, 1, .inr (.inr 0), false) := rfl
set_option maxRecDepth 20000 in
theorem lk_Mo_planAt_16 : sc_lk tb_Mo_planAt 16 = some (.iinc 2 1, 3, .inl (2, 0), false) := rfl
set_option maxRecDepth 20000 in
theorem lk_Mo_planAt_19 : sc_lk tb_Mo_planAt 19 = some (.goto (-17), 3, .inl (2, 0), false) := rfl
set_option maxRecDepth 20000 in
theorem lk_Mo_planAt_22 : sc_lk tb_Mo_planAt 22 = some (.iconst 0, 1, .inr (.inr 0), false) := rfl
set_option maxRecDepth 20000 in
theorem lk_Mo_planAt_23 : sc_lk tb_Mo_planAt 23 = some (.istore_n 2, 1, .inl (2, 0), false) := rfl
set_option maxRecDepth 20000 in
theorem lk_Mo_planAt_24 : sc_lk tb_Mo_planAt 24 = some (.iload_n 2, 1, .inl (2, 0), true) := rfl
set_option maxRecDepth 20000 in
theorem lk_Mo_planAt_25 : sc_lk tb_Mo_planAt 25 = some (.sipush 243, 3, .inr (.inr 0), false) := rfl
set_option maxRecDepth 20000 in
theorem lk_Mo_planAt_28 : sc_lk tb_Mo_planAt 28 = some (.if_icmp .ge 29, 3, .inl (57, 0), false) := rfl
set_option maxRecDepth 20000 in
theorem lk_Mo_planAt_31 : sc_lk tb_Mo_planAt 31 = some (.aload_n 0, 1, .inl (0, 0), false) := rfl
set_option maxRecDepth 20000 in
theorem lk_Mo_planAt_32 : sc_lk tb_Mo_planAt 32 = some (.getfield 52, 3, .inl (5, 17), false) := rfl
set_option maxRecDepth 20000 in
theorem lk_Mo_planAt_35 : sc_lk tb_Mo_planAt 35 = some (.iload_n 2, 1, .inl (2, 0), false) := rfl
set_option maxRecDepth 20000 in
theorem lk_Mo_planAt_36 : sc_lk tb_Mo_planAt 36 = some (.iconst 0, 1, .inr (.inr 0), false) := rfl
set_option maxRecDepth 20000 in
theorem lk_Mo_planAt_37 : sc_lk tb_Mo_planAt 37 = some (.bastore, 1, .inr (.inr 0), false) := rfl
set_option maxRecDepth 20000 in
theorem lk_Mo_planAt_38 : sc_lk tb_Mo_planAt 38 = some (.aload_n 0, 1, .inl (0, 0), false) := rfl
set_option maxRecDepth 20000 in
theorem lk_Mo_planAt_39 : sc_lk tb_Mo_planAt 39 = some (.getfield 45, 3, .inl (5, 15), false) := rfl
set_option maxRecDepth 20000 in
theorem lk_Mo_planAt_42 : sc_lk tb_Mo_planAt 42 = some (.sipush 243, 3, .inr (.inr 0), false) := rfl
set_option maxRecDepth 20000 in
theorem lk_Mo_planAt_45 : sc_lk tb_Mo_planAt 45 = some (.iload_n 1, 1, .inl (1, 0), false) := rfl
set_option maxRecDepth 20000 in
theorem lk_Mo_planAt_46 : sc_lk tb_Mo_planAt 46 = some (.imul, 1, .inr (.inr 0), false) := rfl
set_option maxRecDepth 20000 in
theorem lk_Mo_planAt_47 : sc_lk tb_Mo_planAt 47 = some (.iload_n 2, 1, .inl (2, 0), false) := rfl
set_option maxRecDepth 20000 in
theorem lk_Mo_planAt_48 : sc_lk tb_Mo_planAt 48 = some (.iadd, 1, .inr (.inr 0), false) := rfl
set_option maxRecDepth 20000 in
theorem lk_Mo_planAt_49 : sc_lk tb_Mo_planAt 49 = some (.iconst 0, 1, .inr (.inr 0), false) := rfl
set_option maxRecDepth 20000 in
theorem lk_Mo_planAt_50 : sc_lk tb_Mo_planAt 50 = some (.iastore, 1, .inr (.inr 0), false) := rfl
set_option maxRecDepth 20000 in
theorem lk_Mo_planAt_51 : sc_lk tb_Mo_planAt 51 = some (.iinc 2 1, 3, .inl (2, 0), false) := rfl
set_option maxRecDepth 20000 in
theorem lk_Mo_planAt_54 : sc_lk tb_Mo_planAt 54 = some (.goto (-30), 3, .inl (24, 0), false) := rfl
set_option maxRecDepth 20000 in
theorem lk_Mo_planAt_57 : sc_lk tb_Mo_planAt 57 = some (.aload_n 0, 1, .inl (0, 0), false) := rfl
set_option maxRecDepth 20000 in
theorem lk_Mo_planAt_58 : sc_lk tb_Mo_planAt 58 = some (.invokevirtual 91, 3, .inr (.inl (5, 0, mq_Mo_worlds)), false) := rfl
set_option maxRecDepth 20000 in
theorem lk_Mo_planAt_61 : sc_lk tb_Mo_planAt 61 = some (.istore_n 2, 1, .inl (2, 0), false) := rfl
set_option maxRecDepth 20000 in
theorem lk_Mo_planAt_62 : sc_lk tb_Mo_planAt 62 = some (.iconst 0, 1, .inr (.inr 0), false) := rfl
set_option maxRecDepth 20000 in
theorem lk_Mo_planAt_63 : sc_lk tb_Mo_planAt 63 = some (.istore_n 3, 1, .inl (3, 0), false) := rfl
set_option maxRecDepth 20000 in
theorem lk_Mo_planAt_64 : sc_lk tb_Mo_planAt 64 = some (.iload_n 3, 1, .inl (3, 0), true) := rfl
set_option maxRecDepth 20000 in
theorem lk_Mo_planAt_65 : sc_lk tb_Mo_planAt 65 = some (.iload_n 2, 1, .inl (2, 0), false) := rfl
set_option maxRecDepth 20000 in
theorem lk_Mo_planAt_66 : sc_lk tb_Mo_planAt 66 = some (.if_icmp .ge 212, 3, .inl (278, 0), false) := rfl
set_option maxRecDepth 20000 in
theorem lk_Mo_planAt_69 : sc_lk tb_Mo_planAt 69 = some (.aload_n 0, 1, .inl (0, 0), false) := rfl
set_option maxRecDepth 20000 in
theorem lk_Mo_planAt_70 : sc_lk tb_Mo_planAt 70 = some (.iload_n 3, 1, .inl (3, 0), false) := rfl
set_option maxRecDepth 20000 in
theorem lk_Mo_planAt_71 : sc_lk tb_Mo_planAt 71 = some (.invokevirtual 143, 3, .inr (.inl (5, 1, mq_Mo_setWorld)), false) := rfl
set_option maxRecDepth 20000 in
theorem lk_Mo_planAt_74 : sc_lk tb_Mo_planAt 74 = some (.aload_n 0, 1, .inl (0, 0), false) := rfl
set_option maxRecDepth 20000 in
theorem lk_Mo_planAt_75 : sc_lk tb_Mo_planAt 75 = some (.invokevirtual 146, 3, .inr (.inl (5, 0, mq_Mo_weightNow)), false) := rfl
set_option maxRecDepth 20000 in
theorem lk_Mo_planAt_78 : sc_lk tb_Mo_planAt 78 = some (.lstore 4, 2, .inl (4, 0), false) := rfl
set_option maxRecDepth 20000 in
theorem lk_Mo_planAt_80 : sc_lk tb_Mo_planAt 80 = some (.aload_n 0, 1, .inl (0, 0), false) := rfl
set_option maxRecDepth 20000 in
theorem lk_Mo_planAt_81 : sc_lk tb_Mo_planAt 81 = some (.aload_n 0, 1, .inl (0, 0), false) := rfl
set_option maxRecDepth 20000 in
theorem lk_Mo_planAt_82 : sc_lk tb_Mo_planAt 82 = some (.getfield 56, 3, .inl (5, 18), false) := rfl
set_option maxRecDepth 20000 in
theorem lk_Mo_planAt_85 : sc_lk tb_Mo_planAt 85 = some (.iload_n 1, 1, .inl (1, 0), false) := rfl
set_option maxRecDepth 20000 in
theorem lk_Mo_planAt_86 : sc_lk tb_Mo_planAt 86 = some (.iaload, 1, .inr (.inr 0), false) := rfl
set_option maxRecDepth 20000 in
theorem lk_Mo_planAt_87 : sc_lk tb_Mo_planAt 87 = some (.invokevirtual 140, 3, .inr (.inl (5, 1, mq_Mo_numberOf)), false) := rfl
set_option maxRecDepth 20000 in
theorem lk_Mo_planAt_90 : sc_lk tb_Mo_planAt 90 = some (.istore 6, 2, .inl (6, 0), false) := rfl
set_option maxRecDepth 20000 in
theorem lk_Mo_planAt_92 : sc_lk tb_Mo_planAt 92 = some (.iconst 1, 1, .inr (.inr 0), false) := rfl
set_option maxRecDepth 20000 in
theorem lk_Mo_planAt_93 : sc_lk tb_Mo_planAt 93 = some (.istore 7, 2, .inl (7, 0), false) := rfl
set_option maxRecDepth 20000 in
theorem lk_Mo_planAt_95 : sc_lk tb_Mo_planAt 95 = some (.iconst 0, 1, .inr (.inr 0), false) := rfl
set_option maxRecDepth 20000 in
theorem lk_Mo_planAt_96 : sc_lk tb_Mo_planAt 96 = some (.istore 8, 2, .inl (8, 0), false) := rfl
set_option maxRecDepth 20000 in
theorem lk_Mo_planAt_98 : sc_lk tb_Mo_planAt 98 = some (.iload 8, 2, .inl (8, 0), true) := rfl
set_option maxRecDepth 20000 in
theorem lk_Mo_planAt_100 : sc_lk tb_Mo_planAt 100 = some (.iload_n 1, 1, .inl (1, 0), false) := rfl
set_option maxRecDepth 20000 in
theorem lk_Mo_planAt_101 : sc_lk tb_Mo_planAt 101 = some (.if_icmp .ge 48, 3, .inl (149, 0), false) := rfl
set_option maxRecDepth 20000 in
theorem lk_Mo_planAt_104 : sc_lk tb_Mo_planAt 104 = some (.iload 7, 2, .inl (7, 0), false) := rfl
set_option maxRecDepth 20000 in
theorem lk_Mo_planAt_106 : sc_lk tb_Mo_planAt 106 = some (.ifCond .eq 34, 3, .inl (140, 0), false) := rfl
set_option maxRecDepth 20000 in
theorem lk_Mo_planAt_109 : sc_lk tb_Mo_planAt 109 = some (.aload_n 0, 1, .inl (0, 0), false) := rfl
set_option maxRecDepth 20000 in
theorem lk_Mo_planAt_110 : sc_lk tb_Mo_planAt 110 = some (.getfield 32, 3, .inl (5, 11), false) := rfl
set_option maxRecDepth 20000 in
theorem lk_Mo_planAt_113 : sc_lk tb_Mo_planAt 113 = some (.iload 8, 2, .inl (8, 0), false) := rfl
set_option maxRecDepth 20000 in
theorem lk_Mo_planAt_115 : sc_lk tb_Mo_planAt 115 = some (.iaload, 1, .inr (.inr 0), false) := rfl
set_option maxRecDepth 20000 in
theorem lk_Mo_planAt_116 : sc_lk tb_Mo_planAt 116 = some (.ifCond .lt 20, 3, .inl (136, 0), false) := rfl
set_option maxRecDepth 20000 in
theorem lk_Mo_planAt_119 : sc_lk tb_Mo_planAt 119 = some (.aload_n 0, 1, .inl (0, 0), false) := rfl
set_option maxRecDepth 20000 in
theorem lk_Mo_planAt_120 : sc_lk tb_Mo_planAt 120 = some (.getfield 42, 3, .inl (5, 14), false) := rfl
set_option maxRecDepth 20000 in
theorem lk_Mo_planAt_123 : sc_lk tb_Mo_planAt 123 = some (.iload 8, 2, .inl (8, 0), false) := rfl
set_option maxRecDepth 20000 in
theorem lk_Mo_planAt_125 : sc_lk tb_Mo_planAt 125 = some (.iaload, 1, .inr (.inr 0), false) := rfl
set_option maxRecDepth 20000 in
theorem lk_Mo_planAt_126 : sc_lk tb_Mo_planAt 126 = some (.aload_n 0, 1, .inl (0, 0), false) := rfl
set_option maxRecDepth 20000 in
theorem lk_Mo_planAt_127 : sc_lk tb_Mo_planAt 127 = some (.getfield 32, 3, .inl (5, 11), false) := rfl
set_option maxRecDepth 20000 in
theorem lk_Mo_planAt_130 : sc_lk tb_Mo_planAt 130 = some (.iload 8, 2, .inl (8, 0), false) := rfl
set_option maxRecDepth 20000 in
theorem lk_Mo_planAt_132 : sc_lk tb_Mo_planAt 132 = some (.iaload, 1, .inr (.inr 0), false) := rfl
set_option maxRecDepth 20000 in
theorem lk_Mo_planAt_133 : sc_lk tb_Mo_planAt 133 = some (.if_icmp .ne 7, 3, .inl (140, 0), false) := rfl
set_option maxRecDepth 20000 in
theorem lk_Mo_planAt_136 : sc_lk tb_Mo_planAt 136 = some (.iconst 1, 1, .inr (.inr 0), false) := rfl
set_option maxRecDepth 20000 in
theorem lk_Mo_planAt_137 : sc_lk tb_Mo_planAt 137 = some (.goto 4, 3, .inl (141, 0), false) := rfl
set_option maxRecDepth 20000 in
theorem lk_Mo_planAt_140 : sc_lk tb_Mo_planAt 140 = some (.iconst 0, 1, .inr (.inr 0), false) := rfl
set_option maxRecDepth 20000 in
theorem lk_Mo_planAt_141 : sc_lk tb_Mo_planAt 141 = some (.istore 7, 2, .inl (7, 0), false) := rfl
set_option maxRecDepth 20000 in
theorem lk_Mo_planAt_143 : sc_lk tb_Mo_planAt 143 = some (.iinc 8 1, 3, .inl (8, 0), false) := rfl
set_option maxRecDepth 20000 in
theorem lk_Mo_planAt_146 : sc_lk tb_Mo_planAt 146 = some (.goto (-48), 3, .inl (98, 0), false) := rfl
set_option maxRecDepth 20000 in
theorem lk_Mo_planAt_149 : sc_lk tb_Mo_planAt 149 = some (.aload_n 0, 1, .inl (0, 0), false) := rfl
set_option maxRecDepth 20000 in
theorem lk_Mo_planAt_150 : sc_lk tb_Mo_planAt 150 = some (.getfield 52, 3, .inl (5, 17), false) := rfl
set_option maxRecDepth 20000 in
theorem lk_Mo_planAt_153 : sc_lk tb_Mo_planAt 153 = some (.iload 6, 2, .inl (6, 0), false) := rfl
set_option maxRecDepth 20000 in
theorem lk_Mo_planAt_155 : sc_lk tb_Mo_planAt 155 = some (.aload_n 0, 1, .inl (0, 0), false) := rfl
set_option maxRecDepth 20000 in
theorem lk_Mo_planAt_156 : sc_lk tb_Mo_planAt 156 = some (.getfield 52, 3, .inl (5, 17), false) := rfl
set_option maxRecDepth 20000 in
theorem lk_Mo_planAt_159 : sc_lk tb_Mo_planAt 159 = some (.iload 6, 2, .inl (6, 0), false) := rfl
set_option maxRecDepth 20000 in
theorem lk_Mo_planAt_161 : sc_lk tb_Mo_planAt 161 = some (.baload, 1, .inr (.inr 0), false) := rfl
set_option maxRecDepth 20000 in
theorem lk_Mo_planAt_162 : sc_lk tb_Mo_planAt 162 = some (.ifCond .ne 15, 3, .inl (177, 0), false) := rfl
set_option maxRecDepth 20000 in
theorem lk_Mo_planAt_165 : sc_lk tb_Mo_planAt 165 = some (.lload 4, 2, .inl (4, 0), false) := rfl
set_option maxRecDepth 20000 in
theorem lk_Mo_planAt_167 : sc_lk tb_Mo_planAt 167 = some (.lconst 0, 1, .inr (.inr 0), false) := rfl
set_option maxRecDepth 20000 in
theorem lk_Mo_planAt_168 : sc_lk tb_Mo_planAt 168 = some (.lcmp, 1, .inr (.inr 0), false) := rfl
set_option maxRecDepth 20000 in
theorem lk_Mo_planAt_169 : sc_lk tb_Mo_planAt 169 = some (.ifCond .le 12, 3, .inl (181, 0), false) := rfl
set_option maxRecDepth 20000 in
theorem lk_Mo_planAt_172 : sc_lk tb_Mo_planAt 172 = some (.iload 7, 2, .inl (7, 0), false) := rfl
set_option maxRecDepth 20000 in
theorem lk_Mo_planAt_174 : sc_lk tb_Mo_planAt 174 = some (.ifCond .eq 7, 3, .inl (181, 0), false) := rfl
set_option maxRecDepth 20000 in
theorem lk_Mo_planAt_177 : sc_lk tb_Mo_planAt 177 = some (.iconst 1, 1, .inr (.inr 0), false) := rfl
set_option maxRecDepth 20000 in
theorem lk_Mo_planAt_178 : sc_lk tb_Mo_planAt 178 = some (.goto 4, 3, .inl (182, 0), false) := rfl
set_option maxRecDepth 20000 in
theorem lk_Mo_planAt_181 : sc_lk tb_Mo_planAt 181 = some (.iconst 0, 1, .inr (.inr 0), false) := rfl
set_option maxRecDepth 20000 in
theorem lk_Mo_planAt_182 : sc_lk tb_Mo_planAt 182 = some (.bastore, 1, .inr (.inr 0), false) := rfl
set_option maxRecDepth 20000 in
theorem lk_Mo_planAt_183 : sc_lk tb_Mo_planAt 183 = some (.iconst 1, 1, .inr (.inr 0), false) := rfl
set_option maxRecDepth 20000 in
theorem lk_Mo_planAt_184 : sc_lk tb_Mo_planAt 184 = some (.istore 8, 2, .inl (8, 0), false) := rfl
set_option maxRecDepth 20000 in
theorem lk_Mo_planAt_186 : sc_lk tb_Mo_planAt 186 = some (.iload_n 1, 1, .inl (1, 0), false) := rfl
set_option maxRecDepth 20000 in
theorem lk_Mo_planAt_187 : sc_lk tb_Mo_planAt 187 = some (.iconst 1, 1, .inr (.inr 0), false) := rfl
set_option maxRecDepth 20000 in
theorem lk_Mo_planAt_188 : sc_lk tb_Mo_planAt 188 = some (.iadd, 1, .inr (.inr 0), false) := rfl
set_option maxRecDepth 20000 in
theorem lk_Mo_planAt_189 : sc_lk tb_Mo_planAt 189 = some (.istore 9, 2, .inl (9, 0), false) := rfl
set_option maxRecDepth 20000 in
theorem lk_Mo_planAt_191 : sc_lk tb_Mo_planAt 191 = some (.iload 9, 2, .inl (9, 0), true) := rfl
set_option maxRecDepth 20000 in
theorem lk_Mo_planAt_193 : sc_lk tb_Mo_planAt 193 = some (.aload_n 0, 1, .inl (0, 0), false) := rfl
set_option maxRecDepth 20000 in
theorem lk_Mo_planAt_194 : sc_lk tb_Mo_planAt 194 = some (.getfield 80, 3, .inl (5, 5), false) := rfl
set_option maxRecDepth 20000 in
theorem lk_Mo_planAt_197 : sc_lk tb_Mo_planAt 197 = some (.if_icmp .ge 39, 3, .inl (236, 0), false) := rfl
set_option maxRecDepth 20000 in
theorem lk_Mo_planAt_200 : sc_lk tb_Mo_planAt 200 = some (.iload 8, 2, .inl (8, 0), false) := rfl
set_option maxRecDepth 20000 in
theorem lk_Mo_planAt_202 : sc_lk tb_Mo_planAt 202 = some (.ifCond .eq 34, 3, .inl (236, 0), false) := rfl
set_option maxRecDepth 20000 in
theorem lk_Mo_planAt_205 : sc_lk tb_Mo_planAt 205 = some (.aload_n 0, 1, .inl (0, 0), false) := rfl
set_option maxRecDepth 20000 in
theorem lk_Mo_planAt_206 : sc_lk tb_Mo_planAt 206 = some (.iload 9, 2, .inl (9, 0), false) := rfl
set_option maxRecDepth 20000 in
theorem lk_Mo_planAt_208 : sc_lk tb_Mo_planAt 208 = some (.invokevirtual 137, 3, .inr (.inl (5, 1, mq_Mo_isChoice)), false) := rfl
set_option maxRecDepth 20000 in
theorem lk_Mo_planAt_211 : sc_lk tb_Mo_planAt 211 = some (.ifCond .eq 12, 3, .inl (223, 0), false) := rfl
set_option maxRecDepth 20000 in
theorem lk_Mo_planAt_214 : sc_lk tb_Mo_planAt 214 = some (.aload_n 0, 1, .inl (0, 0), false) := rfl
set_option maxRecDepth 20000 in
theorem lk_Mo_planAt_215 : sc_lk tb_Mo_planAt 215 = some (.iload 9, 2, .inl (9, 0), false) := rfl
set_option maxRecDepth 20000 in
theorem lk_Mo_planAt_217 : sc_lk tb_Mo_planAt 217 = some (.invokevirtual 150, 3, .inr (.inl (5, 1, mq_Mo_goes)), false) := rfl
set_option maxRecDepth 20000 in
theorem lk_Mo_planAt_220 : sc_lk tb_Mo_planAt 220 = some (.ifCond .eq 7, 3, .inl (227, 0), false) := rfl
set_option maxRecDepth 20000 in
theorem lk_Mo_planAt_223 : sc_lk tb_Mo_planAt 223 = some (.iconst 1, 1, .inr (.inr 0), false) := rfl
set_option maxRecDepth 20000 in
theorem lk_Mo_planAt_224 : sc_lk tb_Mo_planAt 224 = some (.goto 4, 3, .inl (228, 0), false) := rfl
set_option maxRecDepth 20000 in
theorem lk_Mo_planAt_227 : sc_lk tb_Mo_planAt 227 = some (.iconst 0, 1, .inr (.inr 0), false) := rfl
set_option maxRecDepth 20000 in
theorem lk_Mo_planAt_228 : sc_lk tb_Mo_planAt 228 = some (.istore 8, 2, .inl (8, 0), false) := rfl
set_option maxRecDepth 20000 in
theorem lk_Mo_planAt_230 : sc_lk tb_Mo_planAt 230 = some (.iinc 9 1, 3, .inl (9, 0), false) := rfl
set_option maxRecDepth 20000 in
theorem lk_Mo_planAt_233 : sc_lk tb_Mo_planAt 233 = some (.goto (-42), 3, .inl (191, 0), false) := rfl
set_option maxRecDepth 20000 in
theorem lk_Mo_planAt_236 : sc_lk tb_Mo_planAt 236 = some (.aload_n 0, 1, .inl (0, 0), false) := rfl
set_option maxRecDepth 20000 in
theorem lk_Mo_planAt_237 : sc_lk tb_Mo_planAt 237 = some (.getfield 48, 3, .inl (5, 16), false) := rfl
set_option maxRecDepth 20000 in
theorem lk_Mo_planAt_240 : sc_lk tb_Mo_planAt 240 = some (.iconst 3, 1, .inr (.inr 0), false) := rfl
set_option maxRecDepth 20000 in
theorem lk_Mo_planAt_241 : sc_lk tb_Mo_planAt 241 = some (.iload 6, 2, .inl (6, 0), false) := rfl
set_option maxRecDepth 20000 in
theorem lk_Mo_planAt_243 : sc_lk tb_Mo_planAt 243 = some (.imul, 1, .inr (.inr 0), false) := rfl
set_option maxRecDepth 20000 in
theorem lk_Mo_planAt_244 : sc_lk tb_Mo_planAt 244 = some (.aload_n 0, 1, .inl (0, 0), false) := rfl
set_option maxRecDepth 20000 in
theorem lk_Mo_planAt_245 : sc_lk tb_Mo_planAt 245 = some (.getfield 42, 3, .inl (5, 14), false) := rfl
set_option maxRecDepth 20000 in
theorem lk_Mo_planAt_248 : sc_lk tb_Mo_planAt 248 = some (.iload_n 1, 1, .inl (1, 0), false) := rfl
set_option maxRecDepth 20000 in
theorem lk_Mo_planAt_249 : sc_lk tb_Mo_planAt 249 = some (.iaload, 1, .inr (.inr 0), false) := rfl
set_option maxRecDepth 20000 in
theorem lk_Mo_planAt_250 : sc_lk tb_Mo_planAt 250 = some (.iadd, 1, .inr (.inr 0), false) := rfl
set_option maxRecDepth 20000 in
theorem lk_Mo_planAt_251 : sc_lk tb_Mo_planAt 251 = some (.dup2, 1, .inr (.inr 0), false) := rfl
set_option maxRecDepth 20000 in
theorem lk_Mo_planAt_252 : sc_lk tb_Mo_planAt 252 = some (.laload, 1, .inr (.inr 0), false) := rfl
set_option maxRecDepth 20000 in
theorem lk_Mo_planAt_253 : sc_lk tb_Mo_planAt 253 = some (.iload 8, 2, .inl (8, 0), false) := rfl
set_option maxRecDepth 20000 in
theorem lk_Mo_planAt_255 : sc_lk tb_Mo_planAt 255 = some (.ifCond .eq 14, 3, .inl (269, 0), false) := rfl
set_option maxRecDepth 20000 in
theorem lk_Mo_planAt_258 : sc_lk tb_Mo_planAt 258 = some (.lload 4, 2, .inl (4, 0), false) := rfl
set_option maxRecDepth 20000 in
theorem lk_Mo_planAt_260 : sc_lk tb_Mo_planAt 260 = some (.aload_n 0, 1, .inl (0, 0), false) := rfl
set_option maxRecDepth 20000 in
theorem lk_Mo_planAt_261 : sc_lk tb_Mo_planAt 261 = some (.invokevirtual 153, 3, .inr (.inl (5, 0, mq_Mo_worthNow)), false) := rfl
set_option maxRecDepth 20000 in
theorem lk_Mo_planAt_264 : sc_lk tb_Mo_planAt 264 = some (.i2l, 1, .inr (.inr 0), false) := rfl
set_option maxRecDepth 20000 in
theorem lk_Mo_planAt_265 : sc_lk tb_Mo_planAt 265 = some (.lmul, 1, .inr (.inr 0), false) := rfl
set_option maxRecDepth 20000 in
theorem lk_Mo_planAt_266 : sc_lk tb_Mo_planAt 266 = some (.goto 4, 3, .inl (270, 0), false) := rfl
set_option maxRecDepth 20000 in
theorem lk_Mo_planAt_269 : sc_lk tb_Mo_planAt 269 = some (.lconst 0, 1, .inr (.inr 0), false) := rfl
set_option maxRecDepth 20000 in
theorem lk_Mo_planAt_270 : sc_lk tb_Mo_planAt 270 = some (.ladd, 1, .inr (.inr 0), false) := rfl
set_option maxRecDepth 20000 in
theorem lk_Mo_planAt_271 : sc_lk tb_Mo_planAt 271 = some (.lastore, 1, .inr (.inr 0), false) := rfl
set_option maxRecDepth 20000 in
theorem lk_Mo_planAt_272 : sc_lk tb_Mo_planAt 272 = some (.iinc 3 1, 3, .inl (3, 0), false) := rfl
set_option maxRecDepth 20000 in
theorem lk_Mo_planAt_275 : sc_lk tb_Mo_planAt 275 = some (.goto (-211), 3, .inl (64, 0), false) := rfl
set_option maxRecDepth 20000 in
theorem lk_Mo_planAt_278 : sc_lk tb_Mo_planAt 278 = some (.iconst 0, 1, .inr (.inr 0), false) := rfl
set_option maxRecDepth 20000 in
theorem lk_Mo_planAt_279 : sc_lk tb_Mo_planAt 279 = some (.istore_n 3, 1, .inl (3, 0), false) := rfl
set_option maxRecDepth 20000 in
theorem lk_Mo_planAt_280 : sc_lk tb_Mo_planAt 280 = some (.iload_n 3, 1, .inl (3, 0), true) := rfl
set_option maxRecDepth 20000 in
theorem lk_Mo_planAt_281 : sc_lk tb_Mo_planAt 281 = some (.sipush 243, 3, .inr (.inr 0), false) := rfl
set_option maxRecDepth 20000 in
theorem lk_Mo_planAt_284 : sc_lk tb_Mo_planAt 284 = some (.if_icmp .ge 90, 3, .inl (374, 0), false) := rfl
set_option maxRecDepth 20000 in
theorem lk_Mo_planAt_287 : sc_lk tb_Mo_planAt 287 = some (.iconst 0, 1, .inr (.inr 0), false) := rfl
set_option maxRecDepth 20000 in
theorem lk_Mo_planAt_288 : sc_lk tb_Mo_planAt 288 = some (.istore 4, 2, .inl (4, 0), false) := rfl
set_option maxRecDepth 20000 in
theorem lk_Mo_planAt_290 : sc_lk tb_Mo_planAt 290 = some (.iconst 1, 1, .inr (.inr 0), false) := rfl
set_option maxRecDepth 20000 in
theorem lk_Mo_planAt_291 : sc_lk tb_Mo_planAt 291 = some (.istore 5, 2, .inl (5, 0), false) := rfl
set_option maxRecDepth 20000 in
theorem lk_Mo_planAt_293 : sc_lk tb_Mo_planAt 293 = some (.iload 5, 2, .inl (5, 0), true) := rfl
set_option maxRecDepth 20000 in
theorem lk_Mo_planAt_295 : sc_lk tb_Mo_planAt 295 = some (.aload_n 0, 1, .inl (0, 0), false) := rfl
set_option maxRecDepth 20000 in
theorem lk_Mo_planAt_296 : sc_lk tb_Mo_planAt 296 = some (.getfield 20, 3, .inl (5, 7), false) := rfl
set_option maxRecDepth 20000 in
theorem lk_Mo_planAt_299 : sc_lk tb_Mo_planAt 299 = some (.iload_n 1, 1, .inl (1, 0), false) := rfl
set_option maxRecDepth 20000 in
theorem lk_Mo_planAt_300 : sc_lk tb_Mo_planAt 300 = some (.iaload, 1, .inr (.inr 0), false) := rfl
set_option maxRecDepth 20000 in
theorem lk_Mo_planAt_301 : sc_lk tb_Mo_planAt 301 = some (.if_icmp .ge 53, 3, .inl (354, 0), false) := rfl
set_option maxRecDepth 20000 in
theorem lk_Mo_planAt_304 : sc_lk tb_Mo_planAt 304 = some (.aload_n 0, 1, .inl (0, 0), false) := rfl
set_option maxRecDepth 20000 in
theorem lk_Mo_planAt_305 : sc_lk tb_Mo_planAt 305 = some (.getfield 52, 3, .inl (5, 17), false) := rfl
set_option maxRecDepth 20000 in
theorem lk_Mo_planAt_308 : sc_lk tb_Mo_planAt 308 = some (.iload_n 3, 1, .inl (3, 0), false) := rfl
set_option maxRecDepth 20000 in
theorem lk_Mo_planAt_309 : sc_lk tb_Mo_planAt 309 = some (.baload, 1, .inr (.inr 0), false) := rfl
set_option maxRecDepth 20000 in
theorem lk_Mo_planAt_310 : sc_lk tb_Mo_planAt 310 = some (.ifCond .eq 44, 3, .inl (354, 0), false) := rfl
set_option maxRecDepth 20000 in
theorem lk_Mo_planAt_313 : sc_lk tb_Mo_planAt 313 = some (.aload_n 0, 1, .inl (0, 0), false) := rfl
set_option maxRecDepth 20000 in
theorem lk_Mo_planAt_314 : sc_lk tb_Mo_planAt 314 = some (.getfield 48, 3, .inl (5, 16), false) := rfl
set_option maxRecDepth 20000 in
theorem lk_Mo_planAt_317 : sc_lk tb_Mo_planAt 317 = some (.iconst 3, 1, .inr (.inr 0), false) := rfl
set_option maxRecDepth 20000 in
theorem lk_Mo_planAt_318 : sc_lk tb_Mo_planAt 318 = some (.iload_n 3, 1, .inl (3, 0), false) := rfl
set_option maxRecDepth 20000 in
theorem lk_Mo_planAt_319 : sc_lk tb_Mo_planAt 319 = some (.imul, 1, .inr (.inr 0), false) := rfl
set_option maxRecDepth 20000 in
theorem lk_Mo_planAt_320 : sc_lk tb_Mo_planAt 320 = some (.iload 5, 2, .inl (5, 0), false) := rfl
set_option maxRecDepth 20000 in
theorem lk_Mo_planAt_322 : sc_lk tb_Mo_planAt 322 = some (.iadd, 1, .inr (.inr 0), false) := rfl
set_option maxRecDepth 20000 in
theorem lk_Mo_planAt_323 : sc_lk tb_Mo_planAt 323 = some (.laload, 1, .inr (.inr 0), false) := rfl
set_option maxRecDepth 20000 in
theorem lk_Mo_planAt_324 : sc_lk tb_Mo_planAt 324 = some (.aload_n 0, 1, .inl (0, 0), false) := rfl
set_option maxRecDepth 20000 in
theorem lk_Mo_planAt_325 : sc_lk tb_Mo_planAt 325 = some (.getfield 48, 3, .inl (5, 16), false) := rfl
set_option maxRecDepth 20000 in
theorem lk_Mo_planAt_328 : sc_lk tb_Mo_planAt 328 = some (.iconst 3, 1, .inr (.inr 0), false) := rfl
set_option maxRecDepth 20000 in
theorem lk_Mo_planAt_329 : sc_lk tb_Mo_planAt 329 = some (.iload_n 3, 1, .inl (3, 0), false) := rfl
set_option maxRecDepth 20000 in
theorem lk_Mo_planAt_330 : sc_lk tb_Mo_planAt 330 = some (.imul, 1, .inr (.inr 0), false) := rfl
set_option maxRecDepth 20000 in
theorem lk_Mo_planAt_331 : sc_lk tb_Mo_planAt 331 = some (.iload 4, 2, .inl (4, 0), false) := rfl
set_option maxRecDepth 20000 in
theorem lk_Mo_planAt_333 : sc_lk tb_Mo_planAt 333 = some (.iadd, 1, .inr (.inr 0), false) := rfl
set_option maxRecDepth 20000 in
theorem lk_Mo_planAt_334 : sc_lk tb_Mo_planAt 334 = some (.laload, 1, .inr (.inr 0), false) := rfl
set_option maxRecDepth 20000 in
theorem lk_Mo_planAt_335 : sc_lk tb_Mo_planAt 335 = some (.lcmp, 1, .inr (.inr 0), false) := rfl
set_option maxRecDepth 20000 in
theorem lk_Mo_planAt_336 : sc_lk tb_Mo_planAt 336 = some (.ifCond .le 8, 3, .inl (344, 0), false) := rfl
set_option maxRecDepth 20000 in
theorem lk_Mo_planAt_339 : sc_lk tb_Mo_planAt 339 = some (.iload 5, 2, .inl (5, 0), false) := rfl
set_option maxRecDepth 20000 in
theorem lk_Mo_planAt_341 : sc_lk tb_Mo_planAt 341 = some (.goto 5, 3, .inl (346, 0), false) := rfl
set_option maxRecDepth 20000 in
theorem lk_Mo_planAt_344 : sc_lk tb_Mo_planAt 344 = some (.iload 4, 2, .inl (4, 0), false) := rfl
set_option maxRecDepth 20000 in
theorem lk_Mo_planAt_346 : sc_lk tb_Mo_planAt 346 = some (.istore 4, 2, .inl (4, 0), false) := rfl
set_option maxRecDepth 20000 in
theorem lk_Mo_planAt_348 : sc_lk tb_Mo_planAt 348 = some (.iinc 5 1, 3, .inl (5, 0), false) := rfl
set_option maxRecDepth 20000 in
theorem lk_Mo_planAt_351 : sc_lk tb_Mo_planAt 351 = some (.goto (-58), 3, .inl (293, 0), false) := rfl
set_option maxRecDepth 20000 in
theorem lk_Mo_planAt_354 : sc_lk tb_Mo_planAt 354 = some (.aload_n 0, 1, .inl (0, 0), false) := rfl
set_option maxRecDepth 20000 in
theorem lk_Mo_planAt_355 : sc_lk tb_Mo_planAt 355 = some (.getfield 45, 3, .inl (5, 15), false) := rfl
set_option maxRecDepth 20000 in
theorem lk_Mo_planAt_358 : sc_lk tb_Mo_planAt 358 = some (.sipush 243, 3, .inr (.inr 0), false) := rfl
set_option maxRecDepth 20000 in
theorem lk_Mo_planAt_361 : sc_lk tb_Mo_planAt 361 = some (.iload_n 1, 1, .inl (1, 0), false) := rfl
set_option maxRecDepth 20000 in
theorem lk_Mo_planAt_362 : sc_lk tb_Mo_planAt 362 = some (.imul, 1, .inr (.inr 0), false) := rfl
set_option maxRecDepth 20000 in
theorem lk_Mo_planAt_363 : sc_lk tb_Mo_planAt 363 = some (.iload_n 3, 1, .inl (3, 0), false) := rfl
set_option maxRecDepth 20000 in
theorem lk_Mo_planAt_364 : sc_lk tb_Mo_planAt 364 = some (.iadd, 1, .inr (.inr 0), false) := rfl
set_option maxRecDepth 20000 in
theorem lk_Mo_planAt_365 : sc_lk tb_Mo_planAt 365 = some (.iload 4, 2, .inl (4, 0), false) := rfl
set_option maxRecDepth 20000 in
theorem lk_Mo_planAt_367 : sc_lk tb_Mo_planAt 367 = some (.iastore, 1, .inr (.inr 0), false) := rfl
set_option maxRecDepth 20000 in
theorem lk_Mo_planAt_368 : sc_lk tb_Mo_planAt 368 = some (.iinc 3 1, 3, .inl (3, 0), false) := rfl
set_option maxRecDepth 20000 in
theorem lk_Mo_planAt_371 : sc_lk tb_Mo_planAt 371 = some (.goto (-91), 3, .inl (280, 0), false) := rfl
set_option maxRecDepth 20000 in
theorem lk_Mo_planAt_374 : sc_lk tb_Mo_planAt 374 = some (.return_, 1, .inr (.inr 0), false) := rfl
def tb_Mo_setWorld : sc_T := [(0, .iload_n 1, 1, .inl (1, 0), false), (1, .istore_n 2, 1, .inl (2, 0), false), (2, .iconst 0, 1, .inr (.inr 0), false), (3, .istore_n 3, 1, .inl (3, 0), false), (4, .iload_n 3, 1, .inl (3, 0), true), (5, .aload_n 0, 1, .inl (0, 0), false), (6, .getfield 80, 3, .inl (5, 5), false), (9, .if_icmp .ge 48, 3, .inl (57, 0), false), (12, .aload_n 0, 1, .inl (0, 0), false), (13, .getfield 42, 3, .inl (5, 14), false), (16, .iload_n 3, 1, .inl (3, 0), false), (17, .iconst 0, 1, .inr (.inr 0), false), (18, .iastore, 1, .inr (.inr 0), false), (19, .aload_n 0, 1, .inl (0, 0), false), (20, .getfield 17, 3, .inl (5, 6), false), (23, .iload_n 3, 1, .inl (3, 0), false), (24, .iaload, 1, .inr (.inr 0), false), (25, .ifCond .eq 26, 3, .inl (51, 0), false), (28, .aload_n 0, 1, .inl (0, 0), false), (29, .getfield 42, 3, .inl (5, 14), false), (32, .iload_n 3, 1, .inl (3, 0), false), (33, .iload_n 2, 1, .inl (2, 0), false), (34, .aload_n 0, 1, .inl (0, 0), false), (35, .getfield 20, 3, .inl (5, 7), false), (38, .iload_n 3, 1, .inl (3, 0), false), (39, .iaload, 1, .inr (.inr 0), false), (40, .irem, 1, .inr (.inr 0), false), (41, .iastore, 1, .inr (.inr 0), false), (42, .iload_n 2, 1, .inl (2, 0), false), (43, .aload_n 0, 1, .inl (0, 0), false), (44, .getfield 20, 3, .inl (5, 7), false), (47, .iload_n 3, 1, .inl (3, 0), false), (48, .iaload, 1, .inr (.inr 0), false), (49, .idiv, 1, .inr (.inr 0), false), (50, .istore_n 2, 1, .inl (2, 0), false), (51, .iinc 3 1, 3, .inl (3, 0), false), (54, .goto (-50), 3, .inl (4, 0), false), (57, .return_, 1, .inr (.inr 0), false)]
theorem tk_Mo_setWorld : sc_ok mq_Mo_setWorld tb_Mo_setWorld = true := by decide +kernel
theorem lk_Mo_setWorld_0 : sc_lk tb_Mo_setWorld 0 = some (.iload_n 1, 1, .inl (1, 0), false) := rfl
theorem lk_Mo_setWorld_1 : sc_lk tb_Mo_setWorld 1 = some (.istore_n 2, 1, .inl (2, 0), false) := rfl
theorem lk_Mo_setWorld_2 : sc_lk tb_Mo_setWorld 2 = some (.iconst 0, 1, .inr (.inr 0), false) := rfl
theorem lk_Mo_setWorld_3 : sc_lk tb_Mo_setWorld 3 = some (.istore_n 3, 1, .inl (3, 0), false) := rfl
theorem lk_Mo_setWorld_4 : sc_lk tb_Mo_setWorld 4 = some (.iload_n 3, 1, .inl (3, 0), true) := rfl
theorem lk_Mo_setWorld_5 : sc_lk tb_Mo_setWorld 5 = some (.aload_n 0, 1, .inl (0, 0), false) := rfl
theorem lk_Mo_setWorld_6 : sc_lk tb_Mo_setWorld 6 = some (.getfield 80, 3, .inl (5, 5), false) := rfl
theorem lk_Mo_setWorld_9 : sc_lk tb_Mo_setWorld 9 = some (.if_icmp .ge 48, 3, .inl (57, 0), false) := rfl
theorem lk_Mo_setWorld_12 : sc_lk tb_Mo_setWorld 12 = some (.aload_n 0, 1, .inl (0, 0), false) := rfl
theorem lk_Mo_setWorld_13 : sc_lk tb_Mo_setWorld 13 = some (.getfield 42, 3, .inl (5, 14), false) := rfl
theorem lk_Mo_setWorld_16 : sc_lk tb_Mo_setWorld 16 = some (.iload_n 3, 1, .inl (3, 0), false) := rfl
theorem lk_Mo_setWorld_17 : sc_lk tb_Mo_setWorld 17 = some (.iconst 0, 1, .inr (.inr 0), false) := rfl
theorem lk_Mo_setWorld_18 : sc_lk tb_Mo_setWorld 18 = some (.iastore, 1, .inr (.inr 0), false) := rfl
theorem lk_Mo_setWorld_19 : sc_lk tb_Mo_setWorld 19 = some (.aload_n 0, 1, .inl (0, 0), false) := rfl
theorem lk_Mo_setWorld_20 : sc_lk tb_Mo_setWorld 20 = some (.getfield 17, 3, .inl (5, 6), false) := rfl
theorem lk_Mo_setWorld_23 : sc_lk tb_Mo_setWorld 23 = some (.iload_n 3, 1, .inl (3, 0), false) := rfl
theorem lk_Mo_setWorld_24 : sc_lk tb_Mo_setWorld 24 = some (.iaload, 1, .inr (.inr 0), false) := rfl
theorem lk_Mo_setWorld_25 : sc_lk tb_Mo_setWorld 25 = some (.ifCond .eq 26, 3, .inl (51, 0), false) := rfl
theorem lk_Mo_setWorld_28 : sc_lk tb_Mo_setWorld 28 = some (.aload_n 0, 1, .inl (0, 0), false) := rfl
theorem lk_Mo_setWorld_29 : sc_lk tb_Mo_setWorld 29 = some (.getfield 42, 3, .inl (5, 14), false) := rfl
theorem lk_Mo_setWorld_32 : sc_lk tb_Mo_setWorld 32 = some (.iload_n 3, 1, .inl (3, 0), false) := rfl
theorem lk_Mo_setWorld_33 : sc_lk tb_Mo_setWorld 33 = some (.iload_n 2, 1, .inl (2, 0), false) := rfl
theorem lk_Mo_setWorld_34 : sc_lk tb_Mo_setWorld 34 = some (.aload_n 0, 1, .inl (0, 0), false) := rfl
theorem lk_Mo_setWorld_35 : sc_lk tb_Mo_setWorld 35 = some (.getfield 20, 3, .inl (5, 7), false) := rfl
theorem lk_Mo_setWorld_38 : sc_lk tb_Mo_setWorld 38 = some (.iload_n 3, 1, .inl (3, 0), false) := rfl
theorem lk_Mo_setWorld_39 : sc_lk tb_Mo_setWorld 39 = some (.iaload, 1, .inr (.inr 0), false) := rfl
theorem lk_Mo_setWorld_40 : sc_lk tb_Mo_setWorld 40 = some (.irem, 1, .inr (.inr 0), false) := rfl
theorem lk_Mo_setWorld_41 : sc_lk tb_Mo_setWorld 41 = some (.iastore, 1, .inr (.inr 0), false) := rfl
theorem lk_Mo_setWorld_42 : sc_lk tb_Mo_setWorld 42 = some (.iload_n 2, 1, .inl (2, 0), false) := rfl
theorem lk_Mo_setWorld_43 : sc_lk tb_Mo_setWorld 43 = some (.aload_n 0, 1, .inl (0, 0), false) := rfl
theorem lk_Mo_setWorld_44 : sc_lk tb_Mo_setWorld 44 = some (.getfield 20, 3, .inl (5, 7), false) := rfl
theorem lk_Mo_setWorld_47 : sc_lk tb_Mo_setWorld 47 = some (.iload_n 3, 1, .inl (3, 0), false) := rfl
theorem lk_Mo_setWorld_48 : sc_lk tb_Mo_setWorld 48 = some (.iaload, 1, .inr (.inr 0), false) := rfl
theorem lk_Mo_setWorld_49 : sc_lk tb_Mo_setWorld 49 = some (.idiv, 1, .inr (.inr 0), false) := rfl
theorem lk_Mo_setWorld_50 : sc_lk tb_Mo_setWorld 50 = some (.istore_n 2, 1, .inl (2, 0), false) := rfl
theorem lk_Mo_setWorld_51 : sc_lk tb_Mo_setWorld 51 = some (.iinc 3 1, 3, .inl (3, 0), false) := rfl
theorem lk_Mo_setWorld_54 : sc_lk tb_Mo_setWorld 54 = some (.goto (-50), 3, .inl (4, 0), false) := rfl
theorem lk_Mo_setWorld_57 : sc_lk tb_Mo_setWorld 57 = some (.return_, 1, .inr (.inr 0), false) := rfl
def tb_Mo_weightNow : sc_T := [(0, .lconst 1, 1, .inr (.inr 1), false), (1, .lstore_n 1, 1, .inl (1, 0), false), (2, .iconst 0, 1, .inr (.inr 0), false), (3, .istore_n 3, 1, .inl (3, 0), false), (4, .iload_n 3, 1, .inl (3, 0), true), (5, .aload_n 0, 1, .inl (0, 0), false), (6, .getfield 80, 3, .inl (5, 5), false), (9, .if_icmp .ge 59, 3, .inl (68, 0), false), (12, .lload_n 1, 1, .inl (1, 0), false), (13, .aload_n 0, 1, .inl (0, 0), false), (14, .getfield 17, 3, .inl (5, 6), false), (17, .iload_n 3, 1, .inl (3, 0), false), (18, .iaload, 1, .inr (.inr 0), false), (19, .iconst 1, 1, .inr (.inr 0), false), (20, .if_icmp .ne 39, 3, .inl (59, 0), false), (23, .iload_n 3, 1, .inl (3, 0), false), (24, .aload_n 0, 1, .inl (0, 0), false), (25, .getfield 38, 3, .inl (5, 13), false), (28, .if_icmp .eq 31, 3, .inl (59, 0), false), (31, .aload_n 0, 1, .inl (0, 0), false), (32, .getfield 35, 3, .inl (5, 12), false), (35, .bipush 27, 2, .inr (.inr 0), false), (37, .iload_n 3, 1, .inl (3, 0), false), (38, .imul, 1, .inr (.inr 0), false), (39, .iconst 3, 1, .inr (.inr 0), false), (40, .aload_n 0, 1, .inl (0, 0), false), (41, .iload_n 3, 1, .inl (3, 0), false), (42, .invokevirtual 129, 3, .inr (.inl (5, 1, mq_Mo_rowNow)), false), (45, .imul, 1, .inr (.inr 0), false), (46, .iadd, 1, .inr (.inr 0), false), (47, .aload_n 0, 1, .inl (0, 0), false), (48, .getfield 42, 3, .inl (5, 14), false), (51, .iload_n 3, 1, .inl (3, 0), false), (52, .iaload, 1, .inr (.inr 0), false), (53, .iadd, 1, .inr (.inr 0), false), (54, .iaload, 1, .inr (.inr 0), false), (55, .i2l, 1, .inr (.inr 0), false), (56, .goto 4, 3, .inl (60, 0), false), (59, .lconst 1, 1, .inr (.inr 1), false), (60, .lmul, 1, .inr (.inr 0), false), (61, .lstore_n 1, 1, .inl (1, 0), false), (62, .iinc 3 1, 3, .inl (3, 0), false), (65, .goto (-61), 3, .inl (4, 0), false), (68, .lload_n 1, 1, .inl (1, 0), false), (69, .lreturn, 1, .inr (.inr 0), false)]
theorem tk_Mo_weightNow : sc_ok mq_Mo_weightNow tb_Mo_weightNow = true := by decide +kernel
theorem lk_Mo_weightNow_0 : sc_lk tb_Mo_weightNow 0 = some (.lconst 1, 1, .inr (.inr 1), false) := rfl
theorem lk_Mo_weightNow_1 : sc_lk tb_Mo_weightNow 1 = some (.lstore_n 1, 1, .inl (1, 0), false) := rfl
theorem lk_Mo_weightNow_2 : sc_lk tb_Mo_weightNow 2 = some (.iconst 0, 1, .inr (.inr 0), false) := rfl
theorem lk_Mo_weightNow_3 : sc_lk tb_Mo_weightNow 3 = some (.istore_n 3, 1, .inl (3, 0), false) := rfl
theorem lk_Mo_weightNow_4 : sc_lk tb_Mo_weightNow 4 = some (.iload_n 3, 1, .inl (3, 0), true) := rfl
theorem lk_Mo_weightNow_5 : sc_lk tb_Mo_weightNow 5 = some (.aload_n 0, 1, .inl (0, 0), false) := rfl
theorem lk_Mo_weightNow_6 : sc_lk tb_Mo_weightNow 6 = some (.getfield 80, 3, .inl (5, 5), false) := rfl
theorem lk_Mo_weightNow_9 : sc_lk tb_Mo_weightNow 9 = some (.if_icmp .ge 59, 3, .inl (68, 0), false) := rfl
theorem lk_Mo_weightNow_12 : sc_lk tb_Mo_weightNow 12 = some (.lload_n 1, 1, .inl (1, 0), false) := rfl
theorem lk_Mo_weightNow_13 : sc_lk tb_Mo_weightNow 13 = some (.aload_n 0, 1, .inl (0, 0), false) := rfl
theorem lk_Mo_weightNow_14 : sc_lk tb_Mo_weightNow 14 = some (.getfield 17, 3, .inl (5, 6), false) := rfl
theorem lk_Mo_weightNow_17 : sc_lk tb_Mo_weightNow 17 = some (.iload_n 3, 1, .inl (3, 0), false) := rfl
theorem lk_Mo_weightNow_18 : sc_lk tb_Mo_weightNow 18 = some (.iaload, 1, .inr (.inr 0), false) := rfl
theorem lk_Mo_weightNow_19 : sc_lk tb_Mo_weightNow 19 = some (.iconst 1, 1, .inr (.inr 0), false) := rfl
theorem lk_Mo_weightNow_20 : sc_lk tb_Mo_weightNow 20 = some (.if_icmp .ne 39, 3, .inl (59, 0), false) := rfl
theorem lk_Mo_weightNow_23 : sc_lk tb_Mo_weightNow 23 = some (.iload_n 3, 1, .inl (3, 0), false) := rfl
theorem lk_Mo_weightNow_24 : sc_lk tb_Mo_weightNow 24 = some (.aload_n 0, 1, .inl (0, 0), false) := rfl
theorem lk_Mo_weightNow_25 : sc_lk tb_Mo_weightNow 25 = some (.getfield 38, 3, .inl (5, 13), false) := rfl
theorem lk_Mo_weightNow_28 : sc_lk tb_Mo_weightNow 28 = some (.if_icmp .eq 31, 3, .inl (59, 0), false) := rfl
theorem lk_Mo_weightNow_31 : sc_lk tb_Mo_weightNow 31 = some (.aload_n 0, 1, .inl (0, 0), false) := rfl
theorem lk_Mo_weightNow_32 : sc_lk tb_Mo_weightNow 32 = some (.getfield 35, 3, .inl (5, 12), false) := rfl
theorem lk_Mo_weightNow_35 : sc_lk tb_Mo_weightNow 35 = some (.bipush 27, 2, .inr (.inr 0), false) := rfl
theorem lk_Mo_weightNow_37 : sc_lk tb_Mo_weightNow 37 = some (.iload_n 3, 1, .inl (3, 0), false) := rfl
theorem lk_Mo_weightNow_38 : sc_lk tb_Mo_weightNow 38 = some (.imul, 1, .inr (.inr 0), false) := rfl
theorem lk_Mo_weightNow_39 : sc_lk tb_Mo_weightNow 39 = some (.iconst 3, 1, .inr (.inr 0), false) := rfl
theorem lk_Mo_weightNow_40 : sc_lk tb_Mo_weightNow 40 = some (.aload_n 0, 1, .inl (0, 0), false) := rfl
theorem lk_Mo_weightNow_41 : sc_lk tb_Mo_weightNow 41 = some (.iload_n 3, 1, .inl (3, 0), false) := rfl
theorem lk_Mo_weightNow_42 : sc_lk tb_Mo_weightNow 42 = some (.invokevirtual 129, 3, .inr (.inl (5, 1, mq_Mo_rowNow)), false) := rfl
theorem lk_Mo_weightNow_45 : sc_lk tb_Mo_weightNow 45 = some (.imul, 1, .inr (.inr 0), false) := rfl
theorem lk_Mo_weightNow_46 : sc_lk tb_Mo_weightNow 46 = some (.iadd, 1, .inr (.inr 0), false) := rfl
theorem lk_Mo_weightNow_47 : sc_lk tb_Mo_weightNow 47 = some (.aload_n 0, 1, .inl (0, 0), false) := rfl
theorem lk_Mo_weightNow_48 : sc_lk tb_Mo_weightNow 48 = some (.getfield 42, 3, .inl (5, 14), false) := rfl
theorem lk_Mo_weightNow_51 : sc_lk tb_Mo_weightNow 51 = some (.iload_n 3, 1, .inl (3, 0), false) := rfl
theorem lk_Mo_weightNow_52 : sc_lk tb_Mo_weightNow 52 = some (.iaload, 1, .inr (.inr 0), false) := rfl
theorem lk_Mo_weightNow_53 : sc_lk tb_Mo_weightNow 53 = some (.iadd, 1, .inr (.inr 0), false) := rfl
theorem lk_Mo_weightNow_54 : sc_lk tb_Mo_weightNow 54 = some (.iaload, 1, .inr (.inr 0), false) := rfl
theorem lk_Mo_weightNow_55 : sc_lk tb_Mo_weightNow 55 = some (.i2l, 1, .inr (.inr 0), false) := rfl
theorem lk_Mo_weightNow_56 : sc_lk tb_Mo_weightNow 56 = some (.goto 4, 3, .inl (60, 0), false) := rfl
theorem lk_Mo_weightNow_59 : sc_lk tb_Mo_weightNow 59 = some (.lconst 1, 1, .inr (.inr 1), false) := rfl
theorem lk_Mo_weightNow_60 : sc_lk tb_Mo_weightNow 60 = some (.lmul, 1, .inr (.inr 0), false) := rfl
theorem lk_Mo_weightNow_61 : sc_lk tb_Mo_weightNow 61 = some (.lstore_n 1, 1, .inl (1, 0), false) := rfl
theorem lk_Mo_weightNow_62 : sc_lk tb_Mo_weightNow 62 = some (.iinc 3 1, 3, .inl (3, 0), false) := rfl
theorem lk_Mo_weightNow_65 : sc_lk tb_Mo_weightNow 65 = some (.goto (-61), 3, .inl (4, 0), false) := rfl
theorem lk_Mo_weightNow_68 : sc_lk tb_Mo_weightNow 68 = some (.lload_n 1, 1, .inl (1, 0), false) := rfl
theorem lk_Mo_weightNow_69 : sc_lk tb_Mo_weightNow 69 = some (.lreturn, 1, .inr (.inr 0), false) := rfl
def tb_Mo_rowNow : sc_T := [(0, .iconst 0, 1, .inr (.inr 0), false), (1, .istore_n 2, 1, .inl (2, 0), false), (2, .iconst 1, 1, .inr (.inr 0), false), (3, .istore_n 3, 1, .inl (3, 0), false), (4, .iconst 0, 1, .inr (.inr 0), false), (5, .istore 4, 2, .inl (4, 0), false), (7, .iload 4, 2, .inl (4, 0), true), (9, .aload_n 0, 1, .inl (0, 0), false), (10, .getfield 23, 3, .inl (5, 8), false), (13, .iload_n 1, 1, .inl (1, 0), false), (14, .iaload, 1, .inr (.inr 0), false), (15, .if_icmp .ge 44, 3, .inl (59, 0), false), (18, .aload_n 0, 1, .inl (0, 0), false), (19, .getfield 26, 3, .inl (5, 9), false), (22, .iconst 3, 1, .inr (.inr 0), false), (23, .iload_n 1, 1, .inl (1, 0), false), (24, .imul, 1, .inr (.inr 0), false), (25, .iload 4, 2, .inl (4, 0), false), (27, .iadd, 1, .inr (.inr 0), false), (28, .iaload, 1, .inr (.inr 0), false), (29, .istore 5, 2, .inl (5, 0), false), (31, .iload_n 2, 1, .inl (2, 0), false), (32, .iload_n 3, 1, .inl (3, 0), false), (33, .aload_n 0, 1, .inl (0, 0), false), (34, .getfield 42, 3, .inl (5, 14), false), (37, .iload 5, 2, .inl (5, 0), false), (39, .iaload, 1, .inr (.inr 0), false), (40, .imul, 1, .inr (.inr 0), false), (41, .iadd, 1, .inr (.inr 0), false), (42, .istore_n 2, 1, .inl (2, 0), false), (43, .iload_n 3, 1, .inl (3, 0), false), (44, .aload_n 0, 1, .inl (0, 0), false), (45, .getfield 20, 3, .inl (5, 7), false), (48, .iload 5, 2, .inl (5, 0), false), (50, .iaload, 1, .inr (.inr 0), false), (51, .imul, 1, .inr (.inr 0), false), (52, .istore_n 3, 1, .inl (3, 0), false), (53, .iinc 4 1, 3, .inl (4, 0), false), (56, .goto (-49), 3, .inl (7, 0), false), (59, .iload_n 2, 1, .inl (2, 0), false), (60, .ireturn, 1, .inr (.inr 0), false)]
theorem tk_Mo_rowNow : sc_ok mq_Mo_rowNow tb_Mo_rowNow = true := by decide +kernel
theorem lk_Mo_rowNow_0 : sc_lk tb_Mo_rowNow 0 = some (.iconst 0, 1, .inr (.inr 0), false) := rfl
theorem lk_Mo_rowNow_1 : sc_lk tb_Mo_rowNow 1 = some (.istore_n 2, 1, .inl (2, 0), false) := rfl
theorem lk_Mo_rowNow_2 : sc_lk tb_Mo_rowNow 2 = some (.iconst 1, 1, .inr (.inr 0), false) := rfl
theorem lk_Mo_rowNow_3 : sc_lk tb_Mo_rowNow 3 = some (.istore_n 3, 1, .inl (3, 0), false) := rfl
theorem lk_Mo_rowNow_4 : sc_lk tb_Mo_rowNow 4 = some (.iconst 0, 1, .inr (.inr 0), false) := rfl
theorem lk_Mo_rowNow_5 : sc_lk tb_Mo_rowNow 5 = some (.istore 4, 2, .inl (4, 0), false) := rfl
theorem lk_Mo_rowNow_7 : sc_lk tb_Mo_rowNow 7 = some (.iload 4, 2, .inl (4, 0), true) := rfl
theorem lk_Mo_rowNow_9 : sc_lk tb_Mo_rowNow 9 = some (.aload_n 0, 1, .inl (0, 0), false) := rfl
theorem lk_Mo_rowNow_10 : sc_lk tb_Mo_rowNow 10 = some (.getfield 23, 3, .inl (5, 8), false) := rfl
theorem lk_Mo_rowNow_13 : sc_lk tb_Mo_rowNow 13 = some (.iload_n 1, 1, .inl (1, 0), false) := rfl
theorem lk_Mo_rowNow_14 : sc_lk tb_Mo_rowNow 14 = some (.iaload, 1, .inr (.inr 0), false) := rfl
theorem lk_Mo_rowNow_15 : sc_lk tb_Mo_rowNow 15 = some (.if_icmp .ge 44, 3, .inl (59, 0), false) := rfl
theorem lk_Mo_rowNow_18 : sc_lk tb_Mo_rowNow 18 = some (.aload_n 0, 1, .inl (0, 0), false) := rfl
theorem lk_Mo_rowNow_19 : sc_lk tb_Mo_rowNow 19 = some (.getfield 26, 3, .inl (5, 9), false) := rfl
theorem lk_Mo_rowNow_22 : sc_lk tb_Mo_rowNow 22 = some (.iconst 3, 1, .inr (.inr 0), false) := rfl
theorem lk_Mo_rowNow_23 : sc_lk tb_Mo_rowNow 23 = some (.iload_n 1, 1, .inl (1, 0), false) := rfl
theorem lk_Mo_rowNow_24 : sc_lk tb_Mo_rowNow 24 = some (.imul, 1, .inr (.inr 0), false) := rfl
theorem lk_Mo_rowNow_25 : sc_lk tb_Mo_rowNow 25 = some (.iload 4, 2, .inl (4, 0), false) := rfl
theorem lk_Mo_rowNow_27 : sc_lk tb_Mo_rowNow 27 = some (.iadd, 1, .inr (.inr 0), false) := rfl
theorem lk_Mo_rowNow_28 : sc_lk tb_Mo_rowNow 28 = some (.iaload, 1, .inr (.inr 0), false) := rfl
theorem lk_Mo_rowNow_29 : sc_lk tb_Mo_rowNow 29 = some (.istore 5, 2, .inl (5, 0), false) := rfl
theorem lk_Mo_rowNow_31 : sc_lk tb_Mo_rowNow 31 = some (.iload_n 2, 1, .inl (2, 0), false) := rfl
theorem lk_Mo_rowNow_32 : sc_lk tb_Mo_rowNow 32 = some (.iload_n 3, 1, .inl (3, 0), false) := rfl
theorem lk_Mo_rowNow_33 : sc_lk tb_Mo_rowNow 33 = some (.aload_n 0, 1, .inl (0, 0), false) := rfl
theorem lk_Mo_rowNow_34 : sc_lk tb_Mo_rowNow 34 = some (.getfield 42, 3, .inl (5, 14), false) := rfl
theorem lk_Mo_rowNow_37 : sc_lk tb_Mo_rowNow 37 = some (.iload 5, 2, .inl (5, 0), false) := rfl
theorem lk_Mo_rowNow_39 : sc_lk tb_Mo_rowNow 39 = some (.iaload, 1, .inr (.inr 0), false) := rfl
theorem lk_Mo_rowNow_40 : sc_lk tb_Mo_rowNow 40 = some (.imul, 1, .inr (.inr 0), false) := rfl
theorem lk_Mo_rowNow_41 : sc_lk tb_Mo_rowNow 41 = some (.iadd, 1, .inr (.inr 0), false) := rfl
theorem lk_Mo_rowNow_42 : sc_lk tb_Mo_rowNow 42 = some (.istore_n 2, 1, .inl (2, 0), false) := rfl
theorem lk_Mo_rowNow_43 : sc_lk tb_Mo_rowNow 43 = some (.iload_n 3, 1, .inl (3, 0), false) := rfl
theorem lk_Mo_rowNow_44 : sc_lk tb_Mo_rowNow 44 = some (.aload_n 0, 1, .inl (0, 0), false) := rfl
theorem lk_Mo_rowNow_45 : sc_lk tb_Mo_rowNow 45 = some (.getfield 20, 3, .inl (5, 7), false) := rfl
theorem lk_Mo_rowNow_48 : sc_lk tb_Mo_rowNow 48 = some (.iload 5, 2, .inl (5, 0), false) := rfl
theorem lk_Mo_rowNow_50 : sc_lk tb_Mo_rowNow 50 = some (.iaload, 1, .inr (.inr 0), false) := rfl
theorem lk_Mo_rowNow_51 : sc_lk tb_Mo_rowNow 51 = some (.imul, 1, .inr (.inr 0), false) := rfl
theorem lk_Mo_rowNow_52 : sc_lk tb_Mo_rowNow 52 = some (.istore_n 3, 1, .inl (3, 0), false) := rfl
theorem lk_Mo_rowNow_53 : sc_lk tb_Mo_rowNow 53 = some (.iinc 4 1, 3, .inl (4, 0), false) := rfl
theorem lk_Mo_rowNow_56 : sc_lk tb_Mo_rowNow 56 = some (.goto (-49), 3, .inl (7, 0), false) := rfl
theorem lk_Mo_rowNow_59 : sc_lk tb_Mo_rowNow 59 = some (.iload_n 2, 1, .inl (2, 0), false) := rfl
theorem lk_Mo_rowNow_60 : sc_lk tb_Mo_rowNow 60 = some (.ireturn, 1, .inr (.inr 0), false) := rfl
