theorem d_No_init_0 : decode mq_No_init.2.1 0 = .ok (.aload_n 0, 1) := by decide +kernel
theorem d_No_init_1 : decode mq_No_init.2.1 1 = .ok (.invokespecial 3, 3) := by decide +kernel
theorem d_No_init_4 : decode mq_No_init.2.1 4 = .ok (.aload_n 0, 1) := by decide +kernel
theorem d_No_init_5 : decode mq_No_init.2.1 5 = .ok (.iconst 3, 1) := by decide +kernel
theorem d_No_init_6 : decode mq_No_init.2.1 6 = .ok (.newarray .int, 2) := by decide +kernel
theorem d_No_init_8 : decode mq_No_init.2.1 8 = .ok (.putfield 9, 3) := by decide +kernel
theorem d_No_init_11 : decode mq_No_init.2.1 11 = .ok (.aload_n 0, 1) := by decide +kernel
theorem d_No_init_12 : decode mq_No_init.2.1 12 = .ok (.bipush (27), 2) := by decide +kernel
theorem d_No_init_14 : decode mq_No_init.2.1 14 = .ok (.newarray .int, 2) := by decide +kernel
theorem d_No_init_16 : decode mq_No_init.2.1 16 = .ok (.putfield 15, 3) := by decide +kernel
theorem d_No_init_19 : decode mq_No_init.2.1 19 = .ok (.return_, 1) := by decide +kernel
theorem d_Ch_init_0 : decode mq_Ch_init.2.1 0 = .ok (.aload_n 0, 1) := by decide +kernel
theorem d_Ch_init_1 : decode mq_Ch_init.2.1 1 = .ok (.invokespecial 3, 3) := by decide +kernel
theorem d_Ch_init_4 : decode mq_Ch_init.2.1 4 = .ok (.aload_n 0, 1) := by decide +kernel
theorem d_Ch_init_5 : decode mq_Ch_init.2.1 5 = .ok (.bipush (10), 2) := by decide +kernel
theorem d_Ch_init_7 : decode mq_Ch_init.2.1 7 = .ok (.anewarray 9, 3) := by decide +kernel
theorem d_Ch_init_10 : decode mq_Ch_init.2.1 10 = .ok (.putfield 11, 3) := by decide +kernel
theorem d_Ch_init_13 : decode mq_Ch_init.2.1 13 = .ok (.aload_n 0, 1) := by decide +kernel
theorem d_Ch_init_14 : decode mq_Ch_init.2.1 14 = .ok (.iconst 1, 1) := by decide +kernel
theorem d_Ch_init_15 : decode mq_Ch_init.2.1 15 = .ok (.putfield 17, 3) := by decide +kernel
theorem d_Ch_init_18 : decode mq_Ch_init.2.1 18 = .ok (.iconst 0, 1) := by decide +kernel
theorem d_Ch_init_19 : decode mq_Ch_init.2.1 19 = .ok (.istore_n 1, 1) := by decide +kernel
theorem d_Ch_init_20 : decode mq_Ch_init.2.1 20 = .ok (.iload_n 1, 1) := by decide +kernel
theorem d_Ch_init_21 : decode mq_Ch_init.2.1 21 = .ok (.bipush (10), 2) := by decide +kernel
theorem d_Ch_init_23 : decode mq_Ch_init.2.1 23 = .ok (.if_icmp .ge 22, 3) := by decide +kernel
theorem d_Ch_init_26 : decode mq_Ch_init.2.1 26 = .ok (.aload_n 0, 1) := by decide +kernel
theorem d_Ch_init_27 : decode mq_Ch_init.2.1 27 = .ok (.getfield 11, 3) := by decide +kernel
theorem d_Ch_init_30 : decode mq_Ch_init.2.1 30 = .ok (.iload_n 1, 1) := by decide +kernel
theorem d_Ch_init_31 : decode mq_Ch_init.2.1 31 = .ok (.new 9, 3) := by decide +kernel
theorem d_Ch_init_34 : decode mq_Ch_init.2.1 34 = .ok (.dup, 1) := by decide +kernel
theorem d_Ch_init_35 : decode mq_Ch_init.2.1 35 = .ok (.invokespecial 21, 3) := by decide +kernel
theorem d_Ch_init_38 : decode mq_Ch_init.2.1 38 = .ok (.aastore, 1) := by decide +kernel
theorem d_Ch_init_39 : decode mq_Ch_init.2.1 39 = .ok (.iinc 1 1, 3) := by decide +kernel
theorem d_Ch_init_42 : decode mq_Ch_init.2.1 42 = .ok (.goto (-22), 3) := by decide +kernel
theorem d_Ch_init_45 : decode mq_Ch_init.2.1 45 = .ok (.return_, 1) := by decide +kernel
theorem d_Wo_init_0 : decode mq_Wo_init.2.1 0 = .ok (.aload_n 0, 1) := by decide +kernel
theorem d_Wo_init_1 : decode mq_Wo_init.2.1 1 = .ok (.invokespecial 3, 3) := by decide +kernel
theorem d_Wo_init_4 : decode mq_Wo_init.2.1 4 = .ok (.aload_n 0, 1) := by decide +kernel
theorem d_Wo_init_5 : decode mq_Wo_init.2.1 5 = .ok (.new 9, 3) := by decide +kernel
theorem d_Wo_init_8 : decode mq_Wo_init.2.1 8 = .ok (.dup, 1) := by decide +kernel
theorem d_Wo_init_9 : decode mq_Wo_init.2.1 9 = .ok (.invokespecial 11, 3) := by decide +kernel
theorem d_Wo_init_12 : decode mq_Wo_init.2.1 12 = .ok (.putfield 12, 3) := by decide +kernel
theorem d_Wo_init_15 : decode mq_Wo_init.2.1 15 = .ok (.aload_n 0, 1) := by decide +kernel
theorem d_Wo_init_16 : decode mq_Wo_init.2.1 16 = .ok (.bipush (10), 2) := by decide +kernel
theorem d_Wo_init_18 : decode mq_Wo_init.2.1 18 = .ok (.newarray .int, 2) := by decide +kernel
theorem d_Wo_init_20 : decode mq_Wo_init.2.1 20 = .ok (.putfield 18, 3) := by decide +kernel
theorem d_Wo_init_23 : decode mq_Wo_init.2.1 23 = .ok (.aload_n 0, 1) := by decide +kernel
theorem d_Wo_init_24 : decode mq_Wo_init.2.1 24 = .ok (.bipush (10), 2) := by decide +kernel
theorem d_Wo_init_26 : decode mq_Wo_init.2.1 26 = .ok (.newarray .int, 2) := by decide +kernel
theorem d_Wo_init_28 : decode mq_Wo_init.2.1 28 = .ok (.putfield 22, 3) := by decide +kernel
theorem d_Wo_init_31 : decode mq_Wo_init.2.1 31 = .ok (.aload_n 0, 1) := by decide +kernel
theorem d_Wo_init_32 : decode mq_Wo_init.2.1 32 = .ok (.sipush (243), 3) := by decide +kernel
theorem d_Wo_init_35 : decode mq_Wo_init.2.1 35 = .ok (.newarray .int, 2) := by decide +kernel
theorem d_Wo_init_37 : decode mq_Wo_init.2.1 37 = .ok (.putfield 25, 3) := by decide +kernel
theorem d_Wo_init_40 : decode mq_Wo_init.2.1 40 = .ok (.aload_n 0, 1) := by decide +kernel
theorem d_Wo_init_41 : decode mq_Wo_init.2.1 41 = .ok (.sipush (243), 3) := by decide +kernel
theorem d_Wo_init_44 : decode mq_Wo_init.2.1 44 = .ok (.newarray .int, 2) := by decide +kernel
theorem d_Wo_init_46 : decode mq_Wo_init.2.1 46 = .ok (.putfield 28, 3) := by decide +kernel
theorem d_Wo_init_49 : decode mq_Wo_init.2.1 49 = .ok (.aload_n 0, 1) := by decide +kernel
theorem d_Wo_init_50 : decode mq_Wo_init.2.1 50 = .ok (.sipush (243), 3) := by decide +kernel
theorem d_Wo_init_53 : decode mq_Wo_init.2.1 53 = .ok (.newarray .int, 2) := by decide +kernel
theorem d_Wo_init_55 : decode mq_Wo_init.2.1 55 = .ok (.putfield 31, 3) := by decide +kernel
theorem d_Wo_init_58 : decode mq_Wo_init.2.1 58 = .ok (.aload_n 0, 1) := by decide +kernel
theorem d_Wo_init_59 : decode mq_Wo_init.2.1 59 = .ok (.sipush (243), 3) := by decide +kernel
theorem d_Wo_init_62 : decode mq_Wo_init.2.1 62 = .ok (.newarray .long, 2) := by decide +kernel
theorem d_Wo_init_64 : decode mq_Wo_init.2.1 64 = .ok (.putfield 34, 3) := by decide +kernel
theorem d_Wo_init_67 : decode mq_Wo_init.2.1 67 = .ok (.aload_n 0, 1) := by decide +kernel
theorem d_Wo_init_68 : decode mq_Wo_init.2.1 68 = .ok (.sipush (243), 3) := by decide +kernel
theorem d_Wo_init_71 : decode mq_Wo_init.2.1 71 = .ok (.newarray .int, 2) := by decide +kernel
theorem d_Wo_init_73 : decode mq_Wo_init.2.1 73 = .ok (.putfield 38, 3) := by decide +kernel
theorem d_Wo_init_76 : decode mq_Wo_init.2.1 76 = .ok (.aload_n 0, 1) := by decide +kernel
theorem d_Wo_init_77 : decode mq_Wo_init.2.1 77 = .ok (.sipush (243), 3) := by decide +kernel
theorem d_Wo_init_80 : decode mq_Wo_init.2.1 80 = .ok (.newarray .int, 2) := by decide +kernel
theorem d_Wo_init_82 : decode mq_Wo_init.2.1 82 = .ok (.putfield 41, 3) := by decide +kernel
theorem d_Wo_init_85 : decode mq_Wo_init.2.1 85 = .ok (.return_, 1) := by decide +kernel
theorem d_Fo_init_0 : decode mq_Fo_init.2.1 0 = .ok (.aload_n 0, 1) := by decide +kernel
theorem d_Fo_init_1 : decode mq_Fo_init.2.1 1 = .ok (.invokespecial 3, 3) := by decide +kernel
theorem d_Fo_init_4 : decode mq_Fo_init.2.1 4 = .ok (.aload_n 0, 1) := by decide +kernel
theorem d_Fo_init_5 : decode mq_Fo_init.2.1 5 = .ok (.bipush (9), 2) := by decide +kernel
theorem d_Fo_init_7 : decode mq_Fo_init.2.1 7 = .ok (.newarray .int, 2) := by decide +kernel
theorem d_Fo_init_9 : decode mq_Fo_init.2.1 9 = .ok (.putfield 9, 3) := by decide +kernel
theorem d_Fo_init_12 : decode mq_Fo_init.2.1 12 = .ok (.aload_n 0, 1) := by decide +kernel
theorem d_Fo_init_13 : decode mq_Fo_init.2.1 13 = .ok (.sipush (243), 3) := by decide +kernel
theorem d_Fo_init_16 : decode mq_Fo_init.2.1 16 = .ok (.newarray .int, 2) := by decide +kernel
theorem d_Fo_init_18 : decode mq_Fo_init.2.1 18 = .ok (.putfield 15, 3) := by decide +kernel
theorem d_Fo_init_21 : decode mq_Fo_init.2.1 21 = .ok (.return_, 1) := by decide +kernel
theorem d_Sc_init_0 : decode mq_Sc_init.2.1 0 = .ok (.aload_n 0, 1) := by decide +kernel
theorem d_Sc_init_1 : decode mq_Sc_init.2.1 1 = .ok (.invokespecial 1, 3) := by decide +kernel
theorem d_Sc_init_4 : decode mq_Sc_init.2.1 4 = .ok (.aload_n 0, 1) := by decide +kernel
theorem d_Sc_init_5 : decode mq_Sc_init.2.1 5 = .ok (.new 7, 3) := by decide +kernel
theorem d_Sc_init_8 : decode mq_Sc_init.2.1 8 = .ok (.dup, 1) := by decide +kernel
theorem d_Sc_init_9 : decode mq_Sc_init.2.1 9 = .ok (.invokespecial 9, 3) := by decide +kernel
theorem d_Sc_init_12 : decode mq_Sc_init.2.1 12 = .ok (.putfield 10, 3) := by decide +kernel
theorem d_Sc_init_15 : decode mq_Sc_init.2.1 15 = .ok (.aload_n 0, 1) := by decide +kernel
theorem d_Sc_init_16 : decode mq_Sc_init.2.1 16 = .ok (.aload_n 0, 1) := by decide +kernel
theorem d_Sc_init_17 : decode mq_Sc_init.2.1 17 = .ok (.getfield 10, 3) := by decide +kernel
theorem d_Sc_init_20 : decode mq_Sc_init.2.1 20 = .ok (.getfield 16, 3) := by decide +kernel
theorem d_Sc_init_23 : decode mq_Sc_init.2.1 23 = .ok (.putfield 20, 3) := by decide +kernel
theorem d_Sc_init_26 : decode mq_Sc_init.2.1 26 = .ok (.aload_n 0, 1) := by decide +kernel
theorem d_Sc_init_27 : decode mq_Sc_init.2.1 27 = .ok (.new 21, 3) := by decide +kernel
theorem d_Sc_init_30 : decode mq_Sc_init.2.1 30 = .ok (.dup, 1) := by decide +kernel
theorem d_Sc_init_31 : decode mq_Sc_init.2.1 31 = .ok (.invokespecial 23, 3) := by decide +kernel
theorem d_Sc_init_34 : decode mq_Sc_init.2.1 34 = .ok (.putfield 24, 3) := by decide +kernel
theorem d_Sc_init_37 : decode mq_Sc_init.2.1 37 = .ok (.aload_n 0, 1) := by decide +kernel
theorem d_Sc_init_38 : decode mq_Sc_init.2.1 38 = .ok (.iconst 4, 1) := by decide +kernel
theorem d_Sc_init_39 : decode mq_Sc_init.2.1 39 = .ok (.bipush (27), 2) := by decide +kernel
theorem d_Sc_init_41 : decode mq_Sc_init.2.1 41 = .ok (.multianewarray 28 2, 4) := by decide +kernel
theorem d_Sc_init_45 : decode mq_Sc_init.2.1 45 = .ok (.putfield 30, 3) := by decide +kernel
theorem d_Sc_init_48 : decode mq_Sc_init.2.1 48 = .ok (.aload_n 0, 1) := by decide +kernel
theorem d_Sc_init_49 : decode mq_Sc_init.2.1 49 = .ok (.iconst 4, 1) := by decide +kernel
theorem d_Sc_init_50 : decode mq_Sc_init.2.1 50 = .ok (.newarray .int, 2) := by decide +kernel
theorem d_Sc_init_52 : decode mq_Sc_init.2.1 52 = .ok (.putfield 33, 3) := by decide +kernel
theorem d_Sc_init_55 : decode mq_Sc_init.2.1 55 = .ok (.aload_n 0, 1) := by decide +kernel
theorem d_Sc_init_56 : decode mq_Sc_init.2.1 56 = .ok (.getfield 33, 3) := by decide +kernel
theorem d_Sc_init_59 : decode mq_Sc_init.2.1 59 = .ok (.iconst (-1), 1) := by decide +kernel
theorem d_Sc_init_60 : decode mq_Sc_init.2.1 60 = .ok (.invokestatic 37, 3) := by decide +kernel
theorem d_Sc_init_63 : decode mq_Sc_init.2.1 63 = .ok (.aload_n 0, 1) := by decide +kernel
theorem d_Sc_init_64 : decode mq_Sc_init.2.1 64 = .ok (.bipush (6), 2) := by decide +kernel
theorem d_Sc_init_66 : decode mq_Sc_init.2.1 66 = .ok (.newarray .int, 2) := by decide +kernel
theorem d_Sc_init_68 : decode mq_Sc_init.2.1 68 = .ok (.putfield 43, 3) := by decide +kernel
theorem d_Sc_init_71 : decode mq_Sc_init.2.1 71 = .ok (.aload_n 0, 1) := by decide +kernel
theorem d_Sc_init_72 : decode mq_Sc_init.2.1 72 = .ok (.lconst 1, 1) := by decide +kernel
theorem d_Sc_init_73 : decode mq_Sc_init.2.1 73 = .ok (.putfield 46, 3) := by decide +kernel
theorem d_Sc_init_76 : decode mq_Sc_init.2.1 76 = .ok (.return_, 1) := by decide +kernel
theorem d_Mo_init_0 : decode mq_Mo_init.2.1 0 = .ok (.aload_n 0, 1) := by decide +kernel
theorem d_Mo_init_1 : decode mq_Mo_init.2.1 1 = .ok (.invokespecial 1, 3) := by decide +kernel
theorem d_Mo_init_4 : decode mq_Mo_init.2.1 4 = .ok (.aload_n 0, 1) := by decide +kernel
theorem d_Mo_init_5 : decode mq_Mo_init.2.1 5 = .ok (.bipush (6), 2) := by decide +kernel
theorem d_Mo_init_7 : decode mq_Mo_init.2.1 7 = .ok (.newarray .int, 2) := by decide +kernel
theorem d_Mo_init_9 : decode mq_Mo_init.2.1 9 = .ok (.putfield 7, 3) := by decide +kernel
theorem d_Mo_init_12 : decode mq_Mo_init.2.1 12 = .ok (.aload_n 0, 1) := by decide +kernel
theorem d_Mo_init_13 : decode mq_Mo_init.2.1 13 = .ok (.lconst 1, 1) := by decide +kernel
theorem d_Mo_init_14 : decode mq_Mo_init.2.1 14 = .ok (.putfield 13, 3) := by decide +kernel
theorem d_Mo_init_17 : decode mq_Mo_init.2.1 17 = .ok (.aload_n 0, 1) := by decide +kernel
theorem d_Mo_init_18 : decode mq_Mo_init.2.1 18 = .ok (.bipush (10), 2) := by decide +kernel
theorem d_Mo_init_20 : decode mq_Mo_init.2.1 20 = .ok (.newarray .int, 2) := by decide +kernel
theorem d_Mo_init_22 : decode mq_Mo_init.2.1 22 = .ok (.putfield 17, 3) := by decide +kernel
theorem d_Mo_init_25 : decode mq_Mo_init.2.1 25 = .ok (.aload_n 0, 1) := by decide +kernel
theorem d_Mo_init_26 : decode mq_Mo_init.2.1 26 = .ok (.bipush (10), 2) := by decide +kernel
theorem d_Mo_init_28 : decode mq_Mo_init.2.1 28 = .ok (.newarray .int, 2) := by decide +kernel
theorem d_Mo_init_30 : decode mq_Mo_init.2.1 30 = .ok (.putfield 20, 3) := by decide +kernel
theorem d_Mo_init_33 : decode mq_Mo_init.2.1 33 = .ok (.aload_n 0, 1) := by decide +kernel
theorem d_Mo_init_34 : decode mq_Mo_init.2.1 34 = .ok (.bipush (10), 2) := by decide +kernel
theorem d_Mo_init_36 : decode mq_Mo_init.2.1 36 = .ok (.newarray .int, 2) := by decide +kernel
theorem d_Mo_init_38 : decode mq_Mo_init.2.1 38 = .ok (.putfield 23, 3) := by decide +kernel
theorem d_Mo_init_41 : decode mq_Mo_init.2.1 41 = .ok (.aload_n 0, 1) := by decide +kernel
theorem d_Mo_init_42 : decode mq_Mo_init.2.1 42 = .ok (.bipush (30), 2) := by decide +kernel
theorem d_Mo_init_44 : decode mq_Mo_init.2.1 44 = .ok (.newarray .int, 2) := by decide +kernel
theorem d_Mo_init_46 : decode mq_Mo_init.2.1 46 = .ok (.putfield 26, 3) := by decide +kernel
theorem d_Mo_init_49 : decode mq_Mo_init.2.1 49 = .ok (.aload_n 0, 1) := by decide +kernel
theorem d_Mo_init_50 : decode mq_Mo_init.2.1 50 = .ok (.bipush (10), 2) := by decide +kernel
theorem d_Mo_init_52 : decode mq_Mo_init.2.1 52 = .ok (.newarray .int, 2) := by decide +kernel
theorem d_Mo_init_54 : decode mq_Mo_init.2.1 54 = .ok (.putfield 29, 3) := by decide +kernel
theorem d_Mo_init_57 : decode mq_Mo_init.2.1 57 = .ok (.aload_n 0, 1) := by decide +kernel
theorem d_Mo_init_58 : decode mq_Mo_init.2.1 58 = .ok (.bipush (10), 2) := by decide +kernel
theorem d_Mo_init_60 : decode mq_Mo_init.2.1 60 = .ok (.newarray .int, 2) := by decide +kernel
theorem d_Mo_init_62 : decode mq_Mo_init.2.1 62 = .ok (.putfield 32, 3) := by decide +kernel
theorem d_Mo_init_65 : decode mq_Mo_init.2.1 65 = .ok (.aload_n 0, 1) := by decide +kernel
theorem d_Mo_init_66 : decode mq_Mo_init.2.1 66 = .ok (.sipush (270), 3) := by decide +kernel
theorem d_Mo_init_69 : decode mq_Mo_init.2.1 69 = .ok (.newarray .int, 2) := by decide +kernel
theorem d_Mo_init_71 : decode mq_Mo_init.2.1 71 = .ok (.putfield 35, 3) := by decide +kernel
theorem d_Mo_init_74 : decode mq_Mo_init.2.1 74 = .ok (.aload_n 0, 1) := by decide +kernel
theorem d_Mo_init_75 : decode mq_Mo_init.2.1 75 = .ok (.bipush (-9), 2) := by decide +kernel
theorem d_Mo_init_77 : decode mq_Mo_init.2.1 77 = .ok (.putfield 38, 3) := by decide +kernel
theorem d_Mo_init_80 : decode mq_Mo_init.2.1 80 = .ok (.aload_n 0, 1) := by decide +kernel
theorem d_Mo_init_81 : decode mq_Mo_init.2.1 81 = .ok (.bipush (10), 2) := by decide +kernel
theorem d_Mo_init_83 : decode mq_Mo_init.2.1 83 = .ok (.newarray .int, 2) := by decide +kernel
theorem d_Mo_init_85 : decode mq_Mo_init.2.1 85 = .ok (.putfield 42, 3) := by decide +kernel
theorem d_Mo_init_88 : decode mq_Mo_init.2.1 88 = .ok (.aload_n 0, 1) := by decide +kernel
theorem d_Mo_init_89 : decode mq_Mo_init.2.1 89 = .ok (.sipush (2430), 3) := by decide +kernel
theorem d_Mo_init_92 : decode mq_Mo_init.2.1 92 = .ok (.newarray .int, 2) := by decide +kernel
theorem d_Mo_init_94 : decode mq_Mo_init.2.1 94 = .ok (.putfield 45, 3) := by decide +kernel
theorem d_Mo_init_97 : decode mq_Mo_init.2.1 97 = .ok (.aload_n 0, 1) := by decide +kernel
theorem d_Mo_init_98 : decode mq_Mo_init.2.1 98 = .ok (.sipush (729), 3) := by decide +kernel
theorem d_Mo_init_101 : decode mq_Mo_init.2.1 101 = .ok (.newarray .long, 2) := by decide +kernel
theorem d_Mo_init_103 : decode mq_Mo_init.2.1 103 = .ok (.putfield 48, 3) := by decide +kernel
theorem d_Mo_init_106 : decode mq_Mo_init.2.1 106 = .ok (.aload_n 0, 1) := by decide +kernel
theorem d_Mo_init_107 : decode mq_Mo_init.2.1 107 = .ok (.sipush (243), 3) := by decide +kernel
theorem d_Mo_init_110 : decode mq_Mo_init.2.1 110 = .ok (.newarray .boolean, 2) := by decide +kernel
theorem d_Mo_init_112 : decode mq_Mo_init.2.1 112 = .ok (.putfield 52, 3) := by decide +kernel
theorem d_Mo_init_115 : decode mq_Mo_init.2.1 115 = .ok (.aload_n 0, 1) := by decide +kernel
theorem d_Mo_init_116 : decode mq_Mo_init.2.1 116 = .ok (.bipush (10), 2) := by decide +kernel
theorem d_Mo_init_118 : decode mq_Mo_init.2.1 118 = .ok (.newarray .int, 2) := by decide +kernel
theorem d_Mo_init_120 : decode mq_Mo_init.2.1 120 = .ok (.putfield 56, 3) := by decide +kernel
theorem d_Mo_init_123 : decode mq_Mo_init.2.1 123 = .ok (.aload_n 0, 1) := by decide +kernel
theorem d_Mo_init_124 : decode mq_Mo_init.2.1 124 = .ok (.bipush (10), 2) := by decide +kernel
theorem d_Mo_init_126 : decode mq_Mo_init.2.1 126 = .ok (.newarray .int, 2) := by decide +kernel
theorem d_Mo_init_128 : decode mq_Mo_init.2.1 128 = .ok (.putfield 59, 3) := by decide +kernel
theorem d_Mo_init_131 : decode mq_Mo_init.2.1 131 = .ok (.aload_n 0, 1) := by decide +kernel
theorem d_Mo_init_132 : decode mq_Mo_init.2.1 132 = .ok (.iconst 4, 1) := by decide +kernel
theorem d_Mo_init_133 : decode mq_Mo_init.2.1 133 = .ok (.newarray .int, 2) := by decide +kernel
theorem d_Mo_init_135 : decode mq_Mo_init.2.1 135 = .ok (.putfield 62, 3) := by decide +kernel
theorem d_Mo_init_138 : decode mq_Mo_init.2.1 138 = .ok (.aload_n 0, 1) := by decide +kernel
theorem d_Mo_init_139 : decode mq_Mo_init.2.1 139 = .ok (.bipush (108), 2) := by decide +kernel
theorem d_Mo_init_141 : decode mq_Mo_init.2.1 141 = .ok (.newarray .int, 2) := by decide +kernel
theorem d_Mo_init_143 : decode mq_Mo_init.2.1 143 = .ok (.putfield 65, 3) := by decide +kernel
theorem d_Mo_init_146 : decode mq_Mo_init.2.1 146 = .ok (.aload_n 0, 1) := by decide +kernel
theorem d_Mo_init_147 : decode mq_Mo_init.2.1 147 = .ok (.bipush (27), 2) := by decide +kernel
theorem d_Mo_init_149 : decode mq_Mo_init.2.1 149 = .ok (.newarray .int, 2) := by decide +kernel
theorem d_Mo_init_151 : decode mq_Mo_init.2.1 151 = .ok (.putfield 68, 3) := by decide +kernel
theorem d_Mo_init_154 : decode mq_Mo_init.2.1 154 = .ok (.iconst 0, 1) := by decide +kernel
theorem d_Mo_init_155 : decode mq_Mo_init.2.1 155 = .ok (.istore_n 1, 1) := by decide +kernel
theorem d_Mo_init_156 : decode mq_Mo_init.2.1 156 = .ok (.iload_n 1, 1) := by decide +kernel
theorem d_Mo_init_157 : decode mq_Mo_init.2.1 157 = .ok (.iconst 4, 1) := by decide +kernel
theorem d_Mo_init_158 : decode mq_Mo_init.2.1 158 = .ok (.if_icmp .ge 17, 3) := by decide +kernel
theorem d_Mo_init_161 : decode mq_Mo_init.2.1 161 = .ok (.aload_n 0, 1) := by decide +kernel
theorem d_Mo_init_162 : decode mq_Mo_init.2.1 162 = .ok (.getfield 62, 3) := by decide +kernel
theorem d_Mo_init_165 : decode mq_Mo_init.2.1 165 = .ok (.iload_n 1, 1) := by decide +kernel
theorem d_Mo_init_166 : decode mq_Mo_init.2.1 166 = .ok (.bipush (-9), 2) := by decide +kernel
theorem d_Mo_init_168 : decode mq_Mo_init.2.1 168 = .ok (.iastore, 1) := by decide +kernel
theorem d_Mo_init_169 : decode mq_Mo_init.2.1 169 = .ok (.iinc 1 1, 3) := by decide +kernel
theorem d_Mo_init_172 : decode mq_Mo_init.2.1 172 = .ok (.goto (-16), 3) := by decide +kernel
theorem d_Mo_init_175 : decode mq_Mo_init.2.1 175 = .ok (.return_, 1) := by decide +kernel
theorem d_Ar_fillI_0 : decode mq_Ar_fillI.2.1 0 = .ok (.iconst 0, 1) := by decide +kernel
theorem d_Ar_fillI_1 : decode mq_Ar_fillI.2.1 1 = .ok (.istore_n 2, 1) := by decide +kernel
theorem d_Ar_fillI_2 : decode mq_Ar_fillI.2.1 2 = .ok (.aload_n 0, 1) := by decide +kernel
theorem d_Ar_fillI_3 : decode mq_Ar_fillI.2.1 3 = .ok (.arraylength, 1) := by decide +kernel
theorem d_Ar_fillI_4 : decode mq_Ar_fillI.2.1 4 = .ok (.istore_n 3, 1) := by decide +kernel
theorem d_Ar_fillI_5 : decode mq_Ar_fillI.2.1 5 = .ok (.iload_n 2, 1) := by decide +kernel
theorem d_Ar_fillI_6 : decode mq_Ar_fillI.2.1 6 = .ok (.iload_n 3, 1) := by decide +kernel
theorem d_Ar_fillI_7 : decode mq_Ar_fillI.2.1 7 = .ok (.if_icmp .ge 13, 3) := by decide +kernel
theorem d_Ar_fillI_10 : decode mq_Ar_fillI.2.1 10 = .ok (.aload_n 0, 1) := by decide +kernel
theorem d_Ar_fillI_11 : decode mq_Ar_fillI.2.1 11 = .ok (.iload_n 2, 1) := by decide +kernel
theorem d_Ar_fillI_12 : decode mq_Ar_fillI.2.1 12 = .ok (.iload_n 1, 1) := by decide +kernel
theorem d_Ar_fillI_13 : decode mq_Ar_fillI.2.1 13 = .ok (.iastore, 1) := by decide +kernel
theorem d_Ar_fillI_14 : decode mq_Ar_fillI.2.1 14 = .ok (.iinc 2 1, 3) := by decide +kernel
theorem d_Ar_fillI_17 : decode mq_Ar_fillI.2.1 17 = .ok (.goto (-12), 3) := by decide +kernel
theorem d_Ar_fillI_20 : decode mq_Ar_fillI.2.1 20 = .ok (.return_, 1) := by decide +kernel
/-! NODE -/
set_option maxHeartbeats 1000000 in
set_option maxRecDepth 100000 in
theorem ct_No_init (l : Launch) (G : sc_G) (h0 sz : Nat) (n : Nat) (hn : n < 10) : Met l mq_No_init.1 (sc_ws mq_No_init) (ct_rm 1 2 30) (va_Pc [.ref h0] (ck_pre G 2 [.int 0, .int 0, .int 0, .int 0, .int 0, .int 0, .int 0, .null, .null] h0 sz)) (ck_Q G (40 + 3 * n) [40 + 3 * n, 41 + 3 * n, 42 + 3 * n] h0 (va_A [(h0, .inr (2, [.int 0, .int 0, .int 0, .int 0, .int 0, .int 0, .int 0, .null, .null]))] sz)) 2 30 (va_A [(h0, .inr (2, [.int 0, .int 0, .int 0, .int 0, .int 0, .int 0, .int 0, .null, .null]))] sz) := by
  refine Met.ofW (cc := mq_No_init.2.1) (maxL := 1) (ret := none) (by decide) rfl ?_
  intro p e s m args below meth c s₁ B hml hv
  obtain ⟨rfl, hsz, hP, hK, hN⟩ := hv
  have hx := B.exec
  have hb := B.bytes
  have hr := B.returns
  have hg : ∀ w ∈ sc_gw, w.before ([Value.ref h0] : List Value).toArray s = true := fun w h => atoms_spec (ws := sc_ws mq_No_init) B.pre w (List.mem_cons_of_mem _ h)
  have hown : s.vm.findClass "SightChart$Node" = some m.cls := findClass_of_methodNamed B.named
  have hlocks := B.notSynchronized
  have hin : meth.name = "<init>" := (name_of_methodNamed B.named B.method).1
  subst hsz
  have hD : va_D (va_A [(h0, .inr (2, [.int 0, .int 0, .int 0, .int 0, .int 0, .int 0, .int 0, .null, .null]))] s.heap.size) [(h0, .inr (2, [.int 0, .int 0, .int 0, .int 0, .int 0, .int 0, .int 0, .null, .null]))] := ck_D_1 (va_A.in (k := 0) rfl)
  generalize hAe : va_A [(h0, .inr (2, [.int 0, .int 0, .int 0, .int 0, .int 0, .int 0, .int 0, .null, .null]))] s.heap.size = A at hD ⊢
  have hA : ∀ q : Nat, s.heap.size ≤ q → A q := fun q h => by rw [← hAe]; exact Or.inr h
  have hS : va_S A s.heap s.heap [] := va_S.rf
  show W p l e (ct_rm 1 2 30) s m _ below meth c s.heap [] 0 0 _ _
  have hl := lv_entry ([.ref h0]) (n := 1) (Nat.le_of_ble_eq_true rfl)
  rw [lg_entry_eq]
  generalize (lg_sl ([.ref h0]) ++ List.replicate (1 - (lg_sl ([.ref h0])).length) Slot.unset).toArray = ls at hl ⊢
  have hl : lv_has ls 1 [(0, .ref h0)] := hl
  have hP : va_P G.1 vwCl ([(h0, .inr (2, [.int 0, .int 0, .int 0, .int 0, .int 0, .int 0, .int 0, .null, .null]))]) _ := hP
  have hD : va_D A ([(h0, .inr (2, [.int 0, .int 0, .int 0, .int 0, .int 0, .int 0, .int 0, .null, .null]))]) := hD
  refine lv_aload_n hx hb d_No_init_0 rfl (lv_at hl 0 rfl) ?_
  refine W.objInit hx hb hown (hg (.methodLink "SightChart$Node" 3 Lib.objectInit) (sc_mem_ok (by decide +kernel))) (hg (.instanceMethod Lib.objectInit) (sc_mem_ok (by decide +kernel))) (hg _ ck_obj) rfl (by rw [hml]; exact hl.1) rfl d_No_init_1 (Nat.le_of_ble_eq_true rfl) (Nat.le_of_ble_eq_true rfl) ?_
  refine W.eq (g2 := F0 m 4 ls []) rfl ?_
  refine lv_aload_n hx hb d_No_init_4 rfl (lv_at hl 0 rfl) ?_
  refine lv_iconst (v := 3) hx hb d_No_init_5 (by decide) ?_
  refine ck_newa (atype := .int) (ty := .int) (t0 := 0) (cA := G.2.1 0) (N' := 3) (a0 := (3, .inl (fun _ => 0))) hx hb (hg (.arrayClass (newarray.typeOf .int)) (sc_mem_ok (by decide +kernel))) rfl hK rfl hP hD hS hA (fun _ => rfl) (by decide +kernel) (by decide +kernel) (ck_by (by decide) (by decide)) (by decide) (by decide) d_No_init_6 (fun q1 H hP hD hS => ?_)
  have hP : va_P G.1 vwCl ((h0, .inr (2, [.int 0, .int 0, .int 0, .int 0, .int 0, .int 0, .int 0, .null, .null])) :: ([(q1, .inl (G.2.1 0, 3, .inl (fun _ => 0)))])) H := hP
  have hD : va_D A ((h0, .inr (2, [.int 0, .int 0, .int 0, .int 0, .int 0, .int 0, .int 0, .null, .null])) :: ([(q1, .inl (G.2.1 0, 3, .inl (fun _ => 0)))])) := hD
  refine W.widen (k := 1) (n := 3) (by omega) (by omega) ?_
  refine va_putF (D := G.1) (ci := 2) (v := .ref q1) (ty := .array .int) (C := RX2) (T := TX2) (N := 9) hx hb hg sc_in2 tyX2 tyX2_ok nmX2 hown hK hP hD hS 0 rfl rfl 7 (by decide) (hg (.fieldLink "SightChart$Node" 9 "SightChart$Node" "parents" "[I") (sc_mem_ok (by decide +kernel))) (fun _ h9 => h9) rfl hin rfl (by decide +kernel) rfl rfl (Nat.le_of_ble_eq_true rfl) d_No_init_8 (fun H locs hP hD hS => ?_)
  have hP : va_P G.1 vwCl ((h0, .inr (2, [.int 0, .int 0, .int 0, .int 0, .int 0, .int 0, .int 0, .ref q1, .null])) :: ([(q1, .inl (G.2.1 0, 3, .inl (fun _ => 0)))])) H := hP
  have hD : va_D A ((h0, .inr (2, [.int 0, .int 0, .int 0, .int 0, .int 0, .int 0, .int 0, .ref q1, .null])) :: ([(q1, .inl (G.2.1 0, 3, .inl (fun _ => 0)))])) := hD
  refine lv_aload_n hx hb d_No_init_11 rfl (lv_at hl 0 rfl) ?_
  refine lv_bipush (v := 27) hx hb d_No_init_12 (by decide) ?_
  refine ck_newa (atype := .int) (ty := .int) (t0 := 0) (cA := G.2.1 0) (N' := 27) (a0 := (27, .inl (fun _ => 0))) hx hb (hg (.arrayClass (newarray.typeOf .int)) (sc_mem_ok (by decide +kernel))) rfl hK rfl hP hD hS hA (fun _ => rfl) (by decide +kernel) (by decide +kernel) (ck_by (by decide) (by decide)) (by decide) (by decide) d_No_init_14 (fun q2 H hP hD hS => ?_)
  have hP : va_P G.1 vwCl ((h0, .inr (2, [.int 0, .int 0, .int 0, .int 0, .int 0, .int 0, .int 0, .ref q1, .null])) :: ([(q1, .inl (G.2.1 0, 3, .inl (fun _ => 0)))] ++ [(q2, .inl (G.2.1 0, 27, .inl (fun _ => 0)))])) H := hP
  have hD : va_D A ((h0, .inr (2, [.int 0, .int 0, .int 0, .int 0, .int 0, .int 0, .int 0, .ref q1, .null])) :: ([(q1, .inl (G.2.1 0, 3, .inl (fun _ => 0)))] ++ [(q2, .inl (G.2.1 0, 27, .inl (fun _ => 0)))])) := hD
  refine W.widen (k := 2) (n := 30) (by omega) (by omega) ?_
  refine va_putF (D := G.1) (ci := 2) (v := .ref q2) (ty := .array .int) (C := RX2) (T := TX2) (N := 9) hx hb hg sc_in2 tyX2 tyX2_ok nmX2 hown hK hP hD hS 0 rfl rfl 8 (by decide) (hg (.fieldLink "SightChart$Node" 15 "SightChart$Node" "table" "[I") (sc_mem_ok (by decide +kernel))) (fun _ h9 => h9) rfl hin rfl (by decide +kernel) rfl rfl (Nat.le_of_ble_eq_true rfl) d_No_init_16 (fun H locs hP hD hS => ?_)
  have hP : va_P G.1 vwCl ((h0, .inr (2, [.int 0, .int 0, .int 0, .int 0, .int 0, .int 0, .int 0, .ref q1, .ref q2])) :: ([(q1, .inl (G.2.1 0, 3, .inl (fun _ => 0)))] ++ [(q2, .inl (G.2.1 0, 27, .inl (fun _ => 0)))])) H := hP
  have hD : va_D A ((h0, .inr (2, [.int 0, .int 0, .int 0, .int 0, .int 0, .int 0, .int 0, .ref q1, .ref q2])) :: ([(q1, .inl (G.2.1 0, 3, .inl (fun _ => 0)))] ++ [(q2, .inl (G.2.1 0, 27, .inl (fun _ => 0)))])) := hD
  have e : ck_w G (fun a => if a = 40 + 3 * n then h0 else if a = 41 + 3 * n then q1 else q2) [40 + 3 * n, 41 + 3 * n, 42 + 3 * n] = (h0, .inr (2, [.int 0, .int 0, .int 0, .int 0, .int 0, .int 0, .int 0, .ref q1, .ref q2])) :: ([(q1, .inl (G.2.1 0, 3, .inl (fun _ => 0)))] ++ [(q2, .inl (G.2.1 0, 27, .inl (fun _ => 0)))]) := by
    rw [ck_w_N G _ n hn]
    simp only [if_true, show ¬ 41 + 3 * n = 40 + 3 * n by omega, show ¬ 42 + 3 * n = 40 + 3 * n by omega, show ¬ 42 + 3 * n = 41 + 3 * n by omega, if_false]
    rfl
  refine W.vret hx hb hr (fun t ht hW => ⟨⟨(fun a => if a = 40 + 3 * n then h0 else if a = 41 + 3 * n then q1 else q2), rfl, if_pos rfl, by rw [ht, e]; exact hP, by rw [e]; exact hD⟩, hS.F ht⟩) hS.2.2 d_No_init_19
/-! FORGETTING -/
set_option maxHeartbeats 1000000 in
set_option maxRecDepth 100000 in
theorem ct_Fo_init (l : Launch) (G : sc_G) (h0 sz : Nat) : Met l mq_Fo_init.1 (sc_ws mq_Fo_init) (ct_rm 1 2 252) (va_Pc [.ref h0] (ck_pre G 1 [.null, .null, .int 0, .int 0] h0 sz)) (ck_Q G 12 [12, 13, 14] h0 (va_A [(h0, .inr (1, [.null, .null, .int 0, .int 0]))] sz)) 2 252 (va_A [(h0, .inr (1, [.null, .null, .int 0, .int 0]))] sz) := by
  refine Met.ofW (cc := mq_Fo_init.2.1) (maxL := 1) (ret := none) (by decide) rfl ?_
  intro p e s m args below meth c s₁ B hml hv
  obtain ⟨rfl, hsz, hP, hK, hN⟩ := hv
  have hx := B.exec
  have hb := B.bytes
  have hr := B.returns
  have hg : ∀ w ∈ sc_gw, w.before ([Value.ref h0] : List Value).toArray s = true := fun w h => atoms_spec (ws := sc_ws mq_Fo_init) B.pre w (List.mem_cons_of_mem _ h)
  have hown : s.vm.findClass "SightChart$Forgetting" = some m.cls := findClass_of_methodNamed B.named
  have hlocks := B.notSynchronized
  have hin : meth.name = "<init>" := (name_of_methodNamed B.named B.method).1
  subst hsz
  have hD : va_D (va_A [(h0, .inr (1, [.null, .null, .int 0, .int 0]))] s.heap.size) [(h0, .inr (1, [.null, .null, .int 0, .int 0]))] := ck_D_1 (va_A.in (k := 0) rfl)
  generalize hAe : va_A [(h0, .inr (1, [.null, .null, .int 0, .int 0]))] s.heap.size = A at hD ⊢
  have hA : ∀ q : Nat, s.heap.size ≤ q → A q := fun q h => by rw [← hAe]; exact Or.inr h
  have hS : va_S A s.heap s.heap [] := va_S.rf
  show W p l e (ct_rm 1 2 252) s m _ below meth c s.heap [] 0 0 _ _
  have hl := lv_entry ([.ref h0]) (n := 1) (Nat.le_of_ble_eq_true rfl)
  rw [lg_entry_eq]
  generalize (lg_sl ([.ref h0]) ++ List.replicate (1 - (lg_sl ([.ref h0])).length) Slot.unset).toArray = ls at hl ⊢
  have hl : lv_has ls 1 [(0, .ref h0)] := hl
  have hP : va_P G.1 vwCl ([(h0, .inr (1, [.null, .null, .int 0, .int 0]))]) _ := hP
  have hD : va_D A ([(h0, .inr (1, [.null, .null, .int 0, .int 0]))]) := hD
  refine lv_aload_n hx hb d_Fo_init_0 rfl (lv_at hl 0 rfl) ?_
  refine W.objInit hx hb hown (hg (.methodLink "SightChart$Forgetting" 3 Lib.objectInit) (sc_mem_ok (by decide +kernel))) (hg (.instanceMethod Lib.objectInit) (sc_mem_ok (by decide +kernel))) (hg _ ck_obj) rfl (by rw [hml]; exact hl.1) rfl d_Fo_init_1 (Nat.le_of_ble_eq_true rfl) (Nat.le_of_ble_eq_true rfl) ?_
  refine W.eq (g2 := F0 m 4 ls []) rfl ?_
  refine lv_aload_n hx hb d_Fo_init_4 rfl (lv_at hl 0 rfl) ?_
  refine lv_bipush (v := 9) hx hb d_Fo_init_5 (by decide) ?_
  refine ck_newa (atype := .int) (ty := .int) (t0 := 0) (cA := G.2.1 0) (N' := 9) (a0 := (9, .inl (fun _ => 0))) hx hb (hg (.arrayClass (newarray.typeOf .int)) (sc_mem_ok (by decide +kernel))) rfl hK rfl hP hD hS hA (fun _ => rfl) (by decide +kernel) (by decide +kernel) (ck_by (by decide) (by decide)) (by decide) (by decide) d_Fo_init_7 (fun q1 H hP hD hS => ?_)
  have hP : va_P G.1 vwCl ((h0, .inr (1, [.null, .null, .int 0, .int 0])) :: ([(q1, .inl (G.2.1 0, 9, .inl (fun _ => 0)))])) H := hP
  have hD : va_D A ((h0, .inr (1, [.null, .null, .int 0, .int 0])) :: ([(q1, .inl (G.2.1 0, 9, .inl (fun _ => 0)))])) := hD
  refine W.widen (k := 1) (n := 9) (by omega) (by omega) ?_
  refine va_putF (D := G.1) (ci := 1) (v := .ref q1) (ty := .array .int) (C := RX1) (T := TX1) (N := 4) hx hb hg sc_in1 tyX1 tyX1_ok nmX1 hown hK hP hD hS 0 rfl rfl 0 (by decide) (hg (.fieldLink "SightChart$Forgetting" 9 "SightChart$Forgetting" "slotStates" "[I") (sc_mem_ok (by decide +kernel))) (fun _ h9 => h9) rfl hin rfl (by decide +kernel) rfl rfl (Nat.le_of_ble_eq_true rfl) d_Fo_init_9 (fun H locs hP hD hS => ?_)
  have hP : va_P G.1 vwCl ((h0, .inr (1, [.ref q1, .null, .int 0, .int 0])) :: ([(q1, .inl (G.2.1 0, 9, .inl (fun _ => 0)))])) H := hP
  have hD : va_D A ((h0, .inr (1, [.ref q1, .null, .int 0, .int 0])) :: ([(q1, .inl (G.2.1 0, 9, .inl (fun _ => 0)))])) := hD
  refine lv_aload_n hx hb d_Fo_init_12 rfl (lv_at hl 0 rfl) ?_
  refine lv_sipush (v := 243) hx hb d_Fo_init_13 (by decide) ?_
  refine ck_newa (atype := .int) (ty := .int) (t0 := 0) (cA := G.2.1 0) (N' := 243) (a0 := (243, .inl (fun _ => 0))) hx hb (hg (.arrayClass (newarray.typeOf .int)) (sc_mem_ok (by decide +kernel))) rfl hK rfl hP hD hS hA (fun _ => rfl) (by decide +kernel) (by decide +kernel) (ck_by (by decide) (by decide)) (by decide) (by decide) d_Fo_init_16 (fun q2 H hP hD hS => ?_)
  have hP : va_P G.1 vwCl ((h0, .inr (1, [.ref q1, .null, .int 0, .int 0])) :: ([(q1, .inl (G.2.1 0, 9, .inl (fun _ => 0)))] ++ [(q2, .inl (G.2.1 0, 243, .inl (fun _ => 0)))])) H := hP
  have hD : va_D A ((h0, .inr (1, [.ref q1, .null, .int 0, .int 0])) :: ([(q1, .inl (G.2.1 0, 9, .inl (fun _ => 0)))] ++ [(q2, .inl (G.2.1 0, 243, .inl (fun _ => 0)))])) := hD
  refine W.widen (k := 2) (n := 252) (by omega) (by omega) ?_
  refine va_putF (D := G.1) (ci := 1) (v := .ref q2) (ty := .array .int) (C := RX1) (T := TX1) (N := 4) hx hb hg sc_in1 tyX1 tyX1_ok nmX1 hown hK hP hD hS 0 rfl rfl 1 (by decide) (hg (.fieldLink "SightChart$Forgetting" 15 "SightChart$Forgetting" "need" "[I") (sc_mem_ok (by decide +kernel))) (fun _ h9 => h9) rfl hin rfl (by decide +kernel) rfl rfl (Nat.le_of_ble_eq_true rfl) d_Fo_init_18 (fun H locs hP hD hS => ?_)
  have hP : va_P G.1 vwCl ((h0, .inr (1, [.ref q1, .ref q2, .int 0, .int 0])) :: ([(q1, .inl (G.2.1 0, 9, .inl (fun _ => 0)))] ++ [(q2, .inl (G.2.1 0, 243, .inl (fun _ => 0)))])) H := hP
  have hD : va_D A ((h0, .inr (1, [.ref q1, .ref q2, .int 0, .int 0])) :: ([(q1, .inl (G.2.1 0, 9, .inl (fun _ => 0)))] ++ [(q2, .inl (G.2.1 0, 243, .inl (fun _ => 0)))])) := hD
  have e : ck_w G (fun a => if a = 12 then h0 else if a = 13 then q1 else q2) [12, 13, 14] = (h0, .inr (1, [.ref q1, .ref q2, .int 0, .int 0])) :: ([(q1, .inl (G.2.1 0, 9, .inl (fun _ => 0)))] ++ [(q2, .inl (G.2.1 0, 243, .inl (fun _ => 0)))]) := by
    unfold ck_w
    rw [List.map_cons, List.map_cons, List.map_cons, List.map_nil, ck_cel_12, ck_cel_13, ck_cel_14]
    rfl
  refine W.vret hx hb hr (fun t ht hW => ⟨⟨(fun a => if a = 12 then h0 else if a = 13 then q1 else q2), rfl, rfl, by rw [ht, e]; exact hP, by rw [e]; exact hD⟩, hS.F ht⟩) hS.2.2 d_Fo_init_21
