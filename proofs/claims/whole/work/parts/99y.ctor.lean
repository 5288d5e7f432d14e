theorem d_No_init_0 : decode mq_No_init.2.1 0 = .ok (.aload_n 0, 1) := by decide +kernel
theorem d_No_init_1 : decode mq_No_init.2.1 1 = .ok (.invokespecial 3, 3) := by decide +kernel
theorem d_No_init_4 : decode mq_No_init.2.1 4 = .ok (.aload_n 0, 1) := by decide +kernel
theorem d_No_init_5 : decode mq_No_init.2.1 5 = .ok (.iconst 3, 1) := by decide +kernel
theorem d_No_init_6 : decode mq_No_init.2.1 6 = .ok (.newarray .int, 2) := by decide +kernel
theorem d_No_init_8 : decode mq_No_init.2.1 8 = .ok (.putfield 9, 3) := by decide +kernel
theorem d_No_init_11 : decode mq_No_init.2.1 11 = .ok (.aload_n 0, 1) := by decide +kernel
theorem d_No_init_12 : decode mq_No_init.2.1 12 = .ok (.bipush (27), 2) := by decide +kernel
theorem d_No_init_14 : decode mq_No_init.2.1 14 = .ok (.newarray .int, 2) := by decide +kernel
theorem d_No_init_16 : decode mq_No_init.2.1 16 = .ok (.putfield 15, 3) := by decide +kernel
theorem d_No_init_19 : decode mq_No_init.2.1 19 = .ok (.return_, 1) := by decide +kernel
theorem d_Ch_init_0 : decode mq_Ch_init.2.1 0 = .ok (.aload_n 0, 1) := by decide +kernel
theorem d_Ch_init_1 : decode mq_Ch_init.2.1 1 = .ok (.invokespecial 3, 3) := by decide +kernel
theorem d_Ch_init_4 : decode mq_Ch_init.2.1 4 = .ok (.aload_n 0, 1) := by decide +kernel
theorem d_Ch_init_5 : decode mq_Ch_init.2.1 5 = .ok (.bipush (10), 2) := by decide +kernel
theorem d_Ch_init_7 : decode mq_Ch_init.2.1 7 = .ok (.anewarray 9, 3) := by decide +kernel
theorem d_Ch_init_10 : decode mq_Ch_init.2.1 10 = .ok (.putfield 11, 3) := by decide +kernel
theorem d_Ch_init_13 : decode mq_Ch_init.2.1 13 = .ok (.aload_n 0, 1) := by decide +kernel
theorem d_Ch_init_14 : decode mq_Ch_init.2.1 14 = .ok (.iconst 1, 1) := by decide +kernel
theorem d_Ch_init_15 : decode mq_Ch_init.2.1 15 = .ok (.putfield 17, 3) := by decide +kernel
theorem d_Ch_init_18 : decode mq_Ch_init.2.1 18 = .ok (.iconst 0, 1) := by decide +kernel
theorem d_Ch_init_19 : decode mq_Ch_init.2.1 19 = .ok (.istore_n 1, 1) := by decide +kernel
theorem d_Ch_init_20 : decode mq_Ch_init.2.1 20 = .ok (.iload_n 1, 1) := by decide +kernel
theorem d_Ch_init_21 : decode mq_Ch_init.2.1 21 = .ok (.bipush (10), 2) := by decide +kernel
theorem d_Ch_init_23 : decode mq_Ch_init.2.1 23 = .ok (.if_icmp .ge 22, 3) := by decide +kernel
theorem d_Ch_init_26 : decode mq_Ch_init.2.1 26 = .ok (.aload_n 0, 1) := by decide +kernel
theorem d_Ch_init_27 : decode mq_Ch_init.2.1 27 = .ok (.getfield 11, 3) := by decide +kernel
theorem d_Ch_init_30 : decode mq_Ch_init.2.1 30 = .ok (.iload_n 1, 1) := by decide +kernel
theorem d_Ch_init_31 : decode mq_Ch_init.2.1 31 = .ok (.new 9, 3) := by decide +kernel
theorem d_Ch_init_34 : decode mq_Ch_init.2.1 34 = .ok (.dup, 1) := by decide +kernel
theorem d_Ch_init_35 : decode mq_Ch_init.2.1 35 = .ok (.invokespecial 21, 3) := by decide +kernel
theorem d_Ch_init_38 : decode mq_Ch_init.2.1 38 = .ok (.aastore, 1) := by decide +kernel
theorem d_Ch_init_39 : decode mq_Ch_init.2.1 39 = .ok (.iinc 1 1, 3) := by decide +kernel
theorem d_Ch_init_42 : decode mq_Ch_init.2.1 42 = .ok (.goto (-22), 3) := by decide +kernel
theorem d_Ch_init_45 : decode mq_Ch_init.2.1 45 = .ok (.return_, 1) := by decide +kernel
theorem d_Wo_init_0 : decode mq_Wo_init.2.1 0 = .ok (.aload_n 0, 1) := by decide +kernel
theorem d_Wo_init_1 : decode mq_Wo_init.2.1 1 = .ok (.invokespecial 3, 3) := by decide +kernel
theorem d_Wo_init_4 : decode mq_Wo_init.2.1 4 = .ok (.aload_n 0, 1) := by decide +kernel
theorem d_Wo_init_5 : decode mq_Wo_init.2.1 5 = .ok (.new 9, 3) := by decide +kernel
theorem d_Wo_init_8 : decode mq_Wo_init.2.1 8 = .ok (.dup, 1) := by decide +kernel
theorem d_Wo_init_9 : decode mq_Wo_init.2.1 9 = .ok (.invokespecial 11, 3) := by decide +kernel
theorem d_Wo_init_12 : decode mq_Wo_init.2.1 12 = .ok (.putfield 12, 3) := by decide +kernel
theorem d_Wo_init_15 : decode mq_Wo_init.2.1 15 = .ok (.aload_n 0, 1) := by decide +kernel
theorem d_Wo_init_16 : decode mq_Wo_init.2.1 16 = .ok (.bipush (10), 2) := by decide +kernel
theorem d_Wo_init_18 : decode mq_Wo_init.2.1 18 = .ok (.newarray .int, 2) := by decide +kernel
theorem d_Wo_init_20 : decode mq_Wo_init.2.1 20 = .ok (.putfield 18, 3) := by decide +kernel
theorem d_Wo_init_23 : decode mq_Wo_init.2.1 23 = .ok (.aload_n 0, 1) := by decide +kernel
theorem d_Wo_init_24 : decode mq_Wo_init.2.1 24 = .ok (.bipush (10), 2) := by decide +kernel
theorem d_Wo_init_26 : decode mq_Wo_init.2.1 26 = .ok (.newarray .int, 2) := by decide +kernel
theorem d_Wo_init_28 : decode mq_Wo_init.2.1 28 = .ok (.putfield 22, 3) := by decide +kernel
theorem d_Wo_init_31 : decode mq_Wo_init.2.1 31 = .ok (.aload_n 0, 1) := by decide +kernel
theorem d_Wo_init_32 : decode mq_Wo_init.2.1 32 = .ok (.sipush (243), 3) := by decide +kernel
theorem d_Wo_init_35 : decode mq_Wo_init.2.1 35 = .ok (.newarray .int, 2) := by decide +kernel
theorem d_Wo_init_37 : decode mq_Wo_init.2.1 37 = .ok (.putfield 25, 3) := by decide +kernel
theorem d_Wo_init_40 : decode mq_Wo_init.2.1 40 = .ok (.aload_n 0, 1) := by decide +kernel
theorem d_Wo_init_41 : decode mq_Wo_init.2.1 41 = .ok (.sipush (243), 3) := by decide +kernel
theorem d_Wo_init_44 : decode mq_Wo_init.2.1 44 = .ok (.newarray .int, 2) := by decide +kernel
theorem d_Wo_init_46 : decode mq_Wo_init.2.1 46 = .ok (.putfield 28, 3) := by decide +kernel
theorem d_Wo_init_49 : decode mq_Wo_init.2.1 49 = .ok (.aload_n 0, 1) := by decide +kernel
theorem d_Wo_init_50 : decode mq_Wo_init.2.1 50 = .ok (.sipush (243), 3) := by decide +kernel
theorem d_Wo_init_53 : decode mq_Wo_init.2.1 53 = .ok (.newarray .int, 2) := by decide +kernel
theorem d_Wo_init_55 : decode mq_Wo_init.2.1 55 = .ok (.putfield 31, 3) := by decide +kernel
theorem d_Wo_init_58 : decode mq_Wo_init.2.1 58 = .ok (.aload_n 0, 1) := by decide +kernel
theorem d_Wo_init_59 : decode mq_Wo_init.2.1 59 = .ok (.sipush (243), 3) := by decide +kernel
theorem d_Wo_init_62 : decode mq_Wo_init.2.1 62 = .ok (.newarray .long, 2) := by decide +kernel
theorem d_Wo_init_64 : decode mq_Wo_init.2.1 64 = .ok (.putfield 34, 3) := by decide +kernel
theorem d_Wo_init_67 : decode mq_Wo_init.2.1 67 = .ok (.aload_n 0, 1) := by decide +kernel
theorem d_Wo_init_68 : decode mq_Wo_init.2.1 68 = .ok (.sipush (243), 3) := by decide +kernel
theorem d_Wo_init_71 : decode mq_Wo_init.2.1 71 = .ok (.newarray .int, 2) := by decide +kernel
theorem d_Wo_init_73 : decode mq_Wo_init.2.1 73 = .ok (.putfield 38, 3) := by decide +kernel
theorem d_Wo_init_76 : decode mq_Wo_init.2.1 76 = .ok (.aload_n 0, 1) := by decide +kernel
theorem d_Wo_init_77 : decode mq_Wo_init.2.1 77 = .ok (.sipush (243), 3) := by decide +kernel
theorem d_Wo_init_80 : decode mq_Wo_init.2.1 80 = .ok (.newarray .int, 2) := by decide +kernel
theorem d_Wo_init_82 : decode mq_Wo_init.2.1 82 = .ok (.putfield 41, 3) := by decide +kernel
theorem d_Wo_init_85 : decode mq_Wo_init.2.1 85 = .ok (.return_, 1) := by decide +kernel
theorem d_Fo_init_0 : decode mq_Fo_init.2.1 0 = .ok (.aload_n 0, 1) := by decide +kernel
theorem d_Fo_init_1 : decode mq_Fo_init.2.1 1 = .ok (.invokespecial 3, 3) := by decide +kernel
theorem d_Fo_init_4 : decode mq_Fo_init.2.1 4 = .ok (.aload_n 0, 1) := by decide +kernel
theorem d_Fo_init_5 : decode mq_Fo_init.2.1 5 = .ok (.bipush (9), 2) := by decide +kernel
theorem d_Fo_init_7 : decode mq_Fo_init.2.1 7 = .ok (.newarray .int, 2) := by decide +kernel
theorem d_Fo_init_9 : decode mq_Fo_init.2.1 9 = .ok (.putfield 9, 3) := by decide +kernel
theorem d_Fo_init_12 : decode mq_Fo_init.2.1 12 = .ok (.aload_n 0, 1) := by decide +kernel
theorem d_Fo_init_13 : decode mq_Fo_init.2.1 13 = .ok (.sipush (243), 3) := by decide +kernel
theorem d_Fo_init_16 : decode mq_Fo_init.2.1 16 = .ok (.newarray .int, 2) := by decide +kernel
theorem d_Fo_init_18 : decode mq_Fo_init.2.1 18 = .ok (.putfield 15, 3) := by decide +kernel
theorem d_Fo_init_21 : decode mq_Fo_init.2.1 21 = .ok (.return_, 1) := by decide +kernel
theorem d_Sc_init_0 : decode mq_Sc_init.2.1 0 = .ok (.aload_n 0, 1) := by decide +kernel
theorem d_Sc_init_1 : decode mq_Sc_init.2.1 1 = .ok (.invokespecial 1, 3) := by decide +kernel
theorem d_Sc_init_4 : decode mq_Sc_init.2.1 4 = .ok (.aload_n 0, 1) := by decide +kernel
theorem d_Sc_init_5 : decode mq_Sc_init.2.1 5 = .ok (.new 7, 3) := by decide +kernel
theorem d_Sc_init_8 : decode mq_Sc_init.2.1 8 = .ok (.dup, 1) := by decide +kernel
theorem d_Sc_init_9 : decode mq_Sc_init.2.1 9 = .ok (.invokespecial 9, 3) := by decide +kernel
theorem d_Sc_init_12 : decode mq_Sc_init.2.1 12 = .ok (.putfield 10, 3) := by decide +kernel
theorem d_Sc_init_15 : decode mq_Sc_init.2.1 15 = .ok (.aload_n 0, 1) := by decide +kernel
theorem d_Sc_init_16 : decode mq_Sc_init.2.1 16 = .ok (.aload_n 0, 1) := by decide +kernel
theorem d_Sc_init_17 : decode mq_Sc_init.2.1 17 = .ok (.getfield 10, 3) := by decide +kernel
theorem d_Sc_init_20 : decode mq_Sc_init.2.1 20 = .ok (.getfield 16, 3) := by decide +kernel
theorem d_Sc_init_23 : decode mq_Sc_init.2.1 23 = .ok (.putfield 20, 3) := by decide +kernel
theorem d_Sc_init_26 : decode mq_Sc_init.2.1 26 = .ok (.aload_n 0, 1) := by decide +kernel
theorem d_Sc_init_27 : decode mq_Sc_init.2.1 27 = .ok (.new 21, 3) := by decide +kernel
theorem d_Sc_init_30 : decode mq_Sc_init.2.1 30 = .ok (.dup, 1) := by decide +kernel
theorem d_Sc_init_31 : decode mq_Sc_init.2.1 31 = .ok (.invokespecial 23, 3) := by decide +kernel
theorem d_Sc_init_34 : decode mq_Sc_init.2.1 34 = .ok (.putfield 24, 3) := by decide +kernel
theorem d_Sc_init_37 : decode mq_Sc_init.2.1 37 = .ok (.aload_n 0, 1) := by decide +kernel
theorem d_Sc_init_38 : decode mq_Sc_init.2.1 38 = .ok (.iconst 4, 1) := by decide +kernel
theorem d_Sc_init_39 : decode mq_Sc_init.2.1 39 = .ok (.bipush (27), 2) := by decide +kernel
theorem d_Sc_init_41 : decode mq_Sc_init.2.1 41 = .ok (.multianewarray 28 2, 4) := by decide +kernel
theorem d_Sc_init_45 : decode mq_Sc_init.2.1 45 = .ok (.putfield 30, 3) := by decide +kernel
theorem d_Sc_init_48 : decode mq_Sc_init.2.1 48 = .ok (.aload_n 0, 1) := by decide +kernel
theorem d_Sc_init_49 : decode mq_Sc_init.2.1 49 = .ok (.iconst 4, 1) := by decide +kernel
theorem d_Sc_init_50 : decode mq_Sc_init.2.1 50 = .ok (.newarray .int, 2) := by decide +kernel
theorem d_Sc_init_52 : decode mq_Sc_init.2.1 52 = .ok (.putfield 33, 3) := by decide +kernel
theorem d_Sc_init_55 : decode mq_Sc_init.2.1 55 = .ok (.aload_n 0, 1) := by decide +kernel
theorem d_Sc_init_56 : decode mq_Sc_init.2.1 56 = .ok (.getfield 33, 3) := by decide +kernel
theorem d_Sc_init_59 : decode mq_Sc_init.2.1 59 = .ok (.iconst (-1), 1) := by decide +kernel
theorem d_Sc_init_60 : decode mq_Sc_init.2.1 60 = .ok (.invokestatic 37, 3) := by decide +kernel
theorem d_Sc_init_63 : decode mq_Sc_init.2.1 63 = .ok (.aload_n 0, 1) := by decide +kernel
theorem d_Sc_init_64 : decode mq_Sc_init.2.1 64 = .ok (.bipush (6), 2) := by decide +kernel
theorem d_Sc_init_66 : decode mq_Sc_init.2.1 66 = .ok (.newarray .int, 2) := by decide +kernel
theorem d_Sc_init_68 : decode mq_Sc_init.2.1 68 = .ok (.putfield 43, 3) := by decide +kernel
theorem d_Sc_init_71 : decode mq_Sc_init.2.1 71 = .ok (.aload_n 0, 1) := by decide +kernel
theorem d_Sc_init_72 : decode mq_Sc_init.2.1 72 = .ok (.lconst 1, 1) := by decide +kernel
theorem d_Sc_init_73 : decode mq_Sc_init.2.1 73 = .ok (.putfield 46, 3) := by decide +kernel
theorem d_Sc_init_76 : decode mq_Sc_init.2.1 76 = .ok (.return_, 1) := by decide +kernel
theorem d_Mo_init_0 : decode mq_Mo_init.2.1 0 = .ok (.aload_n 0, 1) := by decide +kernel
theorem d_Mo_init_1 : decode mq_Mo_init.2.1 1 = .ok (.invokespecial 1, 3) := by decide +kernel
theorem d_Mo_init_4 : decode mq_Mo_init.2.1 4 = .ok (.aload_n 0, 1) := by decide +kernel
theorem d_Mo_init_5 : decode mq_Mo_init.2.1 5 = .ok (.bipush (6), 2) := by decide +kernel
theorem d_Mo_init_7 : decode mq_Mo_init.2.1 7 = .ok (.newarray .int, 2) := by decide +kernel
theorem d_Mo_init_9 : decode mq_Mo_init.2.1 9 = .ok (.putfield 7, 3) := by decide +kernel
theorem d_Mo_init_12 : decode mq_Mo_init.2.1 12 = .ok (.aload_n 0, 1) := by decide +kernel
theorem d_Mo_init_13 : decode mq_Mo_init.2.1 13 = .ok (.lconst 1, 1) := by decide +kernel
theorem d_Mo_init_14 : decode mq_Mo_init.2.1 14 = .ok (.putfield 13, 3) := by decide +kernel
theorem d_Mo_init_17 : decode mq_Mo_init.2.1 17 = .ok (.aload_n 0, 1) := by decide +kernel
theorem d_Mo_init_18 : decode mq_Mo_init.2.1 18 = .ok (.bipush (10), 2) := by decide +kernel
theorem d_Mo_init_20 : decode mq_Mo_init.2.1 20 = .ok (.newarray .int, 2) := by decide +kernel
theorem d_Mo_init_22 : decode mq_Mo_init.2.1 22 = .ok (.putfield 17, 3) := by decide +kernel
theorem d_Mo_init_25 : decode mq_Mo_init.2.1 25 = .ok (.aload_n 0, 1) := by decide +kernel
theorem d_Mo_init_26 : decode mq_Mo_init.2.1 26 = .ok (.bipush (10), 2) := by decide +kernel
theorem d_Mo_init_28 : decode mq_Mo_init.2.1 28 = .ok (.newarray .int, 2) := by decide +kernel
theorem d_Mo_init_30 : decode mq_Mo_init.2.1 30 = .ok (.putfield 20, 3) := by decide +kernel
theorem d_Mo_init_33 : decode mq_Mo_init.2.1 33 = .ok (.aload_n 0, 1) := by decide +kernel
theorem d_Mo_init_34 : decode mq_Mo_init.2.1 34 = .ok (.bipush (10), 2) := by decide +kernel
theorem d_Mo_init_36 : decode mq_Mo_init.2.1 36 = .ok (.newarray .int, 2) := by decide +kernel
theorem d_Mo_init_38 : decode mq_Mo_init.2.1 38 = .ok (.putfield 23, 3) := by decide +kernel
theorem d_Mo_init_41 : decode mq_Mo_init.2.1 41 = .ok (.aload_n 0, 1) := by decide +kernel
theorem d_Mo_init_42 : decode mq_Mo_init.2.1 42 = .ok (.bipush (30), 2) := by decide +kernel
theorem d_Mo_init_44 : decode mq_Mo_init.2.1 44 = .ok (.newarray .int, 2) := by decide +kernel
theorem d_Mo_init_46 : decode mq_Mo_init.2.1 46 = .ok (.putfield 26, 3) := by decide +kernel
theorem d_Mo_init_49 : decode mq_Mo_init.2.1 49 = .ok (.aload_n 0, 1) := by decide +kernel
theorem d_Mo_init_50 : decode mq_Mo_init.2.1 50 = .ok (.bipush (10), 2) := by decide +kernel
theorem d_Mo_init_52 : decode mq_Mo_init.2.1 52 = .ok (.newarray .int, 2) := by decide +kernel
theorem d_Mo_init_54 : decode mq_Mo_init.2.1 54 = .ok (.putfield 29, 3) := by decide +kernel
theorem d_Mo_init_57 : decode mq_Mo_init.2.1 57 = .ok (.aload_n 0, 1) := by decide +kernel
theorem d_Mo_init_58 : decode mq_Mo_init.2.1 58 = .ok (.bipush (10), 2) := by decide +kernel
theorem d_Mo_init_60 : decode mq_Mo_init.2.1 60 = .ok (.newarray .int, 2) := by decide +kernel
theorem d_Mo_init_62 : decode mq_Mo_init.2.1 62 = .ok (.putfield 32, 3) := by decide +kernel
theorem d_Mo_init_65 : decode mq_Mo_init.2.1 65 = .ok (.aload_n 0, 1) := by decide +kernel
theorem d_Mo_init_66 : decode mq_Mo_init.2.1 66 = .ok (.sipush (270), 3) := by decide +kernel
theorem d_Mo_init_69 : decode mq_Mo_init.2.1 69 = .ok (.newarray .int, 2) := by decide +kernel
theorem d_Mo_init_71 : decode mq_Mo_init.2.1 71 = .ok (.putfield 35, 3) := by decide +kernel
theorem d_Mo_init_74 : decode mq_Mo_init.2.1 74 = .ok (.aload_n 0, 1) := by decide +kernel
theorem d_Mo_init_75 : decode mq_Mo_init.2.1 75 = .ok (.bipush (-9), 2) := by decide +kernel
theorem d_Mo_init_77 : decode mq_Mo_init.2.1 77 = .ok (.putfield 38, 3) := by decide +kernel
theorem d_Mo_init_80 : decode mq_Mo_init.2.1 80 = .ok (.aload_n 0, 1) := by decide +kernel
theorem d_Mo_init_81 : decode mq_Mo_init.2.1 81 = .ok (.bipush (10), 2) := by decide +kernel
theorem d_Mo_init_83 : decode mq_Mo_init.2.1 83 = .ok (.newarray .int, 2) := by decide +kernel
theorem d_Mo_init_85 : decode mq_Mo_init.2.1 85 = .ok (.putfield 42, 3) := by decide +kernel
theorem d_Mo_init_88 : decode mq_Mo_init.2.1 88 = .ok (.aload_n 0, 1) := by decide +kernel
theorem d_Mo_init_89 : decode mq_Mo_init.2.1 89 = .ok (.sipush (2430), 3) := by decide +kernel
theorem d_Mo_init_92 : decode mq_Mo_init.2.1 92 = .ok (.newarray .int, 2) := by decide +kernel
theorem d_Mo_init_94 : decode mq_Mo_init.2.1 94 = .ok (.putfield 45, 3) := by decide +kernel
theorem d_Mo_init_97 : decode mq_Mo_init.2.1 97 = .ok (.aload_n 0, 1) := by decide +kernel
theorem d_Mo_init_98 : decode mq_Mo_init.2.1 98 = .ok (.sipush (729), 3) := by decide +kernel
theorem d_Mo_init_101 : decode mq_Mo_init.2.1 101 = .ok (.newarray .long, 2) := by decide +kernel
theorem d_Mo_init_103 : decode mq_Mo_init.2.1 103 = .ok (.putfield 48, 3) := by decide +kernel
theorem d_Mo_init_106 : decode mq_Mo_init.2.1 106 = .ok (.aload_n 0, 1) := by decide +kernel
theorem d_Mo_init_107 : decode mq_Mo_init.2.1 107 = .ok (.sipush (243), 3) := by decide +kernel
theorem d_Mo_init_110 : decode mq_Mo_init.2.1 110 = .ok (.newarray .boolean, 2) := by decide +kernel
theorem d_Mo_init_112 : decode mq_Mo_init.2.1 112 = .ok (.putfield 52, 3) := by decide +kernel
theorem d_Mo_init_115 : decode mq_Mo_init.2.1 115 = .ok (.aload_n 0, 1) := by decide +kernel
theorem d_Mo_init_116 : decode mq_Mo_init.2.1 116 = .ok (.bipush (10), 2) := by decide +kernel
theorem d_Mo_init_118 : decode mq_Mo_init.2.1 118 = .ok (.newarray .int, 2) := by decide +kernel
theorem d_Mo_init_120 : decode mq_Mo_init.2.1 120 = .ok (.putfield 56, 3) := by decide +kernel
theorem d_Mo_init_123 : decode mq_Mo_init.2.1 123 = .ok (.aload_n 0, 1) := by decide +kernel
theorem d_Mo_init_124 : decode mq_Mo_init.2.1 124 = .ok (.bipush (10), 2) := by decide +kernel
theorem d_Mo_init_126 : decode mq_Mo_init.2.1 126 = .ok (.newarray .int, 2) := by decide +kernel
theorem d_Mo_init_128 : decode mq_Mo_init.2.1 128 = .ok (.putfield 59, 3) := by decide +kernel
theorem d_Mo_init_131 : decode mq_Mo_init.2.1 131 = .ok (.aload_n 0, 1) := by decide +kernel
theorem d_Mo_init_132 : decode mq_Mo_init.2.1 132 = .ok (.iconst 4, 1) := by decide +kernel
theorem d_Mo_init_133 : decode mq_Mo_init.2.1 133 = .ok (.newarray .int, 2) := by decide +kernel
theorem d_Mo_init_135 : decode mq_Mo_init.2.1 135 = .ok (.putfield 62, 3) := by decide +kernel
theorem d_Mo_init_138 : decode mq_Mo_init.2.1 138 = .ok (.aload_n 0, 1) := by decide +kernel
theorem d_Mo_init_139 : decode mq_Mo_init.2.1 139 = .ok (.bipush (108), 2) := by decide +kernel
theorem d_Mo_init_141 : decode mq_Mo_init.2.1 141 = .ok (.newarray .int, 2) := by decide +kernel
theorem d_Mo_init_143 : decode mq_Mo_init.2.1 143 = .ok (.putfield 65, 3) := by decide +kernel
theorem d_Mo_init_146 : decode mq_Mo_init.2.1 146 = .ok (.aload_n 0, 1) := by decide +kernel
theorem d_Mo_init_147 : decode mq_Mo_init.2.1 147 = .ok (.bipush (27), 2) := by decide +kernel
theorem d_Mo_init_149 : decode mq_Mo_init.2.1 149 = .ok (.newarray .int, 2) := by decide +kernel
theorem d_Mo_init_151 : decode mq_Mo_init.2.1 151 = .ok (.putfield 68, 3) := by decide +kernel
theorem d_Mo_init_154 : decode mq_Mo_init.2.1 154 = .ok (.iconst 0, 1) := by decide +kernel
theorem d_Mo_init_155 : decode mq_Mo_init.2.1 155 = .ok (.istore_n 1, 1) := by decide +kernel
theorem d_Mo_init_156 : decode mq_Mo_init.2.1 156 = .ok (.iload_n 1, 1) := by decide +kernel
theorem d_Mo_init_157 : decode mq_Mo_init.2.1 157 = .ok (.iconst 4, 1) := by decide +kernel
theorem d_Mo_init_158 : decode mq_Mo_init.2.1 158 = .ok (.if_icmp .ge 17, 3) := by decide +kernel
theorem d_Mo_init_161 : decode mq_Mo_init.2.1 161 = .ok (.aload_n 0, 1) := by decide +kernel
theorem d_Mo_init_162 : decode mq_Mo_init.2.1 162 = .ok (.getfield 62, 3) := by decide +kernel
theorem d_Mo_init_165 : decode mq_Mo_init.2.1 165 = .ok (.iload_n 1, 1) := by decide +kernel
theorem d_Mo_init_166 : decode mq_Mo_init.2.1 166 = .ok (.bipush (-9), 2) := by decide +kernel
theorem d_Mo_init_168 : decode mq_Mo_init.2.1 168 = .ok (.iastore, 1) := by decide +kernel
theorem d_Mo_init_169 : decode mq_Mo_init.2.1 169 = .ok (.iinc 1 1, 3) := by decide +kernel
theorem d_Mo_init_172 : decode mq_Mo_init.2.1 172 = .ok (.goto (-16), 3) := by decide +kernel
theorem d_Mo_init_175 : decode mq_Mo_init.2.1 175 = .ok (.return_, 1) := by decide +kernel
theorem d_Ar_fillI_0 : decode mq_Ar_fillI.2.1 0 = .ok (.iconst 0, 1) := by decide +kernel
theorem d_Ar_fillI_1 : decode mq_Ar_fillI.2.1 1 = .ok (.istore_n 2, 1) := by decide +kernel
theorem d_Ar_fillI_2 : decode mq_Ar_fillI.2.1 2 = .ok (.aload_n 0, 1) := by decide +kernel
theorem d_Ar_fillI_3 : decode mq_Ar_fillI.2.1 3 = .ok (.arraylength, 1) := by decide +kernel
theorem d_Ar_fillI_4 : decode mq_Ar_fillI.2.1 4 = .ok (.istore_n 3, 1) := by decide +kernel
theorem d_Ar_fillI_5 : decode mq_Ar_fillI.2.1 5 = .ok (.iload_n 2, 1) := by decide +kernel
theorem d_Ar_fillI_6 : decode mq_Ar_fillI.2.1 6 = .ok (.iload_n 3, 1) := by decide +kernel
theorem d_Ar_fillI_7 : decode mq_Ar_fillI.2.1 7 = .ok (.if_icmp .ge 13, 3) := by decide +kernel
theorem d_Ar_fillI_10 : decode mq_Ar_fillI.2.1 10 = .ok (.aload_n 0, 1) := by decide +kernel
theorem d_Ar_fillI_11 : decode mq_Ar_fillI.2.1 11 = .ok (.iload_n 2, 1) := by decide +kernel
theorem d_Ar_fillI_12 : decode mq_Ar_fillI.2.1 12 = .ok (.iload_n 1, 1) := by decide +kernel
theorem d_Ar_fillI_13 : decode mq_Ar_fillI.2.1 13 = .ok (.iastore, 1) := by decide +kernel
theorem d_Ar_fillI_14 : decode mq_Ar_fillI.2.1 14 = .ok (.iinc 2 1, 3) := by decide +kernel
theorem d_Ar_fillI_17 : decode mq_Ar_fillI.2.1 17 = .ok (.goto (-12), 3) := by decide +kernel
theorem d_Ar_fillI_20 : decode mq_Ar_fillI.2.1 20 = .ok (.return_, 1) := by decide +kernel
/-! NODE -/
set_option maxHeartbeats 1000000 in
set_option maxRecDepth 100000 in
theorem ct_No_init (l : Launch) (G : sc_G) (h0 sz : Nat) (n : Nat) (hn : n < 10) : Met l mq_No_init.1 (sc_ws mq_No_init) (ct_rm 1 2 30) (va_Pc [.ref h0] (ck_pre G 2 [.int 0, .int 0, .int 0, .int 0, .int 0, .int 0, .int 0, .null, .null] h0 sz)) (ck_Q G (40 + 3 * n) [40 + 3 * n, 41 + 3 * n, 42 + 3 * n] h0 (va_A [(h0, .inr (2, [.int 0, .int 0, .int 0, .int 0, .int 0, .int 0, .int 0, .null, .null]))] sz)) 2 30 (va_A [(h0, .inr (2, [.int 0, .int 0, .int 0, .int 0, .int 0, .int 0, .int 0, .null, .null]))] sz) := by
  refine Met.ofW (cc := mq_No_init.2.1) (maxL := 1) (ret := none) (by decide) rfl ?_
  intro p e s m args below meth c s₁ B hml hv
  obtain ⟨rfl, hsz, hP, hK, hN⟩ := hv
  have hx := B.exec
  have hb := B.bytes
  have hr := B.returns
  have hg : ∀ w ∈ sc_gw, w.before ([Value.ref h0] : List Value).toArray s = true := fun w h => atoms_spec (ws := sc_ws mq_No_init) B.pre w (List.mem_cons_of_mem _ h)
  have hown : s.vm.findClass "SightChart$Node" = some m.cls := findClass_of_methodNamed B.named
  have hlocks := B.notSynchronized
  have hin : meth.name = "<init>" := (name_of_methodNamed B.named B.method).1
  subst hsz
  have hD : va_D (va_A [(h0, .inr (2, [.int 0, .int 0, .int 0, .int 0, .int 0, .int 0, .int 0, .null, .null]))] s.heap.size) [(h0, .inr (2, [.int 0, .int 0, .int 0, .int 0, .int 0, .int 0, .int 0, .null, .null]))] := ck_D_1 (va_A.in (k := 0) rfl)
  generalize hAe : va_A [(h0, .inr (2, [.int 0, .int 0, .int 0, .int 0, .int 0, .int 0, .int 0, .null, .null]))] s.heap.size = A at hD ⊢
  have hA : ∀ q : Nat, s.heap.size ≤ q → A q := fun q h => by rw [← hAe]; exact Or.inr h
  have hS : va_S A s.heap s.heap [] := va_S.rf
  show W p l e (ct_rm 1 2 30) s m _ below meth c s.heap [] 0 0 _ _
  have hl := lv_entry ([.ref h0]) (n := 1) (Nat.le_of_ble_eq_true rfl)
  rw [lg_entry_eq]
  generalize (lg_sl ([.ref h0]) ++ List.replicate (1 - (lg_sl ([.ref h0])).length) Slot.unset).toArray = ls at hl ⊢
  have hl : lv_has ls 1 [(0, .ref h0)] := hl
  have hP : va_P G.1 vwCl ([(h0, .inr (2, [.int 0, .int 0, .int 0, .int 0, .int 0, .int 0, .int 0, .null, .null]))]) _ := hP
  have hD : va_D A ([(h0, .inr (2, [.int 0, .int 0, .int 0, .int 0, .int 0, .int 0, .int 0, .null, .null]))]) := hD
  refine lv_aload_n hx hb d_No_init_0 rfl (lv_at hl 0 rfl) ?_
  refine W.objInit hx hb hown (hg (.methodLink "SightChart$Node" 3 Lib.objectInit) (sc_mem_ok (by decide +kernel))) (hg (.instanceMethod Lib.objectInit) (sc_mem_ok (by decide +kernel))) (hg _ ck_obj) rfl (by rw [hml]; exact hl.1) rfl d_No_init_1 (Nat.le_of_ble_eq_true rfl) (Nat.le_of_ble_eq_true rfl) ?_
  refine W.eq (g2 := F0 m 4 ls []) rfl ?_
  refine lv_aload_n hx hb d_No_init_4 rfl (lv_at hl 0 rfl) ?_
  refine lv_iconst (v := 3) hx hb d_No_init_5 (by decide) ?_
  refine ck_newa (atype := .int) (ty := .int) (t0 := 0) (cA := G.2.1 0) (N' := 3) (a0 := (3, .inl (fun _ => 0))) hx hb (hg (.arrayClass (newarray.typeOf .int)) (sc_mem_ok (by decide +kernel))) rfl hK rfl hP hD hS hA (fun _ => rfl) (by decide +kernel) (by decide +kernel) (ck_by (by decide) (by decide)) (by decide) (by decide) d_No_init_6 (fun q1 H hP hD hS => ?_)
  have hP : va_P G.1 vwCl ([(h0, .inr (2, [.int 0, .int 0, .int 0, .int 0, .int 0, .int 0, .int 0, .null, .null])), (q1, .inl (G.2.1 0, 3, .inl (fun _ => 0)))]) H := hP
  have hD : va_D A ([(h0, .inr (2, [.int 0, .int 0, .int 0, .int 0, .int 0, .int 0, .int 0, .null, .null])), (q1, .inl (G.2.1 0, 3, .inl (fun _ => 0)))]) := hD
  refine W.widen (k := 1) (n := 3) (by omega) (by omega) ?_
  refine va_putF (D := G.1) (ci := 2) (v := .ref q1) (ty := .array .int) (C := RX2) (T := TX2) (N := 9) hx hb hg sc_in2 tyX2 tyX2_ok nmX2 hown hK hP hD hS 0 rfl rfl 7 (by decide) (hg (.fieldLink "SightChart$Node" 9 "SightChart$Node" "parents" "[I") (sc_mem_ok (by decide +kernel))) (fun _ h9 => h9) rfl hin rfl (by decide +kernel) rfl rfl (Nat.le_of_ble_eq_true rfl) d_No_init_8 (fun H locs hP hD hS => ?_)
  have hP : va_P G.1 vwCl ([(h0, .inr (2, [.int 0, .int 0, .int 0, .int 0, .int 0, .int 0, .int 0, .ref q1, .null])), (q1, .inl (G.2.1 0, 3, .inl (fun _ => 0)))]) H := hP
  have hD : va_D A ([(h0, .inr (2, [.int 0, .int 0, .int 0, .int 0, .int 0, .int 0, .int 0, .ref q1, .null])), (q1, .inl (G.2.1 0, 3, .inl (fun _ => 0)))]) := hD
  refine lv_aload_n hx hb d_No_init_11 rfl (lv_at hl 0 rfl) ?_
  refine lv_bipush (v := 27) hx hb d_No_init_12 (by decide) ?_
  refine ck_newa (atype := .int) (ty := .int) (t0 := 0) (cA := G.2.1 0) (N' := 27) (a0 := (27, .inl (fun _ => 0))) hx hb (hg (.arrayClass (newarray.typeOf .int)) (sc_mem_ok (by decide +kernel))) rfl hK rfl hP hD hS hA (fun _ => rfl) (by decide +kernel) (by decide +kernel) (ck_by (by decide) (by decide)) (by decide) (by decide) d_No_init_14 (fun q2 H hP hD hS => ?_)
  have hP : va_P G.1 vwCl ([(h0, .inr (2, [.int 0, .int 0, .int 0, .int 0, .int 0, .int 0, .int 0, .ref q1, .null])), (q1, .inl (G.2.1 0, 3, .inl (fun _ => 0))), (q2, .inl (G.2.1 0, 27, .inl (fun _ => 0)))]) H := hP
  have hD : va_D A ([(h0, .inr (2, [.int 0, .int 0, .int 0, .int 0, .int 0, .int 0, .int 0, .ref q1, .null])), (q1, .inl (G.2.1 0, 3, .inl (fun _ => 0))), (q2, .inl (G.2.1 0, 27, .inl (fun _ => 0)))]) := hD
  refine W.widen (k := 2) (n := 30) (by omega) (by omega) ?_
  refine va_putF (D := G.1) (ci := 2) (v := .ref q2) (ty := .array .int) (C := RX2) (T := TX2) (N := 9) hx hb hg sc_in2 tyX2 tyX2_ok nmX2 hown hK hP hD hS 0 rfl rfl 8 (by decide) (hg (.fieldLink "SightChart$Node" 15 "SightChart$Node" "table" "[I") (sc_mem_ok (by decide +kernel))) (fun _ h9 => h9) rfl hin rfl (by decide +kernel) rfl rfl (Nat.le_of_ble_eq_true rfl) d_No_init_16 (fun H locs hP hD hS => ?_)
  have hP : va_P G.1 vwCl ([(h0, .inr (2, [.int 0, .int 0, .int 0, .int 0, .int 0, .int 0, .int 0, .ref q1, .ref q2])), (q1, .inl (G.2.1 0, 3, .inl (fun _ => 0))), (q2, .inl (G.2.1 0, 27, .inl (fun _ => 0)))]) H := hP
  have hD : va_D A ([(h0, .inr (2, [.int 0, .int 0, .int 0, .int 0, .int 0, .int 0, .int 0, .ref q1, .ref q2])), (q1, .inl (G.2.1 0, 3, .inl (fun _ => 0))), (q2, .inl (G.2.1 0, 27, .inl (fun _ => 0)))]) := hD
  have e : ck_w G (fun a => if a = 40 + 3 * n then h0 else if a = 41 + 3 * n then q1 else q2) [40 + 3 * n, 41 + 3 * n, 42 + 3 * n] = [(h0, .inr (2, [.int 0, .int 0, .int 0, .int 0, .int 0, .int 0, .int 0, .ref q1, .ref q2])), (q1, .inl (G.2.1 0, 3, .inl (fun _ => 0))), (q2, .inl (G.2.1 0, 27, .inl (fun _ => 0)))] := by
    rw [ck_w_N G _ n hn]
    simp only [if_true, show ¬ 41 + 3 * n = 40 + 3 * n by omega, show ¬ 42 + 3 * n = 40 + 3 * n by omega, show ¬ 42 + 3 * n = 41 + 3 * n by omega, if_false]
  refine W.vret hx hb hr (fun t ht hW => ⟨⟨(fun a => if a = 40 + 3 * n then h0 else if a = 41 + 3 * n then q1 else q2), rfl, if_pos rfl, by rw [ht, e]; exact hP, by rw [e]; exact hD⟩, hS.F ht⟩) hS.2.2 d_No_init_19
/-! FORGETTING -/
set_option maxHeartbeats 1000000 in
set_option maxRecDepth 100000 in
theorem ct_Fo_init (l : Launch) (G : sc_G) (h0 sz : Nat) : Met l mq_Fo_init.1 (sc_ws mq_Fo_init) (ct_rm 1 2 252) (va_Pc [.ref h0] (ck_pre G 1 [.null, .null, .int 0, .int 0] h0 sz)) (ck_Q G 12 [12, 13, 14] h0 (va_A [(h0, .inr (1, [.null, .null, .int 0, .int 0]))] sz)) 2 252 (va_A [(h0, .inr (1, [.null, .null, .int 0, .int 0]))] sz) := by
  refine Met.ofW (cc := mq_Fo_init.2.1) (maxL := 1) (ret := none) (by decide) rfl ?_
  intro p e s m args below meth c s₁ B hml hv
  obtain ⟨rfl, hsz, hP, hK, hN⟩ := hv
  have hx := B.exec
  have hb := B.bytes
  have hr := B.returns
  have hg : ∀ w ∈ sc_gw, w.before ([Value.ref h0] : List Value).toArray s = true := fun w h => atoms_spec (ws := sc_ws mq_Fo_init) B.pre w (List.mem_cons_of_mem _ h)
  have hown : s.vm.findClass "SightChart$Forgetting" = some m.cls := findClass_of_methodNamed B.named
  have hlocks := B.notSynchronized
  have hin : meth.name = "<init>" := (name_of_methodNamed B.named B.method).1
  subst hsz
  have hD : va_D (va_A [(h0, .inr (1, [.null, .null, .int 0, .int 0]))] s.heap.size) [(h0, .inr (1, [.null, .null, .int 0, .int 0]))] := ck_D_1 (va_A.in (k := 0) rfl)
  generalize hAe : va_A [(h0, .inr (1, [.null, .null, .int 0, .int 0]))] s.heap.size = A at hD ⊢
  have hA : ∀ q : Nat, s.heap.size ≤ q → A q := fun q h => by rw [← hAe]; exact Or.inr h
  have hS : va_S A s.heap s.heap [] := va_S.rf
  show W p l e (ct_rm 1 2 252) s m _ below meth c s.heap [] 0 0 _ _
  have hl := lv_entry ([.ref h0]) (n := 1) (Nat.le_of_ble_eq_true rfl)
  rw [lg_entry_eq]
  generalize (lg_sl ([.ref h0]) ++ List.replicate (1 - (lg_sl ([.ref h0])).length) Slot.unset).toArray = ls at hl ⊢
  have hl : lv_has ls 1 [(0, .ref h0)] := hl
  have hP : va_P G.1 vwCl ([(h0, .inr (1, [.null, .null, .int 0, .int 0]))]) _ := hP
  have hD : va_D A ([(h0, .inr (1, [.null, .null, .int 0, .int 0]))]) := hD
  refine lv_aload_n hx hb d_Fo_init_0 rfl (lv_at hl 0 rfl) ?_
  refine W.objInit hx hb hown (hg (.methodLink "SightChart$Forgetting" 3 Lib.objectInit) (sc_mem_ok (by decide +kernel))) (hg (.instanceMethod Lib.objectInit) (sc_mem_ok (by decide +kernel))) (hg _ ck_obj) rfl (by rw [hml]; exact hl.1) rfl d_Fo_init_1 (Nat.le_of_ble_eq_true rfl) (Nat.le_of_ble_eq_true rfl) ?_
  refine W.eq (g2 := F0 m 4 ls []) rfl ?_
  refine lv_aload_n hx hb d_Fo_init_4 rfl (lv_at hl 0 rfl) ?_
  refine lv_bipush (v := 9) hx hb d_Fo_init_5 (by decide) ?_
  refine ck_newa (atype := .int) (ty := .int) (t0 := 0) (cA := G.2.1 0) (N' := 9) (a0 := (9, .inl (fun _ => 0))) hx hb (hg (.arrayClass (newarray.typeOf .int)) (sc_mem_ok (by decide +kernel))) rfl hK rfl hP hD hS hA (fun _ => rfl) (by decide +kernel) (by decide +kernel) (ck_by (by decide) (by decide)) (by decide) (by decide) d_Fo_init_7 (fun q1 H hP hD hS => ?_)
  have hP : va_P G.1 vwCl ([(h0, .inr (1, [.null, .null, .int 0, .int 0])), (q1, .inl (G.2.1 0, 9, .inl (fun _ => 0)))]) H := hP
  have hD : va_D A ([(h0, .inr (1, [.null, .null, .int 0, .int 0])), (q1, .inl (G.2.1 0, 9, .inl (fun _ => 0)))]) := hD
  refine W.widen (k := 1) (n := 9) (by omega) (by omega) ?_
  refine va_putF (D := G.1) (ci := 1) (v := .ref q1) (ty := .array .int) (C := RX1) (T := TX1) (N := 4) hx hb hg sc_in1 tyX1 tyX1_ok nmX1 hown hK hP hD hS 0 rfl rfl 0 (by decide) (hg (.fieldLink "SightChart$Forgetting" 9 "SightChart$Forgetting" "slotStates" "[I") (sc_mem_ok (by decide +kernel))) (fun _ h9 => h9) rfl hin rfl (by decide +kernel) rfl rfl (Nat.le_of_ble_eq_true rfl) d_Fo_init_9 (fun H locs hP hD hS => ?_)
  have hP : va_P G.1 vwCl ([(h0, .inr (1, [.ref q1, .null, .int 0, .int 0])), (q1, .inl (G.2.1 0, 9, .inl (fun _ => 0)))]) H := hP
  have hD : va_D A ([(h0, .inr (1, [.ref q1, .null, .int 0, .int 0])), (q1, .inl (G.2.1 0, 9, .inl (fun _ => 0)))]) := hD
  refine lv_aload_n hx hb d_Fo_init_12 rfl (lv_at hl 0 rfl) ?_
  refine lv_sipush (v := 243) hx hb d_Fo_init_13 (by decide) ?_
  refine ck_newa (atype := .int) (ty := .int) (t0 := 0) (cA := G.2.1 0) (N' := 243) (a0 := (243, .inl (fun _ => 0))) hx hb (hg (.arrayClass (newarray.typeOf .int)) (sc_mem_ok (by decide +kernel))) rfl hK rfl hP hD hS hA (fun _ => rfl) (by decide +kernel) (by decide +kernel) (ck_by (by decide) (by decide)) (by decide) (by decide) d_Fo_init_16 (fun q2 H hP hD hS => ?_)
  have hP : va_P G.1 vwCl ([(h0, .inr (1, [.ref q1, .null, .int 0, .int 0])), (q1, .inl (G.2.1 0, 9, .inl (fun _ => 0))), (q2, .inl (G.2.1 0, 243, .inl (fun _ => 0)))]) H := hP
  have hD : va_D A ([(h0, .inr (1, [.ref q1, .null, .int 0, .int 0])), (q1, .inl (G.2.1 0, 9, .inl (fun _ => 0))), (q2, .inl (G.2.1 0, 243, .inl (fun _ => 0)))]) := hD
  refine W.widen (k := 2) (n := 252) (by omega) (by omega) ?_
  refine va_putF (D := G.1) (ci := 1) (v := .ref q2) (ty := .array .int) (C := RX1) (T := TX1) (N := 4) hx hb hg sc_in1 tyX1 tyX1_ok nmX1 hown hK hP hD hS 0 rfl rfl 1 (by decide) (hg (.fieldLink "SightChart$Forgetting" 15 "SightChart$Forgetting" "need" "[I") (sc_mem_ok (by decide +kernel))) (fun _ h9 => h9) rfl hin rfl (by decide +kernel) rfl rfl (Nat.le_of_ble_eq_true rfl) d_Fo_init_18 (fun H locs hP hD hS => ?_)
  have hP : va_P G.1 vwCl ([(h0, .inr (1, [.ref q1, .ref q2, .int 0, .int 0])), (q1, .inl (G.2.1 0, 9, .inl (fun _ => 0))), (q2, .inl (G.2.1 0, 243, .inl (fun _ => 0)))]) H := hP
  have hD : va_D A ([(h0, .inr (1, [.ref q1, .ref q2, .int 0, .int 0])), (q1, .inl (G.2.1 0, 9, .inl (fun _ => 0))), (q2, .inl (G.2.1 0, 243, .inl (fun _ => 0)))]) := hD
  have e : ck_w G (fun a => if a = 12 then h0 else if a = 13 then q1 else q2) [12, 13, 14] = [(h0, .inr (1, [.ref q1, .ref q2, .int 0, .int 0])), (q1, .inl (G.2.1 0, 9, .inl (fun _ => 0))), (q2, .inl (G.2.1 0, 243, .inl (fun _ => 0)))] := by
    unfold ck_w
    rw [List.map_cons, List.map_cons, List.map_cons, List.map_nil, ck_cel_12, ck_cel_13, ck_cel_14]
    rfl
  refine W.vret hx hb hr (fun t ht hW => ⟨⟨(fun a => if a = 12 then h0 else if a = 13 then q1 else q2), rfl, rfl, by rw [ht, e]; exact hP, by rw [e]; exact hD⟩, hS.F ht⟩) hS.2.2 d_Fo_init_21
/-! FILL -/
theorem ck_up4 (x : Int32) : upd (upd (upd (upd (fun _ => 0) 0 x) 1 x) 2 x) 3 x = fun i => if i < 4 then x else 0 := by
  funext i
  unfold upd
  rcases i with _ | _ | _ | _ | i
  · rfl
  · rfl
  · rfl
  · rfl
  · rw [if_neg (by omega), if_neg (by omega), if_neg (by omega), if_neg (by omega), if_neg (by omega)]
set_option maxHeartbeats 1000000 in
set_option maxRecDepth 100000 in
theorem ct_Ar_fillI (l : Launch) (G : sc_G) (h0 sz : Nat) : Met l mq_Ar_fillI.1 (sc_ws mq_Ar_fillI) (ct_rm 0 0 0) (va_Pc [.ref h0, .int (-1)] (fun U => U.heap.size = sz ∧ va_P G.1 vwCl [(h0, .inl (G.2.1 0, 4, .inl (fun _ => 0)))] U.heap ∧ va_K G.1 vwCl (sc_tys G) U)) (va_Qv (fun _ : Unit => True) (fun _ t => va_P G.1 vwCl [(h0, .inl (G.2.1 0, 4, .inl (fun i => if i < 4 then -1 else 0)))] t.heap ∧ va_D (va_A [(h0, .inl (G.2.1 0, 4, .inl (fun _ => 0)))] sz) [(h0, .inl (G.2.1 0, 4, .inl (fun i => if i < 4 then -1 else 0)))]) (va_A [(h0, .inl (G.2.1 0, 4, .inl (fun _ => 0)))] sz)) 0 0 (va_A [(h0, .inl (G.2.1 0, 4, .inl (fun _ => 0)))] sz) := by
  refine sc_ofW (cc := mq_Ar_fillI.2.1) (maxL := 4) (ret := none) (by decide +kernel) rfl ?_
  intro p e s m args below meth c s₁ B hml hv
  obtain ⟨rfl, hsz, hP, hK⟩ := hv
  have hx := B.exec
  have hb := B.bytes
  have hr := B.returns
  have hlocks := B.notSynchronized
  subst hsz
  have hD : va_D (va_A [(h0, .inl (G.2.1 0, 4, .inl (fun _ => 0)))] s.heap.size) [(h0, .inl (G.2.1 0, 4, .inl (fun _ => 0)))] := ck_D_1 (va_A.in (k := 0) rfl)
  generalize va_A [(h0, .inl (G.2.1 0, 4, .inl (fun _ => 0)))] s.heap.size = A at hD ⊢
  have hS : va_S A s.heap s.heap [] := va_S.rf
  show W p l e (ct_rm 0 0 0) s m _ below meth c s.heap [] 0 0 _ _
  have hl := lv_entry ([.ref h0, .int (-1)]) (n := 4) (Nat.le_of_ble_eq_true rfl)
  rw [lg_entry_eq]
  generalize (lg_sl ([.ref h0, .int (-1)]) ++ List.replicate (4 - (lg_sl ([.ref h0, .int (-1)])).length) Slot.unset).toArray = ls at hl ⊢
  have hl : lv_has ls 4 [(0, .ref h0), (1, .int (-1))] := hl
  refine lv_iconst (v := 0) hx hb d_Ar_fillI_0 (by decide) ?_
  refine lv_istore_n (lv' := [(2, .int 0), (0, .ref h0), (1, .int (-1))]) hx hb d_Ar_fillI_1 rfl hl (by decide) rfl (fun ls hl => ?_)
  refine lv_aload_n hx hb d_Ar_fillI_2 rfl (lv_at hl 1 rfl) ?_
  refine va_alen (v := 4) hx hb hK hP 0 0 rfl rfl rfl d_Ar_fillI_3 ?_
  refine lv_istore_n (lv' := [(3, .int 4), (2, .int 0), (0, .ref h0), (1, .int (-1))]) hx hb d_Ar_fillI_4 rfl hl (by decide) rfl (fun ls hl => ?_)
  have hl : lv_has ls 4 [(2, .int 0), (3, .int 4), (0, .ref h0), (1, .int (-1))] := lv_sub hl [1, 0, 2, 3] rfl
  refine lv_iload_n hx hb d_Ar_fillI_5 rfl (lv_at hl 0 rfl) ?_
  refine lv_iload_n hx hb d_Ar_fillI_6 rfl (lv_at hl 1 rfl) ?_
  refine lv_icmp_ge (tgt := 20) hx hb d_Ar_fillI_7 (by decide) (fun c9 => absurd c9 (by decide)) (fun _ => ?_)
  refine lv_aload_n hx hb d_Ar_fillI_10 rfl (lv_at hl 2 rfl) ?_
  refine lv_iload_n hx hb d_Ar_fillI_11 rfl (lv_at hl 0 rfl) ?_
  refine lv_iload_n hx hb d_Ar_fillI_12 rfl (lv_at hl 3 rfl) ?_
  refine va_iast hx hb hK hP hD hS 0 0 rfl rfl (show ¬ ((0 : Int32) < 0 ∨ 4 ≤ (0 : Int32).toNatClampNeg) by decide +kernel) d_Ar_fillI_13 (fun H locs hP hD hS => ?_)
  have hP : va_P G.1 vwCl [(h0, .inl (G.2.1 0, 4, .inl (upd (fun _ => 0) 0 (-1))))] H := hP
  have hD : va_D A [(h0, .inl (G.2.1 0, 4, .inl (upd (fun _ => 0) 0 (-1))))] := hD
  refine lv_iinc (v := 1) (lv' := [(2, .int 1), (3, .int 4), (0, .ref h0), (1, .int (-1))]) hx hb d_Ar_fillI_14 hl (k := 0) rfl (by decide) (by decide) rfl (fun ls hl => ?_)
  refine lv_goto (tgt := 5) hx hb d_Ar_fillI_17 (by decide) ?_
  refine lv_iload_n hx hb d_Ar_fillI_5 rfl (lv_at hl 0 rfl) ?_
  refine lv_iload_n hx hb d_Ar_fillI_6 rfl (lv_at hl 1 rfl) ?_
  refine lv_icmp_ge (tgt := 20) hx hb d_Ar_fillI_7 (by decide) (fun c9 => absurd c9 (by decide)) (fun _ => ?_)
  refine lv_aload_n hx hb d_Ar_fillI_10 rfl (lv_at hl 2 rfl) ?_
  refine lv_iload_n hx hb d_Ar_fillI_11 rfl (lv_at hl 0 rfl) ?_
  refine lv_iload_n hx hb d_Ar_fillI_12 rfl (lv_at hl 3 rfl) ?_
  refine va_iast hx hb hK hP hD hS 0 0 rfl rfl (show ¬ ((1 : Int32) < 0 ∨ 4 ≤ (1 : Int32).toNatClampNeg) by decide +kernel) d_Ar_fillI_13 (fun H locs hP hD hS => ?_)
  have hP : va_P G.1 vwCl [(h0, .inl (G.2.1 0, 4, .inl (upd (upd (fun _ => 0) 0 (-1)) 1 (-1))))] H := hP
  have hD : va_D A [(h0, .inl (G.2.1 0, 4, .inl (upd (upd (fun _ => 0) 0 (-1)) 1 (-1))))] := hD
  refine lv_iinc (v := 2) (lv' := [(2, .int 2), (3, .int 4), (0, .ref h0), (1, .int (-1))]) hx hb d_Ar_fillI_14 hl (k := 0) rfl (by decide) (by decide) rfl (fun ls hl => ?_)
  refine lv_goto (tgt := 5) hx hb d_Ar_fillI_17 (by decide) ?_
  refine lv_iload_n hx hb d_Ar_fillI_5 rfl (lv_at hl 0 rfl) ?_
  refine lv_iload_n hx hb d_Ar_fillI_6 rfl (lv_at hl 1 rfl) ?_
  refine lv_icmp_ge (tgt := 20) hx hb d_Ar_fillI_7 (by decide) (fun c9 => absurd c9 (by decide)) (fun _ => ?_)
  refine lv_aload_n hx hb d_Ar_fillI_10 rfl (lv_at hl 2 rfl) ?_
  refine lv_iload_n hx hb d_Ar_fillI_11 rfl (lv_at hl 0 rfl) ?_
  refine lv_iload_n hx hb d_Ar_fillI_12 rfl (lv_at hl 3 rfl) ?_
  refine va_iast hx hb hK hP hD hS 0 0 rfl rfl (show ¬ ((2 : Int32) < 0 ∨ 4 ≤ (2 : Int32).toNatClampNeg) by decide +kernel) d_Ar_fillI_13 (fun H locs hP hD hS => ?_)
  have hP : va_P G.1 vwCl [(h0, .inl (G.2.1 0, 4, .inl (upd (upd (upd (fun _ => 0) 0 (-1)) 1 (-1)) 2 (-1))))] H := hP
  have hD : va_D A [(h0, .inl (G.2.1 0, 4, .inl (upd (upd (upd (fun _ => 0) 0 (-1)) 1 (-1)) 2 (-1))))] := hD
  refine lv_iinc (v := 3) (lv' := [(2, .int 3), (3, .int 4), (0, .ref h0), (1, .int (-1))]) hx hb d_Ar_fillI_14 hl (k := 0) rfl (by decide) (by decide) rfl (fun ls hl => ?_)
  refine lv_goto (tgt := 5) hx hb d_Ar_fillI_17 (by decide) ?_
  refine lv_iload_n hx hb d_Ar_fillI_5 rfl (lv_at hl 0 rfl) ?_
  refine lv_iload_n hx hb d_Ar_fillI_6 rfl (lv_at hl 1 rfl) ?_
  refine lv_icmp_ge (tgt := 20) hx hb d_Ar_fillI_7 (by decide) (fun c9 => absurd c9 (by decide)) (fun _ => ?_)
  refine lv_aload_n hx hb d_Ar_fillI_10 rfl (lv_at hl 2 rfl) ?_
  refine lv_iload_n hx hb d_Ar_fillI_11 rfl (lv_at hl 0 rfl) ?_
  refine lv_iload_n hx hb d_Ar_fillI_12 rfl (lv_at hl 3 rfl) ?_
  refine va_iast hx hb hK hP hD hS 0 0 rfl rfl (show ¬ ((3 : Int32) < 0 ∨ 4 ≤ (3 : Int32).toNatClampNeg) by decide +kernel) d_Ar_fillI_13 (fun H locs hP hD hS => ?_)
  have hP : va_P G.1 vwCl [(h0, .inl (G.2.1 0, 4, .inl (upd (upd (upd (upd (fun _ => 0) 0 (-1)) 1 (-1)) 2 (-1)) 3 (-1))))] H := hP
  have hD : va_D A [(h0, .inl (G.2.1 0, 4, .inl (upd (upd (upd (upd (fun _ => 0) 0 (-1)) 1 (-1)) 2 (-1)) 3 (-1))))] := hD
  refine lv_iinc (v := 4) (lv' := [(2, .int 4), (3, .int 4), (0, .ref h0), (1, .int (-1))]) hx hb d_Ar_fillI_14 hl (k := 0) rfl (by decide) (by decide) rfl (fun ls hl => ?_)
  refine lv_goto (tgt := 5) hx hb d_Ar_fillI_17 (by decide) ?_
  refine lv_iload_n hx hb d_Ar_fillI_5 rfl (lv_at hl 0 rfl) ?_
  refine lv_iload_n hx hb d_Ar_fillI_6 rfl (lv_at hl 1 rfl) ?_
  refine lv_icmp_ge (tgt := 20) hx hb d_Ar_fillI_7 (by decide) (fun _ => ?_) (fun c9 => absurd (by decide) c9)
  rw [ck_up4] at hP hD
  refine W.vret hx hb hr (fun t ht hW => ⟨⟨(), rfl, trivial, by rw [ht]; exact hP, hD⟩, hS.F ht⟩) hS.2.2 d_Ar_fillI_20
/-! MODEL -/
def ck_Lmo : List Nat := [18, 19, 20, 21, 22, 23, 24, 25, 26, 27, 28, 29, 30, 31, 32, 33, 34, 35]
set_option maxHeartbeats 1000000 in
set_option maxRecDepth 100000 in
theorem ct_Mo_init (l : Launch) (G : sc_G) (h0 sz : Nat) : Met l mq_Mo_init.1 (sc_ws mq_Mo_init) (ct_rm 1 17 3927) (va_Pc [.ref h0] (ck_pre G 5 [.int 0, .null, .int 0, .long 0, .long 0, .int 0, .null, .null, .null, .null, .null, .null, .null, .int 0, .null, .null, .null, .null, .null, .null, .null, .null, .null] h0 sz)) (ck_Q G 18 ck_Lmo h0 (va_A [(h0, .inr (5, [.int 0, .null, .int 0, .long 0, .long 0, .int 0, .null, .null, .null, .null, .null, .null, .null, .int 0, .null, .null, .null, .null, .null, .null, .null, .null, .null]))] sz)) 17 3927 (va_A [(h0, .inr (5, [.int 0, .null, .int 0, .long 0, .long 0, .int 0, .null, .null, .null, .null, .null, .null, .null, .int 0, .null, .null, .null, .null, .null, .null, .null, .null, .null]))] sz) := by
  refine Met.ofW (cc := mq_Mo_init.2.1) (maxL := 2) (ret := none) (by decide) rfl ?_
  intro p e s m args below meth c s₁ B hml hv
  obtain ⟨rfl, hsz, hP, hK, hN⟩ := hv
  have hx := B.exec
  have hb := B.bytes
  have hr := B.returns
  have hg : ∀ w ∈ sc_gw, w.before ([Value.ref h0] : List Value).toArray s = true := fun w h => atoms_spec (ws := sc_ws mq_Mo_init) B.pre w (List.mem_cons_of_mem _ h)
  have hown : s.vm.findClass "SightChartModel" = some m.cls := findClass_of_methodNamed B.named
  have hlocks := B.notSynchronized
  have hin : meth.name = "<init>" := (name_of_methodNamed B.named B.method).1
  subst hsz
  have hD : va_D (va_A [(h0, .inr (5, [.int 0, .null, .int 0, .long 0, .long 0, .int 0, .null, .null, .null, .null, .null, .null, .null, .int 0, .null, .null, .null, .null, .null, .null, .null, .null, .null]))] s.heap.size) [(h0, .inr (5, [.int 0, .null, .int 0, .long 0, .long 0, .int 0, .null, .null, .null, .null, .null, .null, .null, .int 0, .null, .null, .null, .null, .null, .null, .null, .null, .null]))] := ck_D_1 (va_A.in (k := 0) rfl)
  generalize hAe : va_A [(h0, .inr (5, [.int 0, .null, .int 0, .long 0, .long 0, .int 0, .null, .null, .null, .null, .null, .null, .null, .int 0, .null, .null, .null, .null, .null, .null, .null, .null, .null]))] s.heap.size = A at hD ⊢
  have hA : ∀ q : Nat, s.heap.size ≤ q → A q := fun q h => by rw [← hAe]; exact Or.inr h
  have hS : va_S A s.heap s.heap [] := va_S.rf
  show W p l e (ct_rm 1 17 3927) s m _ below meth c s.heap [] 0 0 _ _
  have hl := lv_entry ([.ref h0]) (n := 2) (Nat.le_of_ble_eq_true rfl)
  rw [lg_entry_eq]
  generalize (lg_sl ([.ref h0]) ++ List.replicate (2 - (lg_sl ([.ref h0])).length) Slot.unset).toArray = ls at hl ⊢
  have hl : lv_has ls 2 [(0, .ref h0)] := hl
  have hP : va_P G.1 vwCl ([(h0, .inr (5, [.int 0, .null, .int 0, .long 0, .long 0, .int 0, .null, .null, .null, .null, .null, .null, .null, .int 0, .null, .null, .null, .null, .null, .null, .null, .null, .null]))]) _ := hP
  have hD : va_D A ([(h0, .inr (5, [.int 0, .null, .int 0, .long 0, .long 0, .int 0, .null, .null, .null, .null, .null, .null, .null, .int 0, .null, .null, .null, .null, .null, .null, .null, .null, .null]))]) := hD
  refine lv_aload_n hx hb d_Mo_init_0 rfl (lv_at hl 0 rfl) ?_
  refine W.objInit hx hb hown (hg (.methodLink "SightChartModel" 1 Lib.objectInit) (sc_mem_ok (by decide +kernel))) (hg (.instanceMethod Lib.objectInit) (sc_mem_ok (by decide +kernel))) (hg _ ck_obj) rfl (by rw [hml]; exact hl.1) rfl d_Mo_init_1 (Nat.le_of_ble_eq_true rfl) (Nat.le_of_ble_eq_true rfl) ?_
  refine W.eq (g2 := F0 m 4 ls []) rfl ?_
  refine lv_aload_n hx hb d_Mo_init_4 rfl (lv_at hl 0 rfl) ?_
  refine lv_bipush (v := 6) hx hb d_Mo_init_5 (by decide) ?_
  refine ck_newa (atype := .int) (ty := .int) (t0 := 0) (cA := G.2.1 0) (N' := 6) (a0 := (6, .inl (fun _ => 0))) hx hb (hg (.arrayClass (newarray.typeOf .int)) (sc_mem_ok (by decide +kernel))) rfl hK rfl hP hD hS hA (fun _ => rfl) (by decide +kernel) (by decide +kernel) (ck_by (by decide) (by decide)) (by decide) (by decide) d_Mo_init_7 (fun q19 H hP hD hS => ?_)
  have hP : va_P G.1 vwCl ([(h0, .inr (5, [.int 0, .null, .int 0, .long 0, .long 0, .int 0, .null, .null, .null, .null, .null, .null, .null, .int 0, .null, .null, .null, .null, .null, .null, .null, .null, .null])), (q19, .inl (G.2.1 0, 6, .inl (fun _ => 0)))]) H := hP
  have hD : va_D A ([(h0, .inr (5, [.int 0, .null, .int 0, .long 0, .long 0, .int 0, .null, .null, .null, .null, .null, .null, .null, .int 0, .null, .null, .null, .null, .null, .null, .null, .null, .null])), (q19, .inl (G.2.1 0, 6, .inl (fun _ => 0)))]) := hD
  refine W.widen (k := 1) (n := 6) (by omega) (by omega) ?_
  refine va_putF (D := G.1) (ci := 5) (v := .ref q19) (ty := .array .int) (C := RX5) (T := TX5) (N := 23) hx hb hg sc_in5 tyX5 tyX5_ok nmX5 hown hK hP hD hS 0 rfl rfl 1 (by decide) (hg (.fieldLink "SightChartModel" 7 "SightChartModel" "findings" "[I") (sc_mem_ok (by decide +kernel))) (fun _ h9 => h9) rfl hin rfl (by decide +kernel) rfl rfl (Nat.le_of_ble_eq_true rfl) d_Mo_init_9 (fun H locs hP hD hS => ?_)
  have hP : va_P G.1 vwCl ([(h0, .inr (5, [.int 0, .ref q19, .int 0, .long 0, .long 0, .int 0, .null, .null, .null, .null, .null, .null, .null, .int 0, .null, .null, .null, .null, .null, .null, .null, .null, .null])), (q19, .inl (G.2.1 0, 6, .inl (fun _ => 0)))]) H := hP
  have hD : va_D A ([(h0, .inr (5, [.int 0, .ref q19, .int 0, .long 0, .long 0, .int 0, .null, .null, .null, .null, .null, .null, .null, .int 0, .null, .null, .null, .null, .null, .null, .null, .null, .null])), (q19, .inl (G.2.1 0, 6, .inl (fun _ => 0)))]) := hD
  refine lv_aload_n hx hb d_Mo_init_12 rfl (lv_at hl 0 rfl) ?_
  refine lv_lconst (v := 1) hx hb d_Mo_init_13 (by decide) ?_
  refine va_put (D := G.1) (ci := 5) (v := .long 1) (ty := .long) (C := RX5) (T := TX5) (N := 23) hx hb hg sc_in5 tyX5 tyX5_ok nmX5 hown hK hP hD hS 0 rfl rfl 4 (by decide) (hg (.fieldLink "SightChartModel" 13 "SightChartModel" "lower" "J") (sc_mem_ok (by decide +kernel))) (fun _ h9 => h9) rfl (by decide +kernel) rfl rfl (Nat.le_of_ble_eq_true rfl) d_Mo_init_14 (fun H locs hP hD hS => ?_)
  have hP : va_P G.1 vwCl ([(h0, .inr (5, [.int 0, .ref q19, .int 0, .long 0, .long 1, .int 0, .null, .null, .null, .null, .null, .null, .null, .int 0, .null, .null, .null, .null, .null, .null, .null, .null, .null])), (q19, .inl (G.2.1 0, 6, .inl (fun _ => 0)))]) H := hP
  have hD : va_D A ([(h0, .inr (5, [.int 0, .ref q19, .int 0, .long 0, .long 1, .int 0, .null, .null, .null, .null, .null, .null, .null, .int 0, .null, .null, .null, .null, .null, .null, .null, .null, .null])), (q19, .inl (G.2.1 0, 6, .inl (fun _ => 0)))]) := hD
  refine lv_aload_n hx hb d_Mo_init_17 rfl (lv_at hl 0 rfl) ?_
  refine lv_bipush (v := 10) hx hb d_Mo_init_18 (by decide) ?_
  refine ck_newa (atype := .int) (ty := .int) (t0 := 0) (cA := G.2.1 0) (N' := 10) (a0 := (10, .inl (fun _ => 0))) hx hb (hg (.arrayClass (newarray.typeOf .int)) (sc_mem_ok (by decide +kernel))) rfl hK rfl hP hD hS hA (fun _ => rfl) (by decide +kernel) (by decide +kernel) (ck_by (by decide) (by decide)) (by decide) (by decide) d_Mo_init_20 (fun q20 H hP hD hS => ?_)
  have hP : va_P G.1 vwCl ([(h0, .inr (5, [.int 0, .ref q19, .int 0, .long 0, .long 1, .int 0, .null, .null, .null, .null, .null, .null, .null, .int 0, .null, .null, .null, .null, .null, .null, .null, .null, .null])), (q19, .inl (G.2.1 0, 6, .inl (fun _ => 0))), (q20, .inl (G.2.1 0, 10, .inl (fun _ => 0)))]) H := hP
  have hD : va_D A ([(h0, .inr (5, [.int 0, .ref q19, .int 0, .long 0, .long 1, .int 0, .null, .null, .null, .null, .null, .null, .null, .int 0, .null, .null, .null, .null, .null, .null, .null, .null, .null])), (q19, .inl (G.2.1 0, 6, .inl (fun _ => 0))), (q20, .inl (G.2.1 0, 10, .inl (fun _ => 0)))]) := hD
  refine W.widen (k := 2) (n := 16) (by omega) (by omega) ?_
  refine va_putF (D := G.1) (ci := 5) (v := .ref q20) (ty := .array .int) (C := RX5) (T := TX5) (N := 23) hx hb hg sc_in5 tyX5 tyX5_ok nmX5 hown hK hP hD hS 0 rfl rfl 6 (by decide) (hg (.fieldLink "SightChartModel" 17 "SightChartModel" "kinds" "[I") (sc_mem_ok (by decide +kernel))) (fun _ h9 => h9) rfl hin rfl (by decide +kernel) rfl rfl (Nat.le_of_ble_eq_true rfl) d_Mo_init_22 (fun H locs hP hD hS => ?_)
  have hP : va_P G.1 vwCl ([(h0, .inr (5, [.int 0, .ref q19, .int 0, .long 0, .long 1, .int 0, .ref q20, .null, .null, .null, .null, .null, .null, .int 0, .null, .null, .null, .null, .null, .null, .null, .null, .null])), (q19, .inl (G.2.1 0, 6, .inl (fun _ => 0))), (q20, .inl (G.2.1 0, 10, .inl (fun _ => 0)))]) H := hP
  have hD : va_D A ([(h0, .inr (5, [.int 0, .ref q19, .int 0, .long 0, .long 1, .int 0, .ref q20, .null, .null, .null, .null, .null, .null, .int 0, .null, .null, .null, .null, .null, .null, .null, .null, .null])), (q19, .inl (G.2.1 0, 6, .inl (fun _ => 0))), (q20, .inl (G.2.1 0, 10, .inl (fun _ => 0)))]) := hD
  refine lv_aload_n hx hb d_Mo_init_25 rfl (lv_at hl 0 rfl) ?_
  refine lv_bipush (v := 10) hx hb d_Mo_init_26 (by decide) ?_
  refine ck_newa (atype := .int) (ty := .int) (t0 := 0) (cA := G.2.1 0) (N' := 10) (a0 := (10, .inl (fun _ => 0))) hx hb (hg (.arrayClass (newarray.typeOf .int)) (sc_mem_ok (by decide +kernel))) rfl hK rfl hP hD hS hA (fun _ => rfl) (by decide +kernel) (by decide +kernel) (ck_by (by decide) (by decide)) (by decide) (by decide) d_Mo_init_28 (fun q21 H hP hD hS => ?_)
  have hP : va_P G.1 vwCl ([(h0, .inr (5, [.int 0, .ref q19, .int 0, .long 0, .long 1, .int 0, .ref q20, .null, .null, .null, .null, .null, .null, .int 0, .null, .null, .null, .null, .null, .null, .null, .null, .null])), (q19, .inl (G.2.1 0, 6, .inl (fun _ => 0))), (q20, .inl (G.2.1 0, 10, .inl (fun _ => 0))), (q21, .inl (G.2.1 0, 10, .inl (fun _ => 0)))]) H := hP
  have hD : va_D A ([(h0, .inr (5, [.int 0, .ref q19, .int 0, .long 0, .long 1, .int 0, .ref q20, .null, .null, .null, .null, .null, .null, .int 0, .null, .null, .null, .null, .null, .null, .null, .null, .null])), (q19, .inl (G.2.1 0, 6, .inl (fun _ => 0))), (q20, .inl (G.2.1 0, 10, .inl (fun _ => 0))), (q21, .inl (G.2.1 0, 10, .inl (fun _ => 0)))]) := hD
  refine W.widen (k := 3) (n := 26) (by omega) (by omega) ?_
  refine va_putF (D := G.1) (ci := 5) (v := .ref q21) (ty := .array .int) (C := RX5) (T := TX5) (N := 23) hx hb hg sc_in5 tyX5 tyX5_ok nmX5 hown hK hP hD hS 0 rfl rfl 7 (by decide) (hg (.fieldLink "SightChartModel" 20 "SightChartModel" "states" "[I") (sc_mem_ok (by decide +kernel))) (fun _ h9 => h9) rfl hin rfl (by decide +kernel) rfl rfl (Nat.le_of_ble_eq_true rfl) d_Mo_init_30 (fun H locs hP hD hS => ?_)
  have hP : va_P G.1 vwCl ([(h0, .inr (5, [.int 0, .ref q19, .int 0, .long 0, .long 1, .int 0, .ref q20, .ref q21, .null, .null, .null, .null, .null, .int 0, .null, .null, .null, .null, .null, .null, .null, .null, .null])), (q19, .inl (G.2.1 0, 6, .inl (fun _ => 0))), (q20, .inl (G.2.1 0, 10, .inl (fun _ => 0))), (q21, .inl (G.2.1 0, 10, .inl (fun _ => 0)))]) H := hP
  have hD : va_D A ([(h0, .inr (5, [.int 0, .ref q19, .int 0, .long 0, .long 1, .int 0, .ref q20, .ref q21, .null, .null, .null, .null, .null, .int 0, .null, .null, .null, .null, .null, .null, .null, .null, .null])), (q19, .inl (G.2.1 0, 6, .inl (fun _ => 0))), (q20, .inl (G.2.1 0, 10, .inl (fun _ => 0))), (q21, .inl (G.2.1 0, 10, .inl (fun _ => 0)))]) := hD
  refine lv_aload_n hx hb d_Mo_init_33 rfl (lv_at hl 0 rfl) ?_
  refine lv_bipush (v := 10) hx hb d_Mo_init_34 (by decide) ?_
  refine ck_newa (atype := .int) (ty := .int) (t0 := 0) (cA := G.2.1 0) (N' := 10) (a0 := (10, .inl (fun _ => 0))) hx hb (hg (.arrayClass (newarray.typeOf .int)) (sc_mem_ok (by decide +kernel))) rfl hK rfl hP hD hS hA (fun _ => rfl) (by decide +kernel) (by decide +kernel) (ck_by (by decide) (by decide)) (by decide) (by decide) d_Mo_init_36 (fun q22 H hP hD hS => ?_)
  have hP : va_P G.1 vwCl ([(h0, .inr (5, [.int 0, .ref q19, .int 0, .long 0, .long 1, .int 0, .ref q20, .ref q21, .null, .null, .null, .null, .null, .int 0, .null, .null, .null, .null, .null, .null, .null, .null, .null])), (q19, .inl (G.2.1 0, 6, .inl (fun _ => 0))), (q20, .inl (G.2.1 0, 10, .inl (fun _ => 0))), (q21, .inl (G.2.1 0, 10, .inl (fun _ => 0))), (q22, .inl (G.2.1 0, 10, .inl (fun _ => 0)))]) H := hP
  have hD : va_D A ([(h0, .inr (5, [.int 0, .ref q19, .int 0, .long 0, .long 1, .int 0, .ref q20, .ref q21, .null, .null, .null, .null, .null, .int 0, .null, .null, .null, .null, .null, .null, .null, .null, .null])), (q19, .inl (G.2.1 0, 6, .inl (fun _ => 0))), (q20, .inl (G.2.1 0, 10, .inl (fun _ => 0))), (q21, .inl (G.2.1 0, 10, .inl (fun _ => 0))), (q22, .inl (G.2.1 0, 10, .inl (fun _ => 0)))]) := hD
  refine W.widen (k := 4) (n := 36) (by omega) (by omega) ?_
  refine va_putF (D := G.1) (ci := 5) (v := .ref q22) (ty := .array .int) (C := RX5) (T := TX5) (N := 23) hx hb hg sc_in5 tyX5 tyX5_ok nmX5 hown hK hP hD hS 0 rfl rfl 8 (by decide) (hg (.fieldLink "SightChartModel" 23 "SightChartModel" "parents" "[I") (sc_mem_ok (by decide +kernel))) (fun _ h9 => h9) rfl hin rfl (by decide +kernel) rfl rfl (Nat.le_of_ble_eq_true rfl) d_Mo_init_38 (fun H locs hP hD hS => ?_)
  have hP : va_P G.1 vwCl ([(h0, .inr (5, [.int 0, .ref q19, .int 0, .long 0, .long 1, .int 0, .ref q20, .ref q21, .ref q22, .null, .null, .null, .null, .int 0, .null, .null, .null, .null, .null, .null, .null, .null, .null])), (q19, .inl (G.2.1 0, 6, .inl (fun _ => 0))), (q20, .inl (G.2.1 0, 10, .inl (fun _ => 0))), (q21, .inl (G.2.1 0, 10, .inl (fun _ => 0))), (q22, .inl (G.2.1 0, 10, .inl (fun _ => 0)))]) H := hP
  have hD : va_D A ([(h0, .inr (5, [.int 0, .ref q19, .int 0, .long 0, .long 1, .int 0, .ref q20, .ref q21, .ref q22, .null, .null, .null, .null, .int 0, .null, .null, .null, .null, .null, .null, .null, .null, .null])), (q19, .inl (G.2.1 0, 6, .inl (fun _ => 0))), (q20, .inl (G.2.1 0, 10, .inl (fun _ => 0))), (q21, .inl (G.2.1 0, 10, .inl (fun _ => 0))), (q22, .inl (G.2.1 0, 10, .inl (fun _ => 0)))]) := hD
  refine lv_aload_n hx hb d_Mo_init_41 rfl (lv_at hl 0 rfl) ?_
  refine lv_bipush (v := 30) hx hb d_Mo_init_42 (by decide) ?_
  refine ck_newa (atype := .int) (ty := .int) (t0 := 0) (cA := G.2.1 0) (N' := 30) (a0 := (30, .inl (fun _ => 0))) hx hb (hg (.arrayClass (newarray.typeOf .int)) (sc_mem_ok (by decide +kernel))) rfl hK rfl hP hD hS hA (fun _ => rfl) (by decide +kernel) (by decide +kernel) (ck_by (by decide) (by decide)) (by decide) (by decide) d_Mo_init_44 (fun q23 H hP hD hS => ?_)
  have hP : va_P G.1 vwCl ([(h0, .inr (5, [.int 0, .ref q19, .int 0, .long 0, .long 1, .int 0, .ref q20, .ref q21, .ref q22, .null, .null, .null, .null, .int 0, .null, .null, .null, .null, .null, .null, .null, .null, .null])), (q19, .inl (G.2.1 0, 6, .inl (fun _ => 0))), (q20, .inl (G.2.1 0, 10, .inl (fun _ => 0))), (q21, .inl (G.2.1 0, 10, .inl (fun _ => 0))), (q22, .inl (G.2.1 0, 10, .inl (fun _ => 0))), (q23, .inl (G.2.1 0, 30, .inl (fun _ => 0)))]) H := hP
  have hD : va_D A ([(h0, .inr (5, [.int 0, .ref q19, .int 0, .long 0, .long 1, .int 0, .ref q20, .ref q21, .ref q22, .null, .null, .null, .null, .int 0, .null, .null, .null, .null, .null, .null, .null, .null, .null])), (q19, .inl (G.2.1 0, 6, .inl (fun _ => 0))), (q20, .inl (G.2.1 0, 10, .inl (fun _ => 0))), (q21, .inl (G.2.1 0, 10, .inl (fun _ => 0))), (q22, .inl (G.2.1 0, 10, .inl (fun _ => 0))), (q23, .inl (G.2.1 0, 30, .inl (fun _ => 0)))]) := hD
  refine W.widen (k := 5) (n := 66) (by omega) (by omega) ?_
  refine va_putF (D := G.1) (ci := 5) (v := .ref q23) (ty := .array .int) (C := RX5) (T := TX5) (N := 23) hx hb hg sc_in5 tyX5 tyX5_ok nmX5 hown hK hP hD hS 0 rfl rfl 9 (by decide) (hg (.fieldLink "SightChartModel" 26 "SightChartModel" "parentRow" "[I") (sc_mem_ok (by decide +kernel))) (fun _ h9 => h9) rfl hin rfl (by decide +kernel) rfl rfl (Nat.le_of_ble_eq_true rfl) d_Mo_init_46 (fun H locs hP hD hS => ?_)
  have hP : va_P G.1 vwCl ([(h0, .inr (5, [.int 0, .ref q19, .int 0, .long 0, .long 1, .int 0, .ref q20, .ref q21, .ref q22, .ref q23, .null, .null, .null, .int 0, .null, .null, .null, .null, .null, .null, .null, .null, .null])), (q19, .inl (G.2.1 0, 6, .inl (fun _ => 0))), (q20, .inl (G.2.1 0, 10, .inl (fun _ => 0))), (q21, .inl (G.2.1 0, 10, .inl (fun _ => 0))), (q22, .inl (G.2.1 0, 10, .inl (fun _ => 0))), (q23, .inl (G.2.1 0, 30, .inl (fun _ => 0)))]) H := hP
  have hD : va_D A ([(h0, .inr (5, [.int 0, .ref q19, .int 0, .long 0, .long 1, .int 0, .ref q20, .ref q21, .ref q22, .ref q23, .null, .null, .null, .int 0, .null, .null, .null, .null, .null, .null, .null, .null, .null])), (q19, .inl (G.2.1 0, 6, .inl (fun _ => 0))), (q20, .inl (G.2.1 0, 10, .inl (fun _ => 0))), (q21, .inl (G.2.1 0, 10, .inl (fun _ => 0))), (q22, .inl (G.2.1 0, 10, .inl (fun _ => 0))), (q23, .inl (G.2.1 0, 30, .inl (fun _ => 0)))]) := hD
  refine lv_aload_n hx hb d_Mo_init_49 rfl (lv_at hl 0 rfl) ?_
  refine lv_bipush (v := 10) hx hb d_Mo_init_50 (by decide) ?_
  refine ck_newa (atype := .int) (ty := .int) (t0 := 0) (cA := G.2.1 0) (N' := 10) (a0 := (10, .inl (fun _ => 0))) hx hb (hg (.arrayClass (newarray.typeOf .int)) (sc_mem_ok (by decide +kernel))) rfl hK rfl hP hD hS hA (fun _ => rfl) (by decide +kernel) (by decide +kernel) (ck_by (by decide) (by decide)) (by decide) (by decide) d_Mo_init_52 (fun q24 H hP hD hS => ?_)
  have hP : va_P G.1 vwCl ([(h0, .inr (5, [.int 0, .ref q19, .int 0, .long 0, .long 1, .int 0, .ref q20, .ref q21, .ref q22, .ref q23, .null, .null, .null, .int 0, .null, .null, .null, .null, .null, .null, .null, .null, .null])), (q19, .inl (G.2.1 0, 6, .inl (fun _ => 0))), (q20, .inl (G.2.1 0, 10, .inl (fun _ => 0))), (q21, .inl (G.2.1 0, 10, .inl (fun _ => 0))), (q22, .inl (G.2.1 0, 10, .inl (fun _ => 0))), (q23, .inl (G.2.1 0, 30, .inl (fun _ => 0))), (q24, .inl (G.2.1 0, 10, .inl (fun _ => 0)))]) H := hP
  have hD : va_D A ([(h0, .inr (5, [.int 0, .ref q19, .int 0, .long 0, .long 1, .int 0, .ref q20, .ref q21, .ref q22, .ref q23, .null, .null, .null, .int 0, .null, .null, .null, .null, .null, .null, .null, .null, .null])), (q19, .inl (G.2.1 0, 6, .inl (fun _ => 0))), (q20, .inl (G.2.1 0, 10, .inl (fun _ => 0))), (q21, .inl (G.2.1 0, 10, .inl (fun _ => 0))), (q22, .inl (G.2.1 0, 10, .inl (fun _ => 0))), (q23, .inl (G.2.1 0, 30, .inl (fun _ => 0))), (q24, .inl (G.2.1 0, 10, .inl (fun _ => 0)))]) := hD
  refine W.widen (k := 6) (n := 76) (by omega) (by omega) ?_
  refine va_putF (D := G.1) (ci := 5) (v := .ref q24) (ty := .array .int) (C := RX5) (T := TX5) (N := 23) hx hb hg sc_in5 tyX5 tyX5_ok nmX5 hown hK hP hD hS 0 rfl rfl 10 (by decide) (hg (.fieldLink "SightChartModel" 29 "SightChartModel" "sights" "[I") (sc_mem_ok (by decide +kernel))) (fun _ h9 => h9) rfl hin rfl (by decide +kernel) rfl rfl (Nat.le_of_ble_eq_true rfl) d_Mo_init_54 (fun H locs hP hD hS => ?_)
  have hP : va_P G.1 vwCl ([(h0, .inr (5, [.int 0, .ref q19, .int 0, .long 0, .long 1, .int 0, .ref q20, .ref q21, .ref q22, .ref q23, .ref q24, .null, .null, .int 0, .null, .null, .null, .null, .null, .null, .null, .null, .null])), (q19, .inl (G.2.1 0, 6, .inl (fun _ => 0))), (q20, .inl (G.2.1 0, 10, .inl (fun _ => 0))), (q21, .inl (G.2.1 0, 10, .inl (fun _ => 0))), (q22, .inl (G.2.1 0, 10, .inl (fun _ => 0))), (q23, .inl (G.2.1 0, 30, .inl (fun _ => 0))), (q24, .inl (G.2.1 0, 10, .inl (fun _ => 0)))]) H := hP
  have hD : va_D A ([(h0, .inr (5, [.int 0, .ref q19, .int 0, .long 0, .long 1, .int 0, .ref q20, .ref q21, .ref q22, .ref q23, .ref q24, .null, .null, .int 0, .null, .null, .null, .null, .null, .null, .null, .null, .null])), (q19, .inl (G.2.1 0, 6, .inl (fun _ => 0))), (q20, .inl (G.2.1 0, 10, .inl (fun _ => 0))), (q21, .inl (G.2.1 0, 10, .inl (fun _ => 0))), (q22, .inl (G.2.1 0, 10, .inl (fun _ => 0))), (q23, .inl (G.2.1 0, 30, .inl (fun _ => 0))), (q24, .inl (G.2.1 0, 10, .inl (fun _ => 0)))]) := hD
  refine lv_aload_n hx hb d_Mo_init_57 rfl (lv_at hl 0 rfl) ?_
  refine lv_bipush (v := 10) hx hb d_Mo_init_58 (by decide) ?_
  refine ck_newa (atype := .int) (ty := .int) (t0 := 0) (cA := G.2.1 0) (N' := 10) (a0 := (10, .inl (fun _ => 0))) hx hb (hg (.arrayClass (newarray.typeOf .int)) (sc_mem_ok (by decide +kernel))) rfl hK rfl hP hD hS hA (fun _ => rfl) (by decide +kernel) (by decide +kernel) (ck_by (by decide) (by decide)) (by decide) (by decide) d_Mo_init_60 (fun q25 H hP hD hS => ?_)
  have hP : va_P G.1 vwCl ([(h0, .inr (5, [.int 0, .ref q19, .int 0, .long 0, .long 1, .int 0, .ref q20, .ref q21, .ref q22, .ref q23, .ref q24, .null, .null, .int 0, .null, .null, .null, .null, .null, .null, .null, .null, .null])), (q19, .inl (G.2.1 0, 6, .inl (fun _ => 0))), (q20, .inl (G.2.1 0, 10, .inl (fun _ => 0))), (q21, .inl (G.2.1 0, 10, .inl (fun _ => 0))), (q22, .inl (G.2.1 0, 10, .inl (fun _ => 0))), (q23, .inl (G.2.1 0, 30, .inl (fun _ => 0))), (q24, .inl (G.2.1 0, 10, .inl (fun _ => 0))), (q25, .inl (G.2.1 0, 10, .inl (fun _ => 0)))]) H := hP
  have hD : va_D A ([(h0, .inr (5, [.int 0, .ref q19, .int 0, .long 0, .long 1, .int 0, .ref q20, .ref q21, .ref q22, .ref q23, .ref q24, .null, .null, .int 0, .null, .null, .null, .null, .null, .null, .null, .null, .null])), (q19, .inl (G.2.1 0, 6, .inl (fun _ => 0))), (q20, .inl (G.2.1 0, 10, .inl (fun _ => 0))), (q21, .inl (G.2.1 0, 10, .inl (fun _ => 0))), (q22, .inl (G.2.1 0, 10, .inl (fun _ => 0))), (q23, .inl (G.2.1 0, 30, .inl (fun _ => 0))), (q24, .inl (G.2.1 0, 10, .inl (fun _ => 0))), (q25, .inl (G.2.1 0, 10, .inl (fun _ => 0)))]) := hD
  refine W.widen (k := 7) (n := 86) (by omega) (by omega) ?_
  refine va_putF (D := G.1) (ci := 5) (v := .ref q25) (ty := .array .int) (C := RX5) (T := TX5) (N := 23) hx hb hg sc_in5 tyX5 tyX5_ok nmX5 hown hK hP hD hS 0 rfl rfl 11 (by decide) (hg (.fieldLink "SightChartModel" 32 "SightChartModel" "firms" "[I") (sc_mem_ok (by decide +kernel))) (fun _ h9 => h9) rfl hin rfl (by decide +kernel) rfl rfl (Nat.le_of_ble_eq_true rfl) d_Mo_init_62 (fun H locs hP hD hS => ?_)
  have hP : va_P G.1 vwCl ([(h0, .inr (5, [.int 0, .ref q19, .int 0, .long 0, .long 1, .int 0, .ref q20, .ref q21, .ref q22, .ref q23, .ref q24, .ref q25, .null, .int 0, .null, .null, .null, .null, .null, .null, .null, .null, .null])), (q19, .inl (G.2.1 0, 6, .inl (fun _ => 0))), (q20, .inl (G.2.1 0, 10, .inl (fun _ => 0))), (q21, .inl (G.2.1 0, 10, .inl (fun _ => 0))), (q22, .inl (G.2.1 0, 10, .inl (fun _ => 0))), (q23, .inl (G.2.1 0, 30, .inl (fun _ => 0))), (q24, .inl (G.2.1 0, 10, .inl (fun _ => 0))), (q25, .inl (G.2.1 0, 10, .inl (fun _ => 0)))]) H := hP
  have hD : va_D A ([(h0, .inr (5, [.int 0, .ref q19, .int 0, .long 0, .long 1, .int 0, .ref q20, .ref q21, .ref q22, .ref q23, .ref q24, .ref q25, .null, .int 0, .null, .null, .null, .null, .null, .null, .null, .null, .null])), (q19, .inl (G.2.1 0, 6, .inl (fun _ => 0))), (q20, .inl (G.2.1 0, 10, .inl (fun _ => 0))), (q21, .inl (G.2.1 0, 10, .inl (fun _ => 0))), (q22, .inl (G.2.1 0, 10, .inl (fun _ => 0))), (q23, .inl (G.2.1 0, 30, .inl (fun _ => 0))), (q24, .inl (G.2.1 0, 10, .inl (fun _ => 0))), (q25, .inl (G.2.1 0, 10, .inl (fun _ => 0)))]) := hD
  refine lv_aload_n hx hb d_Mo_init_65 rfl (lv_at hl 0 rfl) ?_
  refine lv_sipush (v := 270) hx hb d_Mo_init_66 (by decide) ?_
  refine ck_newa (atype := .int) (ty := .int) (t0 := 0) (cA := G.2.1 0) (N' := 270) (a0 := (270, .inl (fun _ => 0))) hx hb (hg (.arrayClass (newarray.typeOf .int)) (sc_mem_ok (by decide +kernel))) rfl hK rfl hP hD hS hA (fun _ => rfl) (by decide +kernel) (by decide +kernel) (ck_by (by decide) (by decide)) (by decide) (by decide) d_Mo_init_69 (fun q26 H hP hD hS => ?_)
  have hP : va_P G.1 vwCl ([(h0, .inr (5, [.int 0, .ref q19, .int 0, .long 0, .long 1, .int 0, .ref q20, .ref q21, .ref q22, .ref q23, .ref q24, .ref q25, .null, .int 0, .null, .null, .null, .null, .null, .null, .null, .null, .null])), (q19, .inl (G.2.1 0, 6, .inl (fun _ => 0))), (q20, .inl (G.2.1 0, 10, .inl (fun _ => 0))), (q21, .inl (G.2.1 0, 10, .inl (fun _ => 0))), (q22, .inl (G.2.1 0, 10, .inl (fun _ => 0))), (q23, .inl (G.2.1 0, 30, .inl (fun _ => 0))), (q24, .inl (G.2.1 0, 10, .inl (fun _ => 0))), (q25, .inl (G.2.1 0, 10, .inl (fun _ => 0))), (q26, .inl (G.2.1 0, 270, .inl (fun _ => 0)))]) H := hP
  have hD : va_D A ([(h0, .inr (5, [.int 0, .ref q19, .int 0, .long 0, .long 1, .int 0, .ref q20, .ref q21, .ref q22, .ref q23, .ref q24, .ref q25, .null, .int 0, .null, .null, .null, .null, .null, .null, .null, .null, .null])), (q19, .inl (G.2.1 0, 6, .inl (fun _ => 0))), (q20, .inl (G.2.1 0, 10, .inl (fun _ => 0))), (q21, .inl (G.2.1 0, 10, .inl (fun _ => 0))), (q22, .inl (G.2.1 0, 10, .inl (fun _ => 0))), (q23, .inl (G.2.1 0, 30, .inl (fun _ => 0))), (q24, .inl (G.2.1 0, 10, .inl (fun _ => 0))), (q25, .inl (G.2.1 0, 10, .inl (fun _ => 0))), (q26, .inl (G.2.1 0, 270, .inl (fun _ => 0)))]) := hD
  refine W.widen (k := 8) (n := 356) (by omega) (by omega) ?_
  refine va_putF (D := G.1) (ci := 5) (v := .ref q26) (ty := .array .int) (C := RX5) (T := TX5) (N := 23) hx hb hg sc_in5 tyX5 tyX5_ok nmX5 hown hK hP hD hS 0 rfl rfl 12 (by decide) (hg (.fieldLink "SightChartModel" 35 "SightChartModel" "tables" "[I") (sc_mem_ok (by decide +kernel))) (fun _ h9 => h9) rfl hin rfl (by decide +kernel) rfl rfl (Nat.le_of_ble_eq_true rfl) d_Mo_init_71 (fun H locs hP hD hS => ?_)
  have hP : va_P G.1 vwCl ([(h0, .inr (5, [.int 0, .ref q19, .int 0, .long 0, .long 1, .int 0, .ref q20, .ref q21, .ref q22, .ref q23, .ref q24, .ref q25, .ref q26, .int 0, .null, .null, .null, .null, .null, .null, .null, .null, .null])), (q19, .inl (G.2.1 0, 6, .inl (fun _ => 0))), (q20, .inl (G.2.1 0, 10, .inl (fun _ => 0))), (q21, .inl (G.2.1 0, 10, .inl (fun _ => 0))), (q22, .inl (G.2.1 0, 10, .inl (fun _ => 0))), (q23, .inl (G.2.1 0, 30, .inl (fun _ => 0))), (q24, .inl (G.2.1 0, 10, .inl (fun _ => 0))), (q25, .inl (G.2.1 0, 10, .inl (fun _ => 0))), (q26, .inl (G.2.1 0, 270, .inl (fun _ => 0)))]) H := hP
  have hD : va_D A ([(h0, .inr (5, [.int 0, .ref q19, .int 0, .long 0, .long 1, .int 0, .ref q20, .ref q21, .ref q22, .ref q23, .ref q24, .ref q25, .ref q26, .int 0, .null, .null, .null, .null, .null, .null, .null, .null, .null])), (q19, .inl (G.2.1 0, 6, .inl (fun _ => 0))), (q20, .inl (G.2.1 0, 10, .inl (fun _ => 0))), (q21, .inl (G.2.1 0, 10, .inl (fun _ => 0))), (q22, .inl (G.2.1 0, 10, .inl (fun _ => 0))), (q23, .inl (G.2.1 0, 30, .inl (fun _ => 0))), (q24, .inl (G.2.1 0, 10, .inl (fun _ => 0))), (q25, .inl (G.2.1 0, 10, .inl (fun _ => 0))), (q26, .inl (G.2.1 0, 270, .inl (fun _ => 0)))]) := hD
  refine lv_aload_n hx hb d_Mo_init_74 rfl (lv_at hl 0 rfl) ?_
  refine lv_bipush (v := -9) hx hb d_Mo_init_75 (by decide) ?_
  refine va_put (D := G.1) (ci := 5) (v := .int (-9)) (ty := .int) (C := RX5) (T := TX5) (N := 23) hx hb hg sc_in5 tyX5 tyX5_ok nmX5 hown hK hP hD hS 0 rfl rfl 13 (by decide) (hg (.fieldLink "SightChartModel" 38 "SightChartModel" "hand" "I") (sc_mem_ok (by decide +kernel))) (fun _ h9 => h9) rfl (by decide +kernel) rfl rfl (Nat.le_of_ble_eq_true rfl) d_Mo_init_77 (fun H locs hP hD hS => ?_)
  have hP : va_P G.1 vwCl ([(h0, .inr (5, [.int 0, .ref q19, .int 0, .long 0, .long 1, .int 0, .ref q20, .ref q21, .ref q22, .ref q23, .ref q24, .ref q25, .ref q26, .int (-9), .null, .null, .null, .null, .null, .null, .null, .null, .null])), (q19, .inl (G.2.1 0, 6, .inl (fun _ => 0))), (q20, .inl (G.2.1 0, 10, .inl (fun _ => 0))), (q21, .inl (G.2.1 0, 10, .inl (fun _ => 0))), (q22, .inl (G.2.1 0, 10, .inl (fun _ => 0))), (q23, .inl (G.2.1 0, 30, .inl (fun _ => 0))), (q24, .inl (G.2.1 0, 10, .inl (fun _ => 0))), (q25, .inl (G.2.1 0, 10, .inl (fun _ => 0))), (q26, .inl (G.2.1 0, 270, .inl (fun _ => 0)))]) H := hP
  have hD : va_D A ([(h0, .inr (5, [.int 0, .ref q19, .int 0, .long 0, .long 1, .int 0, .ref q20, .ref q21, .ref q22, .ref q23, .ref q24, .ref q25, .ref q26, .int (-9), .null, .null, .null, .null, .null, .null, .null, .null, .null])), (q19, .inl (G.2.1 0, 6, .inl (fun _ => 0))), (q20, .inl (G.2.1 0, 10, .inl (fun _ => 0))), (q21, .inl (G.2.1 0, 10, .inl (fun _ => 0))), (q22, .inl (G.2.1 0, 10, .inl (fun _ => 0))), (q23, .inl (G.2.1 0, 30, .inl (fun _ => 0))), (q24, .inl (G.2.1 0, 10, .inl (fun _ => 0))), (q25, .inl (G.2.1 0, 10, .inl (fun _ => 0))), (q26, .inl (G.2.1 0, 270, .inl (fun _ => 0)))]) := hD
  refine lv_aload_n hx hb d_Mo_init_80 rfl (lv_at hl 0 rfl) ?_
  refine lv_bipush (v := 10) hx hb d_Mo_init_81 (by decide) ?_
  refine ck_newa (atype := .int) (ty := .int) (t0 := 0) (cA := G.2.1 0) (N' := 10) (a0 := (10, .inl (fun _ => 0))) hx hb (hg (.arrayClass (newarray.typeOf .int)) (sc_mem_ok (by decide +kernel))) rfl hK rfl hP hD hS hA (fun _ => rfl) (by decide +kernel) (by decide +kernel) (ck_by (by decide) (by decide)) (by decide) (by decide) d_Mo_init_83 (fun q27 H hP hD hS => ?_)
  have hP : va_P G.1 vwCl ([(h0, .inr (5, [.int 0, .ref q19, .int 0, .long 0, .long 1, .int 0, .ref q20, .ref q21, .ref q22, .ref q23, .ref q24, .ref q25, .ref q26, .int (-9), .null, .null, .null, .null, .null, .null, .null, .null, .null])), (q19, .inl (G.2.1 0, 6, .inl (fun _ => 0))), (q20, .inl (G.2.1 0, 10, .inl (fun _ => 0))), (q21, .inl (G.2.1 0, 10, .inl (fun _ => 0))), (q22, .inl (G.2.1 0, 10, .inl (fun _ => 0))), (q23, .inl (G.2.1 0, 30, .inl (fun _ => 0))), (q24, .inl (G.2.1 0, 10, .inl (fun _ => 0))), (q25, .inl (G.2.1 0, 10, .inl (fun _ => 0))), (q26, .inl (G.2.1 0, 270, .inl (fun _ => 0))), (q27, .inl (G.2.1 0, 10, .inl (fun _ => 0)))]) H := hP
  have hD : va_D A ([(h0, .inr (5, [.int 0, .ref q19, .int 0, .long 0, .long 1, .int 0, .ref q20, .ref q21, .ref q22, .ref q23, .ref q24, .ref q25, .ref q26, .int (-9), .null, .null, .null, .null, .null, .null, .null, .null, .null])), (q19, .inl (G.2.1 0, 6, .inl (fun _ => 0))), (q20, .inl (G.2.1 0, 10, .inl (fun _ => 0))), (q21, .inl (G.2.1 0, 10, .inl (fun _ => 0))), (q22, .inl (G.2.1 0, 10, .inl (fun _ => 0))), (q23, .inl (G.2.1 0, 30, .inl (fun _ => 0))), (q24, .inl (G.2.1 0, 10, .inl (fun _ => 0))), (q25, .inl (G.2.1 0, 10, .inl (fun _ => 0))), (q26, .inl (G.2.1 0, 270, .inl (fun _ => 0))), (q27, .inl (G.2.1 0, 10, .inl (fun _ => 0)))]) := hD
  refine W.widen (k := 9) (n := 366) (by omega) (by omega) ?_
  refine va_putF (D := G.1) (ci := 5) (v := .ref q27) (ty := .array .int) (C := RX5) (T := TX5) (N := 23) hx hb hg sc_in5 tyX5 tyX5_ok nmX5 hown hK hP hD hS 0 rfl rfl 14 (by decide) (hg (.fieldLink "SightChartModel" 42 "SightChartModel" "now" "[I") (sc_mem_ok (by decide +kernel))) (fun _ h9 => h9) rfl hin rfl (by decide +kernel) rfl rfl (Nat.le_of_ble_eq_true rfl) d_Mo_init_85 (fun H locs hP hD hS => ?_)
  have hP : va_P G.1 vwCl ([(h0, .inr (5, [.int 0, .ref q19, .int 0, .long 0, .long 1, .int 0, .ref q20, .ref q21, .ref q22, .ref q23, .ref q24, .ref q25, .ref q26, .int (-9), .ref q27, .null, .null, .null, .null, .null, .null, .null, .null])), (q19, .inl (G.2.1 0, 6, .inl (fun _ => 0))), (q20, .inl (G.2.1 0, 10, .inl (fun _ => 0))), (q21, .inl (G.2.1 0, 10, .inl (fun _ => 0))), (q22, .inl (G.2.1 0, 10, .inl (fun _ => 0))), (q23, .inl (G.2.1 0, 30, .inl (fun _ => 0))), (q24, .inl (G.2.1 0, 10, .inl (fun _ => 0))), (q25, .inl (G.2.1 0, 10, .inl (fun _ => 0))), (q26, .inl (G.2.1 0, 270, .inl (fun _ => 0))), (q27, .inl (G.2.1 0, 10, .inl (fun _ => 0)))]) H := hP
  have hD : va_D A ([(h0, .inr (5, [.int 0, .ref q19, .int 0, .long 0, .long 1, .int 0, .ref q20, .ref q21, .ref q22, .ref q23, .ref q24, .ref q25, .ref q26, .int (-9), .ref q27, .null, .null, .null, .null, .null, .null, .null, .null])), (q19, .inl (G.2.1 0, 6, .inl (fun _ => 0))), (q20, .inl (G.2.1 0, 10, .inl (fun _ => 0))), (q21, .inl (G.2.1 0, 10, .inl (fun _ => 0))), (q22, .inl (G.2.1 0, 10, .inl (fun _ => 0))), (q23, .inl (G.2.1 0, 30, .inl (fun _ => 0))), (q24, .inl (G.2.1 0, 10, .inl (fun _ => 0))), (q25, .inl (G.2.1 0, 10, .inl (fun _ => 0))), (q26, .inl (G.2.1 0, 270, .inl (fun _ => 0))), (q27, .inl (G.2.1 0, 10, .inl (fun _ => 0)))]) := hD
  refine lv_aload_n hx hb d_Mo_init_88 rfl (lv_at hl 0 rfl) ?_
  refine lv_sipush (v := 2430) hx hb d_Mo_init_89 (by decide) ?_
  refine ck_newa (atype := .int) (ty := .int) (t0 := 0) (cA := G.2.1 0) (N' := 2430) (a0 := (2430, .inl (fun _ => 0))) hx hb (hg (.arrayClass (newarray.typeOf .int)) (sc_mem_ok (by decide +kernel))) rfl hK rfl hP hD hS hA (fun _ => rfl) (by decide +kernel) (by decide +kernel) (ck_by (by decide) (by decide)) (by decide) (by decide) d_Mo_init_92 (fun q28 H hP hD hS => ?_)
  have hP : va_P G.1 vwCl ([(h0, .inr (5, [.int 0, .ref q19, .int 0, .long 0, .long 1, .int 0, .ref q20, .ref q21, .ref q22, .ref q23, .ref q24, .ref q25, .ref q26, .int (-9), .ref q27, .null, .null, .null, .null, .null, .null, .null, .null])), (q19, .inl (G.2.1 0, 6, .inl (fun _ => 0))), (q20, .inl (G.2.1 0, 10, .inl (fun _ => 0))), (q21, .inl (G.2.1 0, 10, .inl (fun _ => 0))), (q22, .inl (G.2.1 0, 10, .inl (fun _ => 0))), (q23, .inl (G.2.1 0, 30, .inl (fun _ => 0))), (q24, .inl (G.2.1 0, 10, .inl (fun _ => 0))), (q25, .inl (G.2.1 0, 10, .inl (fun _ => 0))), (q26, .inl (G.2.1 0, 270, .inl (fun _ => 0))), (q27, .inl (G.2.1 0, 10, .inl (fun _ => 0))), (q28, .inl (G.2.1 0, 2430, .inl (fun _ => 0)))]) H := hP
  have hD : va_D A ([(h0, .inr (5, [.int 0, .ref q19, .int 0, .long 0, .long 1, .int 0, .ref q20, .ref q21, .ref q22, .ref q23, .ref q24, .ref q25, .ref q26, .int (-9), .ref q27, .null, .null, .null, .null, .null, .null, .null, .null])), (q19, .inl (G.2.1 0, 6, .inl (fun _ => 0))), (q20, .inl (G.2.1 0, 10, .inl (fun _ => 0))), (q21, .inl (G.2.1 0, 10, .inl (fun _ => 0))), (q22, .inl (G.2.1 0, 10, .inl (fun _ => 0))), (q23, .inl (G.2.1 0, 30, .inl (fun _ => 0))), (q24, .inl (G.2.1 0, 10, .inl (fun _ => 0))), (q25, .inl (G.2.1 0, 10, .inl (fun _ => 0))), (q26, .inl (G.2.1 0, 270, .inl (fun _ => 0))), (q27, .inl (G.2.1 0, 10, .inl (fun _ => 0))), (q28, .inl (G.2.1 0, 2430, .inl (fun _ => 0)))]) := hD
  refine W.widen (k := 10) (n := 2796) (by omega) (by omega) ?_
  refine va_putF (D := G.1) (ci := 5) (v := .ref q28) (ty := .array .int) (C := RX5) (T := TX5) (N := 23) hx hb hg sc_in5 tyX5 tyX5_ok nmX5 hown hK hP hD hS 0 rfl rfl 15 (by decide) (hg (.fieldLink "SightChartModel" 45 "SightChartModel" "plan" "[I") (sc_mem_ok (by decide +kernel))) (fun _ h9 => h9) rfl hin rfl (by decide +kernel) rfl rfl (Nat.le_of_ble_eq_true rfl) d_Mo_init_94 (fun H locs hP hD hS => ?_)
  have hP : va_P G.1 vwCl ([(h0, .inr (5, [.int 0, .ref q19, .int 0, .long 0, .long 1, .int 0, .ref q20, .ref q21, .ref q22, .ref q23, .ref q24, .ref q25, .ref q26, .int (-9), .ref q27, .ref q28, .null, .null, .null, .null, .null, .null, .null])), (q19, .inl (G.2.1 0, 6, .inl (fun _ => 0))), (q20, .inl (G.2.1 0, 10, .inl (fun _ => 0))), (q21, .inl (G.2.1 0, 10, .inl (fun _ => 0))), (q22, .inl (G.2.1 0, 10, .inl (fun _ => 0))), (q23, .inl (G.2.1 0, 30, .inl (fun _ => 0))), (q24, .inl (G.2.1 0, 10, .inl (fun _ => 0))), (q25, .inl (G.2.1 0, 10, .inl (fun _ => 0))), (q26, .inl (G.2.1 0, 270, .inl (fun _ => 0))), (q27, .inl (G.2.1 0, 10, .inl (fun _ => 0))), (q28, .inl (G.2.1 0, 2430, .inl (fun _ => 0)))]) H := hP
  have hD : va_D A ([(h0, .inr (5, [.int 0, .ref q19, .int 0, .long 0, .long 1, .int 0, .ref q20, .ref q21, .ref q22, .ref q23, .ref q24, .ref q25, .ref q26, .int (-9), .ref q27, .ref q28, .null, .null, .null, .null, .null, .null, .null])), (q19, .inl (G.2.1 0, 6, .inl (fun _ => 0))), (q20, .inl (G.2.1 0, 10, .inl (fun _ => 0))), (q21, .inl (G.2.1 0, 10, .inl (fun _ => 0))), (q22, .inl (G.2.1 0, 10, .inl (fun _ => 0))), (q23, .inl (G.2.1 0, 30, .inl (fun _ => 0))), (q24, .inl (G.2.1 0, 10, .inl (fun _ => 0))), (q25, .inl (G.2.1 0, 10, .inl (fun _ => 0))), (q26, .inl (G.2.1 0, 270, .inl (fun _ => 0))), (q27, .inl (G.2.1 0, 10, .inl (fun _ => 0))), (q28, .inl (G.2.1 0, 2430, .inl (fun _ => 0)))]) := hD
  refine lv_aload_n hx hb d_Mo_init_97 rfl (lv_at hl 0 rfl) ?_
  refine lv_sipush (v := 729) hx hb d_Mo_init_98 (by decide) ?_
  refine ck_newa (atype := .long) (ty := .long) (t0 := 1) (cA := G.2.1 1) (N' := 729) (a0 := (729, .inr (.inl (fun _ => 0)))) hx hb (hg (.arrayClass (newarray.typeOf .long)) (sc_mem_ok (by decide +kernel))) rfl hK rfl hP hD hS hA (fun _ => rfl) (by decide +kernel) (by decide +kernel) (ck_by (by decide) (by decide)) (by decide) (by decide) d_Mo_init_101 (fun q29 H hP hD hS => ?_)
  have hP : va_P G.1 vwCl ([(h0, .inr (5, [.int 0, .ref q19, .int 0, .long 0, .long 1, .int 0, .ref q20, .ref q21, .ref q22, .ref q23, .ref q24, .ref q25, .ref q26, .int (-9), .ref q27, .ref q28, .null, .null, .null, .null, .null, .null, .null])), (q19, .inl (G.2.1 0, 6, .inl (fun _ => 0))), (q20, .inl (G.2.1 0, 10, .inl (fun _ => 0))), (q21, .inl (G.2.1 0, 10, .inl (fun _ => 0))), (q22, .inl (G.2.1 0, 10, .inl (fun _ => 0))), (q23, .inl (G.2.1 0, 30, .inl (fun _ => 0))), (q24, .inl (G.2.1 0, 10, .inl (fun _ => 0))), (q25, .inl (G.2.1 0, 10, .inl (fun _ => 0))), (q26, .inl (G.2.1 0, 270, .inl (fun _ => 0))), (q27, .inl (G.2.1 0, 10, .inl (fun _ => 0))), (q28, .inl (G.2.1 0, 2430, .inl (fun _ => 0))), (q29, .inl (G.2.1 1, 729, .inr (.inl (fun _ => 0))))]) H := hP
  have hD : va_D A ([(h0, .inr (5, [.int 0, .ref q19, .int 0, .long 0, .long 1, .int 0, .ref q20, .ref q21, .ref q22, .ref q23, .ref q24, .ref q25, .ref q26, .int (-9), .ref q27, .ref q28, .null, .null, .null, .null, .null, .null, .null])), (q19, .inl (G.2.1 0, 6, .inl (fun _ => 0))), (q20, .inl (G.2.1 0, 10, .inl (fun _ => 0))), (q21, .inl (G.2.1 0, 10, .inl (fun _ => 0))), (q22, .inl (G.2.1 0, 10, .inl (fun _ => 0))), (q23, .inl (G.2.1 0, 30, .inl (fun _ => 0))), (q24, .inl (G.2.1 0, 10, .inl (fun _ => 0))), (q25, .inl (G.2.1 0, 10, .inl (fun _ => 0))), (q26, .inl (G.2.1 0, 270, .inl (fun _ => 0))), (q27, .inl (G.2.1 0, 10, .inl (fun _ => 0))), (q28, .inl (G.2.1 0, 2430, .inl (fun _ => 0))), (q29, .inl (G.2.1 1, 729, .inr (.inl (fun _ => 0))))]) := hD
  refine W.widen (k := 11) (n := 3525) (by omega) (by omega) ?_
  refine va_putF (D := G.1) (ci := 5) (v := .ref q29) (ty := .array .long) (C := RX5) (T := TX5) (N := 23) hx hb hg sc_in5 tyX5 tyX5_ok nmX5 hown hK hP hD hS 0 rfl rfl 16 (by decide) (hg (.fieldLink "SightChartModel" 48 "SightChartModel" "sums" "[J") (sc_mem_ok (by decide +kernel))) (fun _ h9 => h9) rfl hin rfl (by decide +kernel) rfl rfl (Nat.le_of_ble_eq_true rfl) d_Mo_init_103 (fun H locs hP hD hS => ?_)
  have hP : va_P G.1 vwCl ([(h0, .inr (5, [.int 0, .ref q19, .int 0, .long 0, .long 1, .int 0, .ref q20, .ref q21, .ref q22, .ref q23, .ref q24, .ref q25, .ref q26, .int (-9), .ref q27, .ref q28, .ref q29, .null, .null, .null, .null, .null, .null])), (q19, .inl (G.2.1 0, 6, .inl (fun _ => 0))), (q20, .inl (G.2.1 0, 10, .inl (fun _ => 0))), (q21, .inl (G.2.1 0, 10, .inl (fun _ => 0))), (q22, .inl (G.2.1 0, 10, .inl (fun _ => 0))), (q23, .inl (G.2.1 0, 30, .inl (fun _ => 0))), (q24, .inl (G.2.1 0, 10, .inl (fun _ => 0))), (q25, .inl (G.2.1 0, 10, .inl (fun _ => 0))), (q26, .inl (G.2.1 0, 270, .inl (fun _ => 0))), (q27, .inl (G.2.1 0, 10, .inl (fun _ => 0))), (q28, .inl (G.2.1 0, 2430, .inl (fun _ => 0))), (q29, .inl (G.2.1 1, 729, .inr (.inl (fun _ => 0))))]) H := hP
  have hD : va_D A ([(h0, .inr (5, [.int 0, .ref q19, .int 0, .long 0, .long 1, .int 0, .ref q20, .ref q21, .ref q22, .ref q23, .ref q24, .ref q25, .ref q26, .int (-9), .ref q27, .ref q28, .ref q29, .null, .null, .null, .null, .null, .null])), (q19, .inl (G.2.1 0, 6, .inl (fun _ => 0))), (q20, .inl (G.2.1 0, 10, .inl (fun _ => 0))), (q21, .inl (G.2.1 0, 10, .inl (fun _ => 0))), (q22, .inl (G.2.1 0, 10, .inl (fun _ => 0))), (q23, .inl (G.2.1 0, 30, .inl (fun _ => 0))), (q24, .inl (G.2.1 0, 10, .inl (fun _ => 0))), (q25, .inl (G.2.1 0, 10, .inl (fun _ => 0))), (q26, .inl (G.2.1 0, 270, .inl (fun _ => 0))), (q27, .inl (G.2.1 0, 10, .inl (fun _ => 0))), (q28, .inl (G.2.1 0, 2430, .inl (fun _ => 0))), (q29, .inl (G.2.1 1, 729, .inr (.inl (fun _ => 0))))]) := hD
  refine lv_aload_n hx hb d_Mo_init_106 rfl (lv_at hl 0 rfl) ?_
  refine lv_sipush (v := 243) hx hb d_Mo_init_107 (by decide) ?_
  refine ck_newa (atype := .boolean) (ty := .boolean) (t0 := 2) (cA := G.2.1 2) (N' := 243) (a0 := (243, .inl (fun _ => 0))) hx hb (hg (.arrayClass (newarray.typeOf .boolean)) (sc_mem_ok (by decide +kernel))) rfl hK rfl hP hD hS hA (fun _ => rfl) (by decide +kernel) (by decide +kernel) (ck_by (by decide) (by decide)) (by decide) (by decide) d_Mo_init_110 (fun q30 H hP hD hS => ?_)
  have hP : va_P G.1 vwCl ([(h0, .inr (5, [.int 0, .ref q19, .int 0, .long 0, .long 1, .int 0, .ref q20, .ref q21, .ref q22, .ref q23, .ref q24, .ref q25, .ref q26, .int (-9), .ref q27, .ref q28, .ref q29, .null, .null, .null, .null, .null, .null])), (q19, .inl (G.2.1 0, 6, .inl (fun _ => 0))), (q20, .inl (G.2.1 0, 10, .inl (fun _ => 0))), (q21, .inl (G.2.1 0, 10, .inl (fun _ => 0))), (q22, .inl (G.2.1 0, 10, .inl (fun _ => 0))), (q23, .inl (G.2.1 0, 30, .inl (fun _ => 0))), (q24, .inl (G.2.1 0, 10, .inl (fun _ => 0))), (q25, .inl (G.2.1 0, 10, .inl (fun _ => 0))), (q26, .inl (G.2.1 0, 270, .inl (fun _ => 0))), (q27, .inl (G.2.1 0, 10, .inl (fun _ => 0))), (q28, .inl (G.2.1 0, 2430, .inl (fun _ => 0))), (q29, .inl (G.2.1 1, 729, .inr (.inl (fun _ => 0)))), (q30, .inl (G.2.1 2, 243, .inl (fun _ => 0)))]) H := hP
  have hD : va_D A ([(h0, .inr (5, [.int 0, .ref q19, .int 0, .long 0, .long 1, .int 0, .ref q20, .ref q21, .ref q22, .ref q23, .ref q24, .ref q25, .ref q26, .int (-9), .ref q27, .ref q28, .ref q29, .null, .null, .null, .null, .null, .null])), (q19, .inl (G.2.1 0, 6, .inl (fun _ => 0))), (q20, .inl (G.2.1 0, 10, .inl (fun _ => 0))), (q21, .inl (G.2.1 0, 10, .inl (fun _ => 0))), (q22, .inl (G.2.1 0, 10, .inl (fun _ => 0))), (q23, .inl (G.2.1 0, 30, .inl (fun _ => 0))), (q24, .inl (G.2.1 0, 10, .inl (fun _ => 0))), (q25, .inl (G.2.1 0, 10, .inl (fun _ => 0))), (q26, .inl (G.2.1 0, 270, .inl (fun _ => 0))), (q27, .inl (G.2.1 0, 10, .inl (fun _ => 0))), (q28, .inl (G.2.1 0, 2430, .inl (fun _ => 0))), (q29, .inl (G.2.1 1, 729, .inr (.inl (fun _ => 0)))), (q30, .inl (G.2.1 2, 243, .inl (fun _ => 0)))]) := hD
  refine W.widen (k := 12) (n := 3768) (by omega) (by omega) ?_
  refine va_putF (D := G.1) (ci := 5) (v := .ref q30) (ty := .array .boolean) (C := RX5) (T := TX5) (N := 23) hx hb hg sc_in5 tyX5 tyX5_ok nmX5 hown hK hP hD hS 0 rfl rfl 17 (by decide) (hg (.fieldLink "SightChartModel" 52 "SightChartModel" "canBe" "[Z") (sc_mem_ok (by decide +kernel))) (fun _ h9 => h9) rfl hin rfl (by decide +kernel) rfl rfl (Nat.le_of_ble_eq_true rfl) d_Mo_init_112 (fun H locs hP hD hS => ?_)
  have hP : va_P G.1 vwCl ([(h0, .inr (5, [.int 0, .ref q19, .int 0, .long 0, .long 1, .int 0, .ref q20, .ref q21, .ref q22, .ref q23, .ref q24, .ref q25, .ref q26, .int (-9), .ref q27, .ref q28, .ref q29, .ref q30, .null, .null, .null, .null, .null])), (q19, .inl (G.2.1 0, 6, .inl (fun _ => 0))), (q20, .inl (G.2.1 0, 10, .inl (fun _ => 0))), (q21, .inl (G.2.1 0, 10, .inl (fun _ => 0))), (q22, .inl (G.2.1 0, 10, .inl (fun _ => 0))), (q23, .inl (G.2.1 0, 30, .inl (fun _ => 0))), (q24, .inl (G.2.1 0, 10, .inl (fun _ => 0))), (q25, .inl (G.2.1 0, 10, .inl (fun _ => 0))), (q26, .inl (G.2.1 0, 270, .inl (fun _ => 0))), (q27, .inl (G.2.1 0, 10, .inl (fun _ => 0))), (q28, .inl (G.2.1 0, 2430, .inl (fun _ => 0))), (q29, .inl (G.2.1 1, 729, .inr (.inl (fun _ => 0)))), (q30, .inl (G.2.1 2, 243, .inl (fun _ => 0)))]) H := hP
  have hD : va_D A ([(h0, .inr (5, [.int 0, .ref q19, .int 0, .long 0, .long 1, .int 0, .ref q20, .ref q21, .ref q22, .ref q23, .ref q24, .ref q25, .ref q26, .int (-9), .ref q27, .ref q28, .ref q29, .ref q30, .null, .null, .null, .null, .null])), (q19, .inl (G.2.1 0, 6, .inl (fun _ => 0))), (q20, .inl (G.2.1 0, 10, .inl (fun _ => 0))), (q21, .inl (G.2.1 0, 10, .inl (fun _ => 0))), (q22, .inl (G.2.1 0, 10, .inl (fun _ => 0))), (q23, .inl (G.2.1 0, 30, .inl (fun _ => 0))), (q24, .inl (G.2.1 0, 10, .inl (fun _ => 0))), (q25, .inl (G.2.1 0, 10, .inl (fun _ => 0))), (q26, .inl (G.2.1 0, 270, .inl (fun _ => 0))), (q27, .inl (G.2.1 0, 10, .inl (fun _ => 0))), (q28, .inl (G.2.1 0, 2430, .inl (fun _ => 0))), (q29, .inl (G.2.1 1, 729, .inr (.inl (fun _ => 0)))), (q30, .inl (G.2.1 2, 243, .inl (fun _ => 0)))]) := hD
  refine lv_aload_n hx hb d_Mo_init_115 rfl (lv_at hl 0 rfl) ?_
  refine lv_bipush (v := 10) hx hb d_Mo_init_116 (by decide) ?_
  refine ck_newa (atype := .int) (ty := .int) (t0 := 0) (cA := G.2.1 0) (N' := 10) (a0 := (10, .inl (fun _ => 0))) hx hb (hg (.arrayClass (newarray.typeOf .int)) (sc_mem_ok (by decide +kernel))) rfl hK rfl hP hD hS hA (fun _ => rfl) (by decide +kernel) (by decide +kernel) (ck_by (by decide) (by decide)) (by decide) (by decide) d_Mo_init_118 (fun q31 H hP hD hS => ?_)
  have hP : va_P G.1 vwCl ([(h0, .inr (5, [.int 0, .ref q19, .int 0, .long 0, .long 1, .int 0, .ref q20, .ref q21, .ref q22, .ref q23, .ref q24, .ref q25, .ref q26, .int (-9), .ref q27, .ref q28, .ref q29, .ref q30, .null, .null, .null, .null, .null])), (q19, .inl (G.2.1 0, 6, .inl (fun _ => 0))), (q20, .inl (G.2.1 0, 10, .inl (fun _ => 0))), (q21, .inl (G.2.1 0, 10, .inl (fun _ => 0))), (q22, .inl (G.2.1 0, 10, .inl (fun _ => 0))), (q23, .inl (G.2.1 0, 30, .inl (fun _ => 0))), (q24, .inl (G.2.1 0, 10, .inl (fun _ => 0))), (q25, .inl (G.2.1 0, 10, .inl (fun _ => 0))), (q26, .inl (G.2.1 0, 270, .inl (fun _ => 0))), (q27, .inl (G.2.1 0, 10, .inl (fun _ => 0))), (q28, .inl (G.2.1 0, 2430, .inl (fun _ => 0))), (q29, .inl (G.2.1 1, 729, .inr (.inl (fun _ => 0)))), (q30, .inl (G.2.1 2, 243, .inl (fun _ => 0))), (q31, .inl (G.2.1 0, 10, .inl (fun _ => 0)))]) H := hP
  have hD : va_D A ([(h0, .inr (5, [.int 0, .ref q19, .int 0, .long 0, .long 1, .int 0, .ref q20, .ref q21, .ref q22, .ref q23, .ref q24, .ref q25, .ref q26, .int (-9), .ref q27, .ref q28, .ref q29, .ref q30, .null, .null, .null, .null, .null])), (q19, .inl (G.2.1 0, 6, .inl (fun _ => 0))), (q20, .inl (G.2.1 0, 10, .inl (fun _ => 0))), (q21, .inl (G.2.1 0, 10, .inl (fun _ => 0))), (q22, .inl (G.2.1 0, 10, .inl (fun _ => 0))), (q23, .inl (G.2.1 0, 30, .inl (fun _ => 0))), (q24, .inl (G.2.1 0, 10, .inl (fun _ => 0))), (q25, .inl (G.2.1 0, 10, .inl (fun _ => 0))), (q26, .inl (G.2.1 0, 270, .inl (fun _ => 0))), (q27, .inl (G.2.1 0, 10, .inl (fun _ => 0))), (q28, .inl (G.2.1 0, 2430, .inl (fun _ => 0))), (q29, .inl (G.2.1 1, 729, .inr (.inl (fun _ => 0)))), (q30, .inl (G.2.1 2, 243, .inl (fun _ => 0))), (q31, .inl (G.2.1 0, 10, .inl (fun _ => 0)))]) := hD
  refine W.widen (k := 13) (n := 3778) (by omega) (by omega) ?_
  refine va_putF (D := G.1) (ci := 5) (v := .ref q31) (ty := .array .int) (C := RX5) (T := TX5) (N := 23) hx hb hg sc_in5 tyX5 tyX5_ok nmX5 hown hK hP hD hS 0 rfl rfl 18 (by decide) (hg (.fieldLink "SightChartModel" 56 "SightChartModel" "known" "[I") (sc_mem_ok (by decide +kernel))) (fun _ h9 => h9) rfl hin rfl (by decide +kernel) rfl rfl (Nat.le_of_ble_eq_true rfl) d_Mo_init_120 (fun H locs hP hD hS => ?_)
  have hP : va_P G.1 vwCl ([(h0, .inr (5, [.int 0, .ref q19, .int 0, .long 0, .long 1, .int 0, .ref q20, .ref q21, .ref q22, .ref q23, .ref q24, .ref q25, .ref q26, .int (-9), .ref q27, .ref q28, .ref q29, .ref q30, .ref q31, .null, .null, .null, .null])), (q19, .inl (G.2.1 0, 6, .inl (fun _ => 0))), (q20, .inl (G.2.1 0, 10, .inl (fun _ => 0))), (q21, .inl (G.2.1 0, 10, .inl (fun _ => 0))), (q22, .inl (G.2.1 0, 10, .inl (fun _ => 0))), (q23, .inl (G.2.1 0, 30, .inl (fun _ => 0))), (q24, .inl (G.2.1 0, 10, .inl (fun _ => 0))), (q25, .inl (G.2.1 0, 10, .inl (fun _ => 0))), (q26, .inl (G.2.1 0, 270, .inl (fun _ => 0))), (q27, .inl (G.2.1 0, 10, .inl (fun _ => 0))), (q28, .inl (G.2.1 0, 2430, .inl (fun _ => 0))), (q29, .inl (G.2.1 1, 729, .inr (.inl (fun _ => 0)))), (q30, .inl (G.2.1 2, 243, .inl (fun _ => 0))), (q31, .inl (G.2.1 0, 10, .inl (fun _ => 0)))]) H := hP
  have hD : va_D A ([(h0, .inr (5, [.int 0, .ref q19, .int 0, .long 0, .long 1, .int 0, .ref q20, .ref q21, .ref q22, .ref q23, .ref q24, .ref q25, .ref q26, .int (-9), .ref q27, .ref q28, .ref q29, .ref q30, .ref q31, .null, .null, .null, .null])), (q19, .inl (G.2.1 0, 6, .inl (fun _ => 0))), (q20, .inl (G.2.1 0, 10, .inl (fun _ => 0))), (q21, .inl (G.2.1 0, 10, .inl (fun _ => 0))), (q22, .inl (G.2.1 0, 10, .inl (fun _ => 0))), (q23, .inl (G.2.1 0, 30, .inl (fun _ => 0))), (q24, .inl (G.2.1 0, 10, .inl (fun _ => 0))), (q25, .inl (G.2.1 0, 10, .inl (fun _ => 0))), (q26, .inl (G.2.1 0, 270, .inl (fun _ => 0))), (q27, .inl (G.2.1 0, 10, .inl (fun _ => 0))), (q28, .inl (G.2.1 0, 2430, .inl (fun _ => 0))), (q29, .inl (G.2.1 1, 729, .inr (.inl (fun _ => 0)))), (q30, .inl (G.2.1 2, 243, .inl (fun _ => 0))), (q31, .inl (G.2.1 0, 10, .inl (fun _ => 0)))]) := hD
  refine lv_aload_n hx hb d_Mo_init_123 rfl (lv_at hl 0 rfl) ?_
  refine lv_bipush (v := 10) hx hb d_Mo_init_124 (by decide) ?_
  refine ck_newa (atype := .int) (ty := .int) (t0 := 0) (cA := G.2.1 0) (N' := 10) (a0 := (10, .inl (fun _ => 0))) hx hb (hg (.arrayClass (newarray.typeOf .int)) (sc_mem_ok (by decide +kernel))) rfl hK rfl hP hD hS hA (fun _ => rfl) (by decide +kernel) (by decide +kernel) (ck_by (by decide) (by decide)) (by decide) (by decide) d_Mo_init_126 (fun q32 H hP hD hS => ?_)
  have hP : va_P G.1 vwCl ([(h0, .inr (5, [.int 0, .ref q19, .int 0, .long 0, .long 1, .int 0, .ref q20, .ref q21, .ref q22, .ref q23, .ref q24, .ref q25, .ref q26, .int (-9), .ref q27, .ref q28, .ref q29, .ref q30, .ref q31, .null, .null, .null, .null])), (q19, .inl (G.2.1 0, 6, .inl (fun _ => 0))), (q20, .inl (G.2.1 0, 10, .inl (fun _ => 0))), (q21, .inl (G.2.1 0, 10, .inl (fun _ => 0))), (q22, .inl (G.2.1 0, 10, .inl (fun _ => 0))), (q23, .inl (G.2.1 0, 30, .inl (fun _ => 0))), (q24, .inl (G.2.1 0, 10, .inl (fun _ => 0))), (q25, .inl (G.2.1 0, 10, .inl (fun _ => 0))), (q26, .inl (G.2.1 0, 270, .inl (fun _ => 0))), (q27, .inl (G.2.1 0, 10, .inl (fun _ => 0))), (q28, .inl (G.2.1 0, 2430, .inl (fun _ => 0))), (q29, .inl (G.2.1 1, 729, .inr (.inl (fun _ => 0)))), (q30, .inl (G.2.1 2, 243, .inl (fun _ => 0))), (q31, .inl (G.2.1 0, 10, .inl (fun _ => 0))), (q32, .inl (G.2.1 0, 10, .inl (fun _ => 0)))]) H := hP
  have hD : va_D A ([(h0, .inr (5, [.int 0, .ref q19, .int 0, .long 0, .long 1, .int 0, .ref q20, .ref q21, .ref q22, .ref q23, .ref q24, .ref q25, .ref q26, .int (-9), .ref q27, .ref q28, .ref q29, .ref q30, .ref q31, .null, .null, .null, .null])), (q19, .inl (G.2.1 0, 6, .inl (fun _ => 0))), (q20, .inl (G.2.1 0, 10, .inl (fun _ => 0))), (q21, .inl (G.2.1 0, 10, .inl (fun _ => 0))), (q22, .inl (G.2.1 0, 10, .inl (fun _ => 0))), (q23, .inl (G.2.1 0, 30, .inl (fun _ => 0))), (q24, .inl (G.2.1 0, 10, .inl (fun _ => 0))), (q25, .inl (G.2.1 0, 10, .inl (fun _ => 0))), (q26, .inl (G.2.1 0, 270, .inl (fun _ => 0))), (q27, .inl (G.2.1 0, 10, .inl (fun _ => 0))), (q28, .inl (G.2.1 0, 2430, .inl (fun _ => 0))), (q29, .inl (G.2.1 1, 729, .inr (.inl (fun _ => 0)))), (q30, .inl (G.2.1 2, 243, .inl (fun _ => 0))), (q31, .inl (G.2.1 0, 10, .inl (fun _ => 0))), (q32, .inl (G.2.1 0, 10, .inl (fun _ => 0)))]) := hD
  refine W.widen (k := 14) (n := 3788) (by omega) (by omega) ?_
  refine va_putF (D := G.1) (ci := 5) (v := .ref q32) (ty := .array .int) (C := RX5) (T := TX5) (N := 23) hx hb hg sc_in5 tyX5 tyX5_ok nmX5 hown hK hP hD hS 0 rfl rfl 19 (by decide) (hg (.fieldLink "SightChartModel" 59 "SightChartModel" "had" "[I") (sc_mem_ok (by decide +kernel))) (fun _ h9 => h9) rfl hin rfl (by decide +kernel) rfl rfl (Nat.le_of_ble_eq_true rfl) d_Mo_init_128 (fun H locs hP hD hS => ?_)
  have hP : va_P G.1 vwCl ([(h0, .inr (5, [.int 0, .ref q19, .int 0, .long 0, .long 1, .int 0, .ref q20, .ref q21, .ref q22, .ref q23, .ref q24, .ref q25, .ref q26, .int (-9), .ref q27, .ref q28, .ref q29, .ref q30, .ref q31, .ref q32, .null, .null, .null])), (q19, .inl (G.2.1 0, 6, .inl (fun _ => 0))), (q20, .inl (G.2.1 0, 10, .inl (fun _ => 0))), (q21, .inl (G.2.1 0, 10, .inl (fun _ => 0))), (q22, .inl (G.2.1 0, 10, .inl (fun _ => 0))), (q23, .inl (G.2.1 0, 30, .inl (fun _ => 0))), (q24, .inl (G.2.1 0, 10, .inl (fun _ => 0))), (q25, .inl (G.2.1 0, 10, .inl (fun _ => 0))), (q26, .inl (G.2.1 0, 270, .inl (fun _ => 0))), (q27, .inl (G.2.1 0, 10, .inl (fun _ => 0))), (q28, .inl (G.2.1 0, 2430, .inl (fun _ => 0))), (q29, .inl (G.2.1 1, 729, .inr (.inl (fun _ => 0)))), (q30, .inl (G.2.1 2, 243, .inl (fun _ => 0))), (q31, .inl (G.2.1 0, 10, .inl (fun _ => 0))), (q32, .inl (G.2.1 0, 10, .inl (fun _ => 0)))]) H := hP
  have hD : va_D A ([(h0, .inr (5, [.int 0, .ref q19, .int 0, .long 0, .long 1, .int 0, .ref q20, .ref q21, .ref q22, .ref q23, .ref q24, .ref q25, .ref q26, .int (-9), .ref q27, .ref q28, .ref q29, .ref q30, .ref q31, .ref q32, .null, .null, .null])), (q19, .inl (G.2.1 0, 6, .inl (fun _ => 0))), (q20, .inl (G.2.1 0, 10, .inl (fun _ => 0))), (q21, .inl (G.2.1 0, 10, .inl (fun _ => 0))), (q22, .inl (G.2.1 0, 10, .inl (fun _ => 0))), (q23, .inl (G.2.1 0, 30, .inl (fun _ => 0))), (q24, .inl (G.2.1 0, 10, .inl (fun _ => 0))), (q25, .inl (G.2.1 0, 10, .inl (fun _ => 0))), (q26, .inl (G.2.1 0, 270, .inl (fun _ => 0))), (q27, .inl (G.2.1 0, 10, .inl (fun _ => 0))), (q28, .inl (G.2.1 0, 2430, .inl (fun _ => 0))), (q29, .inl (G.2.1 1, 729, .inr (.inl (fun _ => 0)))), (q30, .inl (G.2.1 2, 243, .inl (fun _ => 0))), (q31, .inl (G.2.1 0, 10, .inl (fun _ => 0))), (q32, .inl (G.2.1 0, 10, .inl (fun _ => 0)))]) := hD
  refine lv_aload_n hx hb d_Mo_init_131 rfl (lv_at hl 0 rfl) ?_
  refine lv_iconst (v := 4) hx hb d_Mo_init_132 (by decide) ?_
  refine ck_newa (atype := .int) (ty := .int) (t0 := 0) (cA := G.2.1 0) (N' := 4) (a0 := (4, .inl (fun _ => 0))) hx hb (hg (.arrayClass (newarray.typeOf .int)) (sc_mem_ok (by decide +kernel))) rfl hK rfl hP hD hS hA (fun _ => rfl) (by decide +kernel) (by decide +kernel) (ck_by (by decide) (by decide)) (by decide) (by decide) d_Mo_init_133 (fun q33 H hP hD hS => ?_)
  have hP : va_P G.1 vwCl ([(h0, .inr (5, [.int 0, .ref q19, .int 0, .long 0, .long 1, .int 0, .ref q20, .ref q21, .ref q22, .ref q23, .ref q24, .ref q25, .ref q26, .int (-9), .ref q27, .ref q28, .ref q29, .ref q30, .ref q31, .ref q32, .null, .null, .null])), (q19, .inl (G.2.1 0, 6, .inl (fun _ => 0))), (q20, .inl (G.2.1 0, 10, .inl (fun _ => 0))), (q21, .inl (G.2.1 0, 10, .inl (fun _ => 0))), (q22, .inl (G.2.1 0, 10, .inl (fun _ => 0))), (q23, .inl (G.2.1 0, 30, .inl (fun _ => 0))), (q24, .inl (G.2.1 0, 10, .inl (fun _ => 0))), (q25, .inl (G.2.1 0, 10, .inl (fun _ => 0))), (q26, .inl (G.2.1 0, 270, .inl (fun _ => 0))), (q27, .inl (G.2.1 0, 10, .inl (fun _ => 0))), (q28, .inl (G.2.1 0, 2430, .inl (fun _ => 0))), (q29, .inl (G.2.1 1, 729, .inr (.inl (fun _ => 0)))), (q30, .inl (G.2.1 2, 243, .inl (fun _ => 0))), (q31, .inl (G.2.1 0, 10, .inl (fun _ => 0))), (q32, .inl (G.2.1 0, 10, .inl (fun _ => 0))), (q33, .inl (G.2.1 0, 4, .inl (fun _ => 0)))]) H := hP
  have hD : va_D A ([(h0, .inr (5, [.int 0, .ref q19, .int 0, .long 0, .long 1, .int 0, .ref q20, .ref q21, .ref q22, .ref q23, .ref q24, .ref q25, .ref q26, .int (-9), .ref q27, .ref q28, .ref q29, .ref q30, .ref q31, .ref q32, .null, .null, .null])), (q19, .inl (G.2.1 0, 6, .inl (fun _ => 0))), (q20, .inl (G.2.1 0, 10, .inl (fun _ => 0))), (q21, .inl (G.2.1 0, 10, .inl (fun _ => 0))), (q22, .inl (G.2.1 0, 10, .inl (fun _ => 0))), (q23, .inl (G.2.1 0, 30, .inl (fun _ => 0))), (q24, .inl (G.2.1 0, 10, .inl (fun _ => 0))), (q25, .inl (G.2.1 0, 10, .inl (fun _ => 0))), (q26, .inl (G.2.1 0, 270, .inl (fun _ => 0))), (q27, .inl (G.2.1 0, 10, .inl (fun _ => 0))), (q28, .inl (G.2.1 0, 2430, .inl (fun _ => 0))), (q29, .inl (G.2.1 1, 729, .inr (.inl (fun _ => 0)))), (q30, .inl (G.2.1 2, 243, .inl (fun _ => 0))), (q31, .inl (G.2.1 0, 10, .inl (fun _ => 0))), (q32, .inl (G.2.1 0, 10, .inl (fun _ => 0))), (q33, .inl (G.2.1 0, 4, .inl (fun _ => 0)))]) := hD
  refine W.widen (k := 15) (n := 3792) (by omega) (by omega) ?_
  refine va_putF (D := G.1) (ci := 5) (v := .ref q33) (ty := .array .int) (C := RX5) (T := TX5) (N := 23) hx hb hg sc_in5 tyX5 tyX5_ok nmX5 hown hK hP hD hS 0 rfl rfl 20 (by decide) (hg (.fieldLink "SightChartModel" 62 "SightChartModel" "sizes" "[I") (sc_mem_ok (by decide +kernel))) (fun _ h9 => h9) rfl hin rfl (by decide +kernel) rfl rfl (Nat.le_of_ble_eq_true rfl) d_Mo_init_135 (fun H locs hP hD hS => ?_)
  have hP : va_P G.1 vwCl ([(h0, .inr (5, [.int 0, .ref q19, .int 0, .long 0, .long 1, .int 0, .ref q20, .ref q21, .ref q22, .ref q23, .ref q24, .ref q25, .ref q26, .int (-9), .ref q27, .ref q28, .ref q29, .ref q30, .ref q31, .ref q32, .ref q33, .null, .null])), (q19, .inl (G.2.1 0, 6, .inl (fun _ => 0))), (q20, .inl (G.2.1 0, 10, .inl (fun _ => 0))), (q21, .inl (G.2.1 0, 10, .inl (fun _ => 0))), (q22, .inl (G.2.1 0, 10, .inl (fun _ => 0))), (q23, .inl (G.2.1 0, 30, .inl (fun _ => 0))), (q24, .inl (G.2.1 0, 10, .inl (fun _ => 0))), (q25, .inl (G.2.1 0, 10, .inl (fun _ => 0))), (q26, .inl (G.2.1 0, 270, .inl (fun _ => 0))), (q27, .inl (G.2.1 0, 10, .inl (fun _ => 0))), (q28, .inl (G.2.1 0, 2430, .inl (fun _ => 0))), (q29, .inl (G.2.1 1, 729, .inr (.inl (fun _ => 0)))), (q30, .inl (G.2.1 2, 243, .inl (fun _ => 0))), (q31, .inl (G.2.1 0, 10, .inl (fun _ => 0))), (q32, .inl (G.2.1 0, 10, .inl (fun _ => 0))), (q33, .inl (G.2.1 0, 4, .inl (fun _ => 0)))]) H := hP
  have hD : va_D A ([(h0, .inr (5, [.int 0, .ref q19, .int 0, .long 0, .long 1, .int 0, .ref q20, .ref q21, .ref q22, .ref q23, .ref q24, .ref q25, .ref q26, .int (-9), .ref q27, .ref q28, .ref q29, .ref q30, .ref q31, .ref q32, .ref q33, .null, .null])), (q19, .inl (G.2.1 0, 6, .inl (fun _ => 0))), (q20, .inl (G.2.1 0, 10, .inl (fun _ => 0))), (q21, .inl (G.2.1 0, 10, .inl (fun _ => 0))), (q22, .inl (G.2.1 0, 10, .inl (fun _ => 0))), (q23, .inl (G.2.1 0, 30, .inl (fun _ => 0))), (q24, .inl (G.2.1 0, 10, .inl (fun _ => 0))), (q25, .inl (G.2.1 0, 10, .inl (fun _ => 0))), (q26, .inl (G.2.1 0, 270, .inl (fun _ => 0))), (q27, .inl (G.2.1 0, 10, .inl (fun _ => 0))), (q28, .inl (G.2.1 0, 2430, .inl (fun _ => 0))), (q29, .inl (G.2.1 1, 729, .inr (.inl (fun _ => 0)))), (q30, .inl (G.2.1 2, 243, .inl (fun _ => 0))), (q31, .inl (G.2.1 0, 10, .inl (fun _ => 0))), (q32, .inl (G.2.1 0, 10, .inl (fun _ => 0))), (q33, .inl (G.2.1 0, 4, .inl (fun _ => 0)))]) := hD
  refine lv_aload_n hx hb d_Mo_init_138 rfl (lv_at hl 0 rfl) ?_
  refine lv_bipush (v := 108) hx hb d_Mo_init_139 (by decide) ?_
  refine ck_newa (atype := .int) (ty := .int) (t0 := 0) (cA := G.2.1 0) (N' := 108) (a0 := (108, .inl (fun _ => 0))) hx hb (hg (.arrayClass (newarray.typeOf .int)) (sc_mem_ok (by decide +kernel))) rfl hK rfl hP hD hS hA (fun _ => rfl) (by decide +kernel) (by decide +kernel) (ck_by (by decide) (by decide)) (by decide) (by decide) d_Mo_init_141 (fun q34 H hP hD hS => ?_)
  have hP : va_P G.1 vwCl ([(h0, .inr (5, [.int 0, .ref q19, .int 0, .long 0, .long 1, .int 0, .ref q20, .ref q21, .ref q22, .ref q23, .ref q24, .ref q25, .ref q26, .int (-9), .ref q27, .ref q28, .ref q29, .ref q30, .ref q31, .ref q32, .ref q33, .null, .null])), (q19, .inl (G.2.1 0, 6, .inl (fun _ => 0))), (q20, .inl (G.2.1 0, 10, .inl (fun _ => 0))), (q21, .inl (G.2.1 0, 10, .inl (fun _ => 0))), (q22, .inl (G.2.1 0, 10, .inl (fun _ => 0))), (q23, .inl (G.2.1 0, 30, .inl (fun _ => 0))), (q24, .inl (G.2.1 0, 10, .inl (fun _ => 0))), (q25, .inl (G.2.1 0, 10, .inl (fun _ => 0))), (q26, .inl (G.2.1 0, 270, .inl (fun _ => 0))), (q27, .inl (G.2.1 0, 10, .inl (fun _ => 0))), (q28, .inl (G.2.1 0, 2430, .inl (fun _ => 0))), (q29, .inl (G.2.1 1, 729, .inr (.inl (fun _ => 0)))), (q30, .inl (G.2.1 2, 243, .inl (fun _ => 0))), (q31, .inl (G.2.1 0, 10, .inl (fun _ => 0))), (q32, .inl (G.2.1 0, 10, .inl (fun _ => 0))), (q33, .inl (G.2.1 0, 4, .inl (fun _ => 0))), (q34, .inl (G.2.1 0, 108, .inl (fun _ => 0)))]) H := hP
  have hD : va_D A ([(h0, .inr (5, [.int 0, .ref q19, .int 0, .long 0, .long 1, .int 0, .ref q20, .ref q21, .ref q22, .ref q23, .ref q24, .ref q25, .ref q26, .int (-9), .ref q27, .ref q28, .ref q29, .ref q30, .ref q31, .ref q32, .ref q33, .null, .null])), (q19, .inl (G.2.1 0, 6, .inl (fun _ => 0))), (q20, .inl (G.2.1 0, 10, .inl (fun _ => 0))), (q21, .inl (G.2.1 0, 10, .inl (fun _ => 0))), (q22, .inl (G.2.1 0, 10, .inl (fun _ => 0))), (q23, .inl (G.2.1 0, 30, .inl (fun _ => 0))), (q24, .inl (G.2.1 0, 10, .inl (fun _ => 0))), (q25, .inl (G.2.1 0, 10, .inl (fun _ => 0))), (q26, .inl (G.2.1 0, 270, .inl (fun _ => 0))), (q27, .inl (G.2.1 0, 10, .inl (fun _ => 0))), (q28, .inl (G.2.1 0, 2430, .inl (fun _ => 0))), (q29, .inl (G.2.1 1, 729, .inr (.inl (fun _ => 0)))), (q30, .inl (G.2.1 2, 243, .inl (fun _ => 0))), (q31, .inl (G.2.1 0, 10, .inl (fun _ => 0))), (q32, .inl (G.2.1 0, 10, .inl (fun _ => 0))), (q33, .inl (G.2.1 0, 4, .inl (fun _ => 0))), (q34, .inl (G.2.1 0, 108, .inl (fun _ => 0)))]) := hD
  refine W.widen (k := 16) (n := 3900) (by omega) (by omega) ?_
  refine va_putF (D := G.1) (ci := 5) (v := .ref q34) (ty := .array .int) (C := RX5) (T := TX5) (N := 23) hx hb hg sc_in5 tyX5 tyX5_ok nmX5 hown hK hP hD hS 0 rfl rfl 21 (by decide) (hg (.fieldLink "SightChartModel" 65 "SightChartModel" "rows" "[I") (sc_mem_ok (by decide +kernel))) (fun _ h9 => h9) rfl hin rfl (by decide +kernel) rfl rfl (Nat.le_of_ble_eq_true rfl) d_Mo_init_143 (fun H locs hP hD hS => ?_)
  have hP : va_P G.1 vwCl ([(h0, .inr (5, [.int 0, .ref q19, .int 0, .long 0, .long 1, .int 0, .ref q20, .ref q21, .ref q22, .ref q23, .ref q24, .ref q25, .ref q26, .int (-9), .ref q27, .ref q28, .ref q29, .ref q30, .ref q31, .ref q32, .ref q33, .ref q34, .null])), (q19, .inl (G.2.1 0, 6, .inl (fun _ => 0))), (q20, .inl (G.2.1 0, 10, .inl (fun _ => 0))), (q21, .inl (G.2.1 0, 10, .inl (fun _ => 0))), (q22, .inl (G.2.1 0, 10, .inl (fun _ => 0))), (q23, .inl (G.2.1 0, 30, .inl (fun _ => 0))), (q24, .inl (G.2.1 0, 10, .inl (fun _ => 0))), (q25, .inl (G.2.1 0, 10, .inl (fun _ => 0))), (q26, .inl (G.2.1 0, 270, .inl (fun _ => 0))), (q27, .inl (G.2.1 0, 10, .inl (fun _ => 0))), (q28, .inl (G.2.1 0, 2430, .inl (fun _ => 0))), (q29, .inl (G.2.1 1, 729, .inr (.inl (fun _ => 0)))), (q30, .inl (G.2.1 2, 243, .inl (fun _ => 0))), (q31, .inl (G.2.1 0, 10, .inl (fun _ => 0))), (q32, .inl (G.2.1 0, 10, .inl (fun _ => 0))), (q33, .inl (G.2.1 0, 4, .inl (fun _ => 0))), (q34, .inl (G.2.1 0, 108, .inl (fun _ => 0)))]) H := hP
  have hD : va_D A ([(h0, .inr (5, [.int 0, .ref q19, .int 0, .long 0, .long 1, .int 0, .ref q20, .ref q21, .ref q22, .ref q23, .ref q24, .ref q25, .ref q26, .int (-9), .ref q27, .ref q28, .ref q29, .ref q30, .ref q31, .ref q32, .ref q33, .ref q34, .null])), (q19, .inl (G.2.1 0, 6, .inl (fun _ => 0))), (q20, .inl (G.2.1 0, 10, .inl (fun _ => 0))), (q21, .inl (G.2.1 0, 10, .inl (fun _ => 0))), (q22, .inl (G.2.1 0, 10, .inl (fun _ => 0))), (q23, .inl (G.2.1 0, 30, .inl (fun _ => 0))), (q24, .inl (G.2.1 0, 10, .inl (fun _ => 0))), (q25, .inl (G.2.1 0, 10, .inl (fun _ => 0))), (q26, .inl (G.2.1 0, 270, .inl (fun _ => 0))), (q27, .inl (G.2.1 0, 10, .inl (fun _ => 0))), (q28, .inl (G.2.1 0, 2430, .inl (fun _ => 0))), (q29, .inl (G.2.1 1, 729, .inr (.inl (fun _ => 0)))), (q30, .inl (G.2.1 2, 243, .inl (fun _ => 0))), (q31, .inl (G.2.1 0, 10, .inl (fun _ => 0))), (q32, .inl (G.2.1 0, 10, .inl (fun _ => 0))), (q33, .inl (G.2.1 0, 4, .inl (fun _ => 0))), (q34, .inl (G.2.1 0, 108, .inl (fun _ => 0)))]) := hD
  refine lv_aload_n hx hb d_Mo_init_146 rfl (lv_at hl 0 rfl) ?_
  refine lv_bipush (v := 27) hx hb d_Mo_init_147 (by decide) ?_
  refine ck_newa (atype := .int) (ty := .int) (t0 := 0) (cA := G.2.1 0) (N' := 27) (a0 := (27, .inl (fun _ => 0))) hx hb (hg (.arrayClass (newarray.typeOf .int)) (sc_mem_ok (by decide +kernel))) rfl hK rfl hP hD hS hA (fun _ => rfl) (by decide +kernel) (by decide +kernel) (ck_by (by decide) (by decide)) (by decide) (by decide) d_Mo_init_149 (fun q35 H hP hD hS => ?_)
  have hP : va_P G.1 vwCl ([(h0, .inr (5, [.int 0, .ref q19, .int 0, .long 0, .long 1, .int 0, .ref q20, .ref q21, .ref q22, .ref q23, .ref q24, .ref q25, .ref q26, .int (-9), .ref q27, .ref q28, .ref q29, .ref q30, .ref q31, .ref q32, .ref q33, .ref q34, .null])), (q19, .inl (G.2.1 0, 6, .inl (fun _ => 0))), (q20, .inl (G.2.1 0, 10, .inl (fun _ => 0))), (q21, .inl (G.2.1 0, 10, .inl (fun _ => 0))), (q22, .inl (G.2.1 0, 10, .inl (fun _ => 0))), (q23, .inl (G.2.1 0, 30, .inl (fun _ => 0))), (q24, .inl (G.2.1 0, 10, .inl (fun _ => 0))), (q25, .inl (G.2.1 0, 10, .inl (fun _ => 0))), (q26, .inl (G.2.1 0, 270, .inl (fun _ => 0))), (q27, .inl (G.2.1 0, 10, .inl (fun _ => 0))), (q28, .inl (G.2.1 0, 2430, .inl (fun _ => 0))), (q29, .inl (G.2.1 1, 729, .inr (.inl (fun _ => 0)))), (q30, .inl (G.2.1 2, 243, .inl (fun _ => 0))), (q31, .inl (G.2.1 0, 10, .inl (fun _ => 0))), (q32, .inl (G.2.1 0, 10, .inl (fun _ => 0))), (q33, .inl (G.2.1 0, 4, .inl (fun _ => 0))), (q34, .inl (G.2.1 0, 108, .inl (fun _ => 0))), (q35, .inl (G.2.1 0, 27, .inl (fun _ => 0)))]) H := hP
  have hD : va_D A ([(h0, .inr (5, [.int 0, .ref q19, .int 0, .long 0, .long 1, .int 0, .ref q20, .ref q21, .ref q22, .ref q23, .ref q24, .ref q25, .ref q26, .int (-9), .ref q27, .ref q28, .ref q29, .ref q30, .ref q31, .ref q32, .ref q33, .ref q34, .null])), (q19, .inl (G.2.1 0, 6, .inl (fun _ => 0))), (q20, .inl (G.2.1 0, 10, .inl (fun _ => 0))), (q21, .inl (G.2.1 0, 10, .inl (fun _ => 0))), (q22, .inl (G.2.1 0, 10, .inl (fun _ => 0))), (q23, .inl (G.2.1 0, 30, .inl (fun _ => 0))), (q24, .inl (G.2.1 0, 10, .inl (fun _ => 0))), (q25, .inl (G.2.1 0, 10, .inl (fun _ => 0))), (q26, .inl (G.2.1 0, 270, .inl (fun _ => 0))), (q27, .inl (G.2.1 0, 10, .inl (fun _ => 0))), (q28, .inl (G.2.1 0, 2430, .inl (fun _ => 0))), (q29, .inl (G.2.1 1, 729, .inr (.inl (fun _ => 0)))), (q30, .inl (G.2.1 2, 243, .inl (fun _ => 0))), (q31, .inl (G.2.1 0, 10, .inl (fun _ => 0))), (q32, .inl (G.2.1 0, 10, .inl (fun _ => 0))), (q33, .inl (G.2.1 0, 4, .inl (fun _ => 0))), (q34, .inl (G.2.1 0, 108, .inl (fun _ => 0))), (q35, .inl (G.2.1 0, 27, .inl (fun _ => 0)))]) := hD
  refine W.widen (k := 17) (n := 3927) (by omega) (by omega) ?_
  refine va_putF (D := G.1) (ci := 5) (v := .ref q35) (ty := .array .int) (C := RX5) (T := TX5) (N := 23) hx hb hg sc_in5 tyX5 tyX5_ok nmX5 hown hK hP hD hS 0 rfl rfl 22 (by decide) (hg (.fieldLink "SightChartModel" 68 "SightChartModel" "moving" "[I") (sc_mem_ok (by decide +kernel))) (fun _ h9 => h9) rfl hin rfl (by decide +kernel) rfl rfl (Nat.le_of_ble_eq_true rfl) d_Mo_init_151 (fun H locs hP hD hS => ?_)
  have hP : va_P G.1 vwCl ([(h0, .inr (5, [.int 0, .ref q19, .int 0, .long 0, .long 1, .int 0, .ref q20, .ref q21, .ref q22, .ref q23, .ref q24, .ref q25, .ref q26, .int (-9), .ref q27, .ref q28, .ref q29, .ref q30, .ref q31, .ref q32, .ref q33, .ref q34, .ref q35])), (q19, .inl (G.2.1 0, 6, .inl (fun _ => 0))), (q20, .inl (G.2.1 0, 10, .inl (fun _ => 0))), (q21, .inl (G.2.1 0, 10, .inl (fun _ => 0))), (q22, .inl (G.2.1 0, 10, .inl (fun _ => 0))), (q23, .inl (G.2.1 0, 30, .inl (fun _ => 0))), (q24, .inl (G.2.1 0, 10, .inl (fun _ => 0))), (q25, .inl (G.2.1 0, 10, .inl (fun _ => 0))), (q26, .inl (G.2.1 0, 270, .inl (fun _ => 0))), (q27, .inl (G.2.1 0, 10, .inl (fun _ => 0))), (q28, .inl (G.2.1 0, 2430, .inl (fun _ => 0))), (q29, .inl (G.2.1 1, 729, .inr (.inl (fun _ => 0)))), (q30, .inl (G.2.1 2, 243, .inl (fun _ => 0))), (q31, .inl (G.2.1 0, 10, .inl (fun _ => 0))), (q32, .inl (G.2.1 0, 10, .inl (fun _ => 0))), (q33, .inl (G.2.1 0, 4, .inl (fun _ => 0))), (q34, .inl (G.2.1 0, 108, .inl (fun _ => 0))), (q35, .inl (G.2.1 0, 27, .inl (fun _ => 0)))]) H := hP
  have hD : va_D A ([(h0, .inr (5, [.int 0, .ref q19, .int 0, .long 0, .long 1, .int 0, .ref q20, .ref q21, .ref q22, .ref q23, .ref q24, .ref q25, .ref q26, .int (-9), .ref q27, .ref q28, .ref q29, .ref q30, .ref q31, .ref q32, .ref q33, .ref q34, .ref q35])), (q19, .inl (G.2.1 0, 6, .inl (fun _ => 0))), (q20, .inl (G.2.1 0, 10, .inl (fun _ => 0))), (q21, .inl (G.2.1 0, 10, .inl (fun _ => 0))), (q22, .inl (G.2.1 0, 10, .inl (fun _ => 0))), (q23, .inl (G.2.1 0, 30, .inl (fun _ => 0))), (q24, .inl (G.2.1 0, 10, .inl (fun _ => 0))), (q25, .inl (G.2.1 0, 10, .inl (fun _ => 0))), (q26, .inl (G.2.1 0, 270, .inl (fun _ => 0))), (q27, .inl (G.2.1 0, 10, .inl (fun _ => 0))), (q28, .inl (G.2.1 0, 2430, .inl (fun _ => 0))), (q29, .inl (G.2.1 1, 729, .inr (.inl (fun _ => 0)))), (q30, .inl (G.2.1 2, 243, .inl (fun _ => 0))), (q31, .inl (G.2.1 0, 10, .inl (fun _ => 0))), (q32, .inl (G.2.1 0, 10, .inl (fun _ => 0))), (q33, .inl (G.2.1 0, 4, .inl (fun _ => 0))), (q34, .inl (G.2.1 0, 108, .inl (fun _ => 0))), (q35, .inl (G.2.1 0, 27, .inl (fun _ => 0)))]) := hD
  refine lv_iconst (v := 0) hx hb d_Mo_init_154 (by decide) ?_
  refine lv_istore_n (lv' := [(1, .int 0), (0, .ref h0)]) hx hb d_Mo_init_155 rfl hl (by decide) rfl (fun ls hl => ?_)
  refine lv_iload_n hx hb d_Mo_init_156 rfl (lv_at hl 0 rfl) ?_
  refine lv_iconst (v := 4) hx hb d_Mo_init_157 (by decide) ?_
  refine lv_icmp_ge (tgt := 175) hx hb d_Mo_init_158 (by decide) (fun c9 => absurd c9 (by decide)) (fun _ => ?_)
  refine lv_aload_n hx hb d_Mo_init_161 rfl (lv_at hl 1 rfl) ?_
  refine va_get (D := G.1) (ci := 5) (v := .ref q33) (C := RX5) (T := TX5) (N := 23) hx hb hg sc_in5 hown hK hP 0 rfl rfl 20 (by decide) (hg (.fieldLink "SightChartModel" 62 "SightChartModel" "sizes" "[I") (sc_mem_ok (by decide +kernel))) (fun _ h9 => h9) rfl d_Mo_init_162 ?_
  refine lv_iload_n hx hb d_Mo_init_165 rfl (lv_at hl 0 rfl) ?_
  refine lv_bipush (v := -9) hx hb d_Mo_init_166 (by decide) ?_
  refine va_iast hx hb hK hP hD hS 15 0 rfl rfl (show ¬ ((0 : Int32) < 0 ∨ 4 ≤ (0 : Int32).toNatClampNeg) by decide +kernel) d_Mo_init_168 (fun H locs hP hD hS => ?_)
  have hP : va_P G.1 vwCl ([(h0, .inr (5, [.int 0, .ref q19, .int 0, .long 0, .long 1, .int 0, .ref q20, .ref q21, .ref q22, .ref q23, .ref q24, .ref q25, .ref q26, .int (-9), .ref q27, .ref q28, .ref q29, .ref q30, .ref q31, .ref q32, .ref q33, .ref q34, .ref q35])), (q19, .inl (G.2.1 0, 6, .inl (fun _ => 0))), (q20, .inl (G.2.1 0, 10, .inl (fun _ => 0))), (q21, .inl (G.2.1 0, 10, .inl (fun _ => 0))), (q22, .inl (G.2.1 0, 10, .inl (fun _ => 0))), (q23, .inl (G.2.1 0, 30, .inl (fun _ => 0))), (q24, .inl (G.2.1 0, 10, .inl (fun _ => 0))), (q25, .inl (G.2.1 0, 10, .inl (fun _ => 0))), (q26, .inl (G.2.1 0, 270, .inl (fun _ => 0))), (q27, .inl (G.2.1 0, 10, .inl (fun _ => 0))), (q28, .inl (G.2.1 0, 2430, .inl (fun _ => 0))), (q29, .inl (G.2.1 1, 729, .inr (.inl (fun _ => 0)))), (q30, .inl (G.2.1 2, 243, .inl (fun _ => 0))), (q31, .inl (G.2.1 0, 10, .inl (fun _ => 0))), (q32, .inl (G.2.1 0, 10, .inl (fun _ => 0))), (q33, .inl (G.2.1 0, 4, .inl (upd (fun _ => 0) 0 (-9)))), (q34, .inl (G.2.1 0, 108, .inl (fun _ => 0))), (q35, .inl (G.2.1 0, 27, .inl (fun _ => 0)))]) H := hP
  have hD : va_D A ([(h0, .inr (5, [.int 0, .ref q19, .int 0, .long 0, .long 1, .int 0, .ref q20, .ref q21, .ref q22, .ref q23, .ref q24, .ref q25, .ref q26, .int (-9), .ref q27, .ref q28, .ref q29, .ref q30, .ref q31, .ref q32, .ref q33, .ref q34, .ref q35])), (q19, .inl (G.2.1 0, 6, .inl (fun _ => 0))), (q20, .inl (G.2.1 0, 10, .inl (fun _ => 0))), (q21, .inl (G.2.1 0, 10, .inl (fun _ => 0))), (q22, .inl (G.2.1 0, 10, .inl (fun _ => 0))), (q23, .inl (G.2.1 0, 30, .inl (fun _ => 0))), (q24, .inl (G.2.1 0, 10, .inl (fun _ => 0))), (q25, .inl (G.2.1 0, 10, .inl (fun _ => 0))), (q26, .inl (G.2.1 0, 270, .inl (fun _ => 0))), (q27, .inl (G.2.1 0, 10, .inl (fun _ => 0))), (q28, .inl (G.2.1 0, 2430, .inl (fun _ => 0))), (q29, .inl (G.2.1 1, 729, .inr (.inl (fun _ => 0)))), (q30, .inl (G.2.1 2, 243, .inl (fun _ => 0))), (q31, .inl (G.2.1 0, 10, .inl (fun _ => 0))), (q32, .inl (G.2.1 0, 10, .inl (fun _ => 0))), (q33, .inl (G.2.1 0, 4, .inl (upd (fun _ => 0) 0 (-9)))), (q34, .inl (G.2.1 0, 108, .inl (fun _ => 0))), (q35, .inl (G.2.1 0, 27, .inl (fun _ => 0)))]) := hD
  refine lv_iinc (v := 1) (lv' := [(1, .int 1), (0, .ref h0)]) hx hb d_Mo_init_169 hl (k := 0) rfl (by decide) (by decide) rfl (fun ls hl => ?_)
  refine lv_goto (tgt := 156) hx hb d_Mo_init_172 (by decide) ?_
  refine lv_iload_n hx hb d_Mo_init_156 rfl (lv_at hl 0 rfl) ?_
  refine lv_iconst (v := 4) hx hb d_Mo_init_157 (by decide) ?_
  refine lv_icmp_ge (tgt := 175) hx hb d_Mo_init_158 (by decide) (fun c9 => absurd c9 (by decide)) (fun _ => ?_)
  refine lv_aload_n hx hb d_Mo_init_161 rfl (lv_at hl 1 rfl) ?_
  refine va_get (D := G.1) (ci := 5) (v := .ref q33) (C := RX5) (T := TX5) (N := 23) hx hb hg sc_in5 hown hK hP 0 rfl rfl 20 (by decide) (hg (.fieldLink "SightChartModel" 62 "SightChartModel" "sizes" "[I") (sc_mem_ok (by decide +kernel))) (fun _ h9 => h9) rfl d_Mo_init_162 ?_
  refine lv_iload_n hx hb d_Mo_init_165 rfl (lv_at hl 0 rfl) ?_
  refine lv_bipush (v := -9) hx hb d_Mo_init_166 (by decide) ?_
  refine va_iast hx hb hK hP hD hS 15 0 rfl rfl (show ¬ ((1 : Int32) < 0 ∨ 4 ≤ (1 : Int32).toNatClampNeg) by decide +kernel) d_Mo_init_168 (fun H locs hP hD hS => ?_)
  have hP : va_P G.1 vwCl ([(h0, .inr (5, [.int 0, .ref q19, .int 0, .long 0, .long 1, .int 0, .ref q20, .ref q21, .ref q22, .ref q23, .ref q24, .ref q25, .ref q26, .int (-9), .ref q27, .ref q28, .ref q29, .ref q30, .ref q31, .ref q32, .ref q33, .ref q34, .ref q35])), (q19, .inl (G.2.1 0, 6, .inl (fun _ => 0))), (q20, .inl (G.2.1 0, 10, .inl (fun _ => 0))), (q21, .inl (G.2.1 0, 10, .inl (fun _ => 0))), (q22, .inl (G.2.1 0, 10, .inl (fun _ => 0))), (q23, .inl (G.2.1 0, 30, .inl (fun _ => 0))), (q24, .inl (G.2.1 0, 10, .inl (fun _ => 0))), (q25, .inl (G.2.1 0, 10, .inl (fun _ => 0))), (q26, .inl (G.2.1 0, 270, .inl (fun _ => 0))), (q27, .inl (G.2.1 0, 10, .inl (fun _ => 0))), (q28, .inl (G.2.1 0, 2430, .inl (fun _ => 0))), (q29, .inl (G.2.1 1, 729, .inr (.inl (fun _ => 0)))), (q30, .inl (G.2.1 2, 243, .inl (fun _ => 0))), (q31, .inl (G.2.1 0, 10, .inl (fun _ => 0))), (q32, .inl (G.2.1 0, 10, .inl (fun _ => 0))), (q33, .inl (G.2.1 0, 4, .inl (upd (upd (fun _ => 0) 0 (-9)) 1 (-9)))), (q34, .inl (G.2.1 0, 108, .inl (fun _ => 0))), (q35, .inl (G.2.1 0, 27, .inl (fun _ => 0)))]) H := hP
  have hD : va_D A ([(h0, .inr (5, [.int 0, .ref q19, .int 0, .long 0, .long 1, .int 0, .ref q20, .ref q21, .ref q22, .ref q23, .ref q24, .ref q25, .ref q26, .int (-9), .ref q27, .ref q28, .ref q29, .ref q30, .ref q31, .ref q32, .ref q33, .ref q34, .ref q35])), (q19, .inl (G.2.1 0, 6, .inl (fun _ => 0))), (q20, .inl (G.2.1 0, 10, .inl (fun _ => 0))), (q21, .inl (G.2.1 0, 10, .inl (fun _ => 0))), (q22, .inl (G.2.1 0, 10, .inl (fun _ => 0))), (q23, .inl (G.2.1 0, 30, .inl (fun _ => 0))), (q24, .inl (G.2.1 0, 10, .inl (fun _ => 0))), (q25, .inl (G.2.1 0, 10, .inl (fun _ => 0))), (q26, .inl (G.2.1 0, 270, .inl (fun _ => 0))), (q27, .inl (G.2.1 0, 10, .inl (fun _ => 0))), (q28, .inl (G.2.1 0, 2430, .inl (fun _ => 0))), (q29, .inl (G.2.1 1, 729, .inr (.inl (fun _ => 0)))), (q30, .inl (G.2.1 2, 243, .inl (fun _ => 0))), (q31, .inl (G.2.1 0, 10, .inl (fun _ => 0))), (q32, .inl (G.2.1 0, 10, .inl (fun _ => 0))), (q33, .inl (G.2.1 0, 4, .inl (upd (upd (fun _ => 0) 0 (-9)) 1 (-9)))), (q34, .inl (G.2.1 0, 108, .inl (fun _ => 0))), (q35, .inl (G.2.1 0, 27, .inl (fun _ => 0)))]) := hD
  refine lv_iinc (v := 2) (lv' := [(1, .int 2), (0, .ref h0)]) hx hb d_Mo_init_169 hl (k := 0) rfl (by decide) (by decide) rfl (fun ls hl => ?_)
  refine lv_goto (tgt := 156) hx hb d_Mo_init_172 (by decide) ?_
  refine lv_iload_n hx hb d_Mo_init_156 rfl (lv_at hl 0 rfl) ?_
  refine lv_iconst (v := 4) hx hb d_Mo_init_157 (by decide) ?_
  refine lv_icmp_ge (tgt := 175) hx hb d_Mo_init_158 (by decide) (fun c9 => absurd c9 (by decide)) (fun _ => ?_)
  refine lv_aload_n hx hb d_Mo_init_161 rfl (lv_at hl 1 rfl) ?_
  refine va_get (D := G.1) (ci := 5) (v := .ref q33) (C := RX5) (T := TX5) (N := 23) hx hb hg sc_in5 hown hK hP 0 rfl rfl 20 (by decide) (hg (.fieldLink "SightChartModel" 62 "SightChartModel" "sizes" "[I") (sc_mem_ok (by decide +kernel))) (fun _ h9 => h9) rfl d_Mo_init_162 ?_
  refine lv_iload_n hx hb d_Mo_init_165 rfl (lv_at hl 0 rfl) ?_
  refine lv_bipush (v := -9) hx hb d_Mo_init_166 (by decide) ?_
  refine va_iast hx hb hK hP hD hS 15 0 rfl rfl (show ¬ ((2 : Int32) < 0 ∨ 4 ≤ (2 : Int32).toNatClampNeg) by decide +kernel) d_Mo_init_168 (fun H locs hP hD hS => ?_)
  have hP : va_P G.1 vwCl ([(h0, .inr (5, [.int 0, .ref q19, .int 0, .long 0, .long 1, .int 0, .ref q20, .ref q21, .ref q22, .ref q23, .ref q24, .ref q25, .ref q26, .int (-9), .ref q27, .ref q28, .ref q29, .ref q30, .ref q31, .ref q32, .ref q33, .ref q34, .ref q35])), (q19, .inl (G.2.1 0, 6, .inl (fun _ => 0))), (q20, .inl (G.2.1 0, 10, .inl (fun _ => 0))), (q21, .inl (G.2.1 0, 10, .inl (fun _ => 0))), (q22, .inl (G.2.1 0, 10, .inl (fun _ => 0))), (q23, .inl (G.2.1 0, 30, .inl (fun _ => 0))), (q24, .inl (G.2.1 0, 10, .inl (fun _ => 0))), (q25, .inl (G.2.1 0, 10, .inl (fun _ => 0))), (q26, .inl (G.2.1 0, 270, .inl (fun _ => 0))), (q27, .inl (G.2.1 0, 10, .inl (fun _ => 0))), (q28, .inl (G.2.1 0, 2430, .inl (fun _ => 0))), (q29, .inl (G.2.1 1, 729, .inr (.inl (fun _ => 0)))), (q30, .inl (G.2.1 2, 243, .inl (fun _ => 0))), (q31, .inl (G.2.1 0, 10, .inl (fun _ => 0))), (q32, .inl (G.2.1 0, 10, .inl (fun _ => 0))), (q33, .inl (G.2.1 0, 4, .inl (upd (upd (upd (fun _ => 0) 0 (-9)) 1 (-9)) 2 (-9)))), (q34, .inl (G.2.1 0, 108, .inl (fun _ => 0))), (q35, .inl (G.2.1 0, 27, .inl (fun _ => 0)))]) H := hP
  have hD : va_D A ([(h0, .inr (5, [.int 0, .ref q19, .int 0, .long 0, .long 1, .int 0, .ref q20, .ref q21, .ref q22, .ref q23, .ref q24, .ref q25, .ref q26, .int (-9), .ref q27, .ref q28, .ref q29, .ref q30, .ref q31, .ref q32, .ref q33, .ref q34, .ref q35])), (q19, .inl (G.2.1 0, 6, .inl (fun _ => 0))), (q20, .inl (G.2.1 0, 10, .inl (fun _ => 0))), (q21, .inl (G.2.1 0, 10, .inl (fun _ => 0))), (q22, .inl (G.2.1 0, 10, .inl (fun _ => 0))), (q23, .inl (G.2.1 0, 30, .inl (fun _ => 0))), (q24, .inl (G.2.1 0, 10, .inl (fun _ => 0))), (q25, .inl (G.2.1 0, 10, .inl (fun _ => 0))), (q26, .inl (G.2.1 0, 270, .inl (fun _ => 0))), (q27, .inl (G.2.1 0, 10, .inl (fun _ => 0))), (q28, .inl (G.2.1 0, 2430, .inl (fun _ => 0))), (q29, .inl (G.2.1 1, 729, .inr (.inl (fun _ => 0)))), (q30, .inl (G.2.1 2, 243, .inl (fun _ => 0))), (q31, .inl (G.2.1 0, 10, .inl (fun _ => 0))), (q32, .inl (G.2.1 0, 10, .inl (fun _ => 0))), (q33, .inl (G.2.1 0, 4, .inl (upd (upd (upd (fun _ => 0) 0 (-9)) 1 (-9)) 2 (-9)))), (q34, .inl (G.2.1 0, 108, .inl (fun _ => 0))), (q35, .inl (G.2.1 0, 27, .inl (fun _ => 0)))]) := hD
  refine lv_iinc (v := 3) (lv' := [(1, .int 3), (0, .ref h0)]) hx hb d_Mo_init_169 hl (k := 0) rfl (by decide) (by decide) rfl (fun ls hl => ?_)
  refine lv_goto (tgt := 156) hx hb d_Mo_init_172 (by decide) ?_
  refine lv_iload_n hx hb d_Mo_init_156 rfl (lv_at hl 0 rfl) ?_
  refine lv_iconst (v := 4) hx hb d_Mo_init_157 (by decide) ?_
  refine lv_icmp_ge (tgt := 175) hx hb d_Mo_init_158 (by decide) (fun c9 => absurd c9 (by decide)) (fun _ => ?_)
  refine lv_aload_n hx hb d_Mo_init_161 rfl (lv_at hl 1 rfl) ?_
  refine va_get (D := G.1) (ci := 5) (v := .ref q33) (C := RX5) (T := TX5) (N := 23) hx hb hg sc_in5 hown hK hP 0 rfl rfl 20 (by decide) (hg (.fieldLink "SightChartModel" 62 "SightChartModel" "sizes" "[I") (sc_mem_ok (by decide +kernel))) (fun _ h9 => h9) rfl d_Mo_init_162 ?_
  refine lv_iload_n hx hb d_Mo_init_165 rfl (lv_at hl 0 rfl) ?_
  refine lv_bipush (v := -9) hx hb d_Mo_init_166 (by decide) ?_
  refine va_iast hx hb hK hP hD hS 15 0 rfl rfl (show ¬ ((3 : Int32) < 0 ∨ 4 ≤ (3 : Int32).toNatClampNeg) by decide +kernel) d_Mo_init_168 (fun H locs hP hD hS => ?_)
  have hP : va_P G.1 vwCl ([(h0, .inr (5, [.int 0, .ref q19, .int 0, .long 0, .long 1, .int 0, .ref q20, .ref q21, .ref q22, .ref q23, .ref q24, .ref q25, .ref q26, .int (-9), .ref q27, .ref q28, .ref q29, .ref q30, .ref q31, .ref q32, .ref q33, .ref q34, .ref q35])), (q19, .inl (G.2.1 0, 6, .inl (fun _ => 0))), (q20, .inl (G.2.1 0, 10, .inl (fun _ => 0))), (q21, .inl (G.2.1 0, 10, .inl (fun _ => 0))), (q22, .inl (G.2.1 0, 10, .inl (fun _ => 0))), (q23, .inl (G.2.1 0, 30, .inl (fun _ => 0))), (q24, .inl (G.2.1 0, 10, .inl (fun _ => 0))), (q25, .inl (G.2.1 0, 10, .inl (fun _ => 0))), (q26, .inl (G.2.1 0, 270, .inl (fun _ => 0))), (q27, .inl (G.2.1 0, 10, .inl (fun _ => 0))), (q28, .inl (G.2.1 0, 2430, .inl (fun _ => 0))), (q29, .inl (G.2.1 1, 729, .inr (.inl (fun _ => 0)))), (q30, .inl (G.2.1 2, 243, .inl (fun _ => 0))), (q31, .inl (G.2.1 0, 10, .inl (fun _ => 0))), (q32, .inl (G.2.1 0, 10, .inl (fun _ => 0))), (q33, .inl (G.2.1 0, 4, .inl (upd (upd (upd (upd (fun _ => 0) 0 (-9)) 1 (-9)) 2 (-9)) 3 (-9)))), (q34, .inl (G.2.1 0, 108, .inl (fun _ => 0))), (q35, .inl (G.2.1 0, 27, .inl (fun _ => 0)))]) H := hP
  have hD : va_D A ([(h0, .inr (5, [.int 0, .ref q19, .int 0, .long 0, .long 1, .int 0, .ref q20, .ref q21, .ref q22, .ref q23, .ref q24, .ref q25, .ref q26, .int (-9), .ref q27, .ref q28, .ref q29, .ref q30, .ref q31, .ref q32, .ref q33, .ref q34, .ref q35])), (q19, .inl (G.2.1 0, 6, .inl (fun _ => 0))), (q20, .inl (G.2.1 0, 10, .inl (fun _ => 0))), (q21, .inl (G.2.1 0, 10, .inl (fun _ => 0))), (q22, .inl (G.2.1 0, 10, .inl (fun _ => 0))), (q23, .inl (G.2.1 0, 30, .inl (fun _ => 0))), (q24, .inl (G.2.1 0, 10, .inl (fun _ => 0))), (q25, .inl (G.2.1 0, 10, .inl (fun _ => 0))), (q26, .inl (G.2.1 0, 270, .inl (fun _ => 0))), (q27, .inl (G.2.1 0, 10, .inl (fun _ => 0))), (q28, .inl (G.2.1 0, 2430, .inl (fun _ => 0))), (q29, .inl (G.2.1 1, 729, .inr (.inl (fun _ => 0)))), (q30, .inl (G.2.1 2, 243, .inl (fun _ => 0))), (q31, .inl (G.2.1 0, 10, .inl (fun _ => 0))), (q32, .inl (G.2.1 0, 10, .inl (fun _ => 0))), (q33, .inl (G.2.1 0, 4, .inl (upd (upd (upd (upd (fun _ => 0) 0 (-9)) 1 (-9)) 2 (-9)) 3 (-9)))), (q34, .inl (G.2.1 0, 108, .inl (fun _ => 0))), (q35, .inl (G.2.1 0, 27, .inl (fun _ => 0)))]) := hD
  refine lv_iinc (v := 4) (lv' := [(1, .int 4), (0, .ref h0)]) hx hb d_Mo_init_169 hl (k := 0) rfl (by decide) (by decide) rfl (fun ls hl => ?_)
  refine lv_goto (tgt := 156) hx hb d_Mo_init_172 (by decide) ?_
  refine lv_iload_n hx hb d_Mo_init_156 rfl (lv_at hl 0 rfl) ?_
  refine lv_iconst (v := 4) hx hb d_Mo_init_157 (by decide) ?_
  refine lv_icmp_ge (tgt := 175) hx hb d_Mo_init_158 (by decide) (fun _ => ?_) (fun c9 => absurd (by decide) c9)
  rw [ck_up4] at hP hD
  have e : ck_w G (fun a => ([h0, q19, q20, q21, q22, q23, q24, q25, q26, q27, q28, q29, q30, q31, q32, q33, q34, q35] : List Nat).getD (a - 18) 0) ck_Lmo = [(h0, .inr (5, [.int 0, .ref q19, .int 0, .long 0, .long 1, .int 0, .ref q20, .ref q21, .ref q22, .ref q23, .ref q24, .ref q25, .ref q26, .int (-9), .ref q27, .ref q28, .ref q29, .ref q30, .ref q31, .ref q32, .ref q33, .ref q34, .ref q35])), (q19, .inl (G.2.1 0, 6, .inl (fun _ => 0))), (q20, .inl (G.2.1 0, 10, .inl (fun _ => 0))), (q21, .inl (G.2.1 0, 10, .inl (fun _ => 0))), (q22, .inl (G.2.1 0, 10, .inl (fun _ => 0))), (q23, .inl (G.2.1 0, 30, .inl (fun _ => 0))), (q24, .inl (G.2.1 0, 10, .inl (fun _ => 0))), (q25, .inl (G.2.1 0, 10, .inl (fun _ => 0))), (q26, .inl (G.2.1 0, 270, .inl (fun _ => 0))), (q27, .inl (G.2.1 0, 10, .inl (fun _ => 0))), (q28, .inl (G.2.1 0, 2430, .inl (fun _ => 0))), (q29, .inl (G.2.1 1, 729, .inr (.inl (fun _ => 0)))), (q30, .inl (G.2.1 2, 243, .inl (fun _ => 0))), (q31, .inl (G.2.1 0, 10, .inl (fun _ => 0))), (q32, .inl (G.2.1 0, 10, .inl (fun _ => 0))), (q33, .inl (G.2.1 0, 4, .inl (fun i => if i < 4 then -9 else 0))), (q34, .inl (G.2.1 0, 108, .inl (fun _ => 0))), (q35, .inl (G.2.1 0, 27, .inl (fun _ => 0)))] := by
    unfold ck_w ck_Lmo
    simp only [List.map_cons, List.map_nil, ck_cel_18, ck_cel_19, ck_cel_20, ck_cel_21, ck_cel_22, ck_cel_23, ck_cel_24, ck_cel_25, ck_cel_26, ck_cel_27, ck_cel_28, ck_cel_29, ck_cel_30, ck_cel_31, ck_cel_32, ck_cel_33, ck_cel_34, ck_cel_35]
    rfl
  refine W.vret hx hb hr (fun t ht hW => ⟨⟨(fun a => ([h0, q19, q20, q21, q22, q23, q24, q25, q26, q27, q28, q29, q30, q31, q32, q33, q34, q35] : List Nat).getD (a - 18) 0), rfl, rfl, by rw [ht, e]; exact hP, by rw [e]; exact hD⟩, hS.F ht⟩) hS.2.2 d_Mo_init_175
/-! CHART -/
def ck_Lch : List Nat := [2, 3] ++ ck_LN 10
theorem ck_w_23 (G : sc_G) (u : Nat → Nat) : ck_w G u [2, 3] = [(u 2, .inr (0, [.ref (u 3), .int 0, .int 1])), (u 3, .inl (G.2.1 3, 10, .inr (.inr (.inr (.inr (fun i => some (u (40 + 3 * i))))))))] := by
  unfold ck_w
  rw [List.map_cons, List.map_cons, List.map_nil, ck_cel_2, ck_cel_3]
theorem ck_Lch_cg {G : sc_G} {u u2 : Nat → Nat} (h : ∀ a, a = 2 ∨ a = 3 ∨ 40 ≤ a → u a = u2 a) : ck_w G u ck_Lch = ck_w G u2 ck_Lch := by
  unfold ck_Lch
  rw [ck_w_app, ck_w_app, ck_LN_cg 10 (by omega) (fun a h1 h2 => h a (by omega)), ck_w_23, ck_w_23, h 2 (by omega), h 3 (by omega), show (fun i => some (u (40 + 3 * i))) = fun i => some (u2 (40 + 3 * i)) from funext fun i => by rw [h (40 + 3 * i) (by omega)]]
set_option maxHeartbeats 1000000 in
set_option maxRecDepth 100000 in
theorem ct_Ch_init (l : Launch) (G : sc_G) (h0 sz : Nat) : Met l mq_Ch_init.1 (sc_ws mq_Ch_init) (ct_rm 2 31 400) (va_Pc [.ref h0] (ck_pre G 0 [.null, .int 0, .int 0] h0 sz)) (ck_Q G 2 ck_Lch h0 (va_A [(h0, .inr (0, [.null, .int 0, .int 0]))] sz)) 31 400 (va_A [(h0, .inr (0, [.null, .int 0, .int 0]))] sz) := by
  refine Met.ofW (cc := mq_Ch_init.2.1) (maxL := 2) (ret := none) (by decide) rfl ?_
  intro p e s m args below meth c s₁ B hml hv
  obtain ⟨rfl, hsz, hP, hK, hN⟩ := hv
  have hx := B.exec
  have hb := B.bytes
  have hr := B.returns
  have hg : ∀ w ∈ sc_gw, w.before ([Value.ref h0] : List Value).toArray s = true := fun w h => atoms_spec (ws := sc_ws mq_Ch_init) B.pre w (List.mem_cons_of_mem _ h)
  have hown : s.vm.findClass "SightChart$Chart" = some m.cls := findClass_of_methodNamed B.named
  have hlocks := B.notSynchronized
  have hin : meth.name = "<init>" := (name_of_methodNamed B.named B.method).1
  subst hsz
  have hD : va_D (va_A [(h0, .inr (0, [.null, .int 0, .int 0]))] s.heap.size) [(h0, .inr (0, [.null, .int 0, .int 0]))] := ck_D_1 (va_A.in (k := 0) rfl)
  generalize hAe : va_A [(h0, .inr (0, [.null, .int 0, .int 0]))] s.heap.size = A at hD ⊢
  have hA : ∀ q : Nat, s.heap.size ≤ q → A q := fun q h => by rw [← hAe]; exact Or.inr h
  have hS : va_S A s.heap s.heap [] := va_S.rf
  show W p l e (ct_rm 2 31 400) s m _ below meth c s.heap [] 0 0 _ _
  have hl := lv_entry ([.ref h0]) (n := 2) (Nat.le_of_ble_eq_true rfl)
  rw [lg_entry_eq]
  generalize (lg_sl ([.ref h0]) ++ List.replicate (2 - (lg_sl ([.ref h0])).length) Slot.unset).toArray = ls at hl ⊢
  have hl : lv_has ls 2 [(0, .ref h0)] := hl
  have hP : va_P G.1 vwCl ([(h0, .inr (0, [.null, .int 0, .int 0]))]) _ := hP
  have hD : va_D A ([(h0, .inr (0, [.null, .int 0, .int 0]))]) := hD
  refine lv_aload_n hx hb d_Ch_init_0 rfl (lv_at hl 0 rfl) ?_
  refine W.objInit hx hb hown (hg (.methodLink "SightChart$Chart" 3 Lib.objectInit) (sc_mem_ok (by decide +kernel))) (hg (.instanceMethod Lib.objectInit) (sc_mem_ok (by decide +kernel))) (hg _ ck_obj) rfl (by rw [hml]; exact hl.1) rfl d_Ch_init_1 (Nat.le_of_ble_eq_true rfl) (Nat.le_of_ble_eq_true rfl) ?_
  refine W.eq (g2 := F0 m 4 ls []) rfl ?_
  refine lv_aload_n hx hb d_Ch_init_4 rfl (lv_at hl 0 rfl) ?_
  refine lv_bipush (v := 10) hx hb d_Ch_init_5 (by decide) ?_
  refine ck_newq (C := "SightChart$Node") (t0 := 3) (cA := G.2.1 3) (N' := 10) hx hb hown (hg (.classLink "SightChart$Chart" 9 "SightChart$Node") (sc_mem_ok (by decide +kernel))) hN.2.2.2.1 hK rfl hP hD hS hA (by decide +kernel) (by decide +kernel) (by decide) (by decide) (by decide) d_Ch_init_7 (fun q3 H hP hD hS => ?_)
  have hP : va_P G.1 vwCl ([(h0, .inr (0, [.null, .int 0, .int 0])), (q3, .inl (G.2.1 3, 10, .inr (.inr (.inr (.inr (fun _ => none))))))]) H := hP
  have hD : va_D A ([(h0, .inr (0, [.null, .int 0, .int 0])), (q3, .inl (G.2.1 3, 10, .inr (.inr (.inr (.inr (fun _ => none))))))]) := hD
  refine W.widen (k := 1) (n := 10) (by omega) (by omega) ?_
  refine va_putF (D := G.1) (ci := 0) (v := .ref q3) (ty := .array (.object "SightChart$Node")) (C := RX0) (T := TX0) (N := 3) hx hb hg sc_in0 tyX0 tyX0_ok nmX0 hown hK hP hD hS 0 rfl rfl 0 (by decide) (hg (.fieldLink "SightChart$Chart" 11 "SightChart$Chart" "nodes" "[LSightChart$Node;") (sc_mem_ok (by decide +kernel))) (fun _ h9 => h9) rfl hin rfl (by decide +kernel) rfl rfl (Nat.le_of_ble_eq_true rfl) d_Ch_init_10 (fun H locs hP hD hS => ?_)
  have hP : va_P G.1 vwCl ([(h0, .inr (0, [.ref q3, .int 0, .int 0])), (q3, .inl (G.2.1 3, 10, .inr (.inr (.inr (.inr (fun _ => none))))))]) H := hP
  have hD : va_D A ([(h0, .inr (0, [.ref q3, .int 0, .int 0])), (q3, .inl (G.2.1 3, 10, .inr (.inr (.inr (.inr (fun _ => none))))))]) := hD
  refine lv_aload_n hx hb d_Ch_init_13 rfl (lv_at hl 0 rfl) ?_
  refine lv_iconst (v := 1) hx hb d_Ch_init_14 (by decide) ?_
  refine va_put (D := G.1) (ci := 0) (v := .int 1) (ty := .int) (C := RX0) (T := TX0) (N := 3) hx hb hg sc_in0 tyX0 tyX0_ok nmX0 hown hK hP hD hS 0 rfl rfl 2 (by decide) (hg (.fieldLink "SightChart$Chart" 17 "SightChart$Chart" "worldCount" "I") (sc_mem_ok (by decide +kernel))) (fun _ h9 => h9) rfl (by decide +kernel) rfl rfl (Nat.le_of_ble_eq_true rfl) d_Ch_init_15 (fun H locs hP hD hS => ?_)
  have hP : va_P G.1 vwCl ([(h0, .inr (0, [.ref q3, .int 0, .int 1])), (q3, .inl (G.2.1 3, 10, .inr (.inr (.inr (.inr (fun _ => none))))))]) H := hP
  have hD : va_D A ([(h0, .inr (0, [.ref q3, .int 0, .int 1])), (q3, .inl (G.2.1 3, 10, .inr (.inr (.inr (.inr (fun _ => none))))))]) := hD
  refine lv_iconst (v := nI 0) hx hb d_Ch_init_18 (by decide) ?_
  refine lv_istore_n (lv' := [(1, .int (nI 0)), (0, .ref h0)]) hx hb d_Ch_init_19 rfl hl (by decide) rfl (fun ls hl => ?_)
  have key : ∀ (j i : Nat), i + j = 10 → ∀ (u : Nat → Nat) (H : Heap) (locs : List Loc) (ls : Array Slot), va_P G.1 vwCl ((h0, .inr (0, [.ref q3, .int 0, .int 1])) :: (q3, .inl (G.2.1 3, 10, .inr (.inr (.inr (.inr (fun k => if k < i then some (u (40 + 3 * k)) else none)))))) :: ck_w G u (ck_LN i)) H → va_D A ((h0, .inr (0, [.ref q3, .int 0, .int 1])) :: (q3, .inl (G.2.1 3, 10, .inr (.inr (.inr (.inr (fun k => if k < i then some (u (40 + 3 * k)) else none)))))) :: ck_w G u (ck_LN i)) → va_S A s.heap H locs → lv_has ls 2 [(1, .int (nI i)), (0, .ref h0)] →
      W p l e (ct_rm 2 31 400) s m ([Value.ref h0] : List Value).toArray below meth c H locs (1 + 3 * i) (10 + 39 * i) (MQ below (ck_Q G 2 ck_Lch h0 A) ([Value.ref h0] : List Value).toArray s 31 400 A) (F0 m 20 ls []) := by
    intro j
    induction j with
    | zero =>
      intro i hi u H locs ls hP hD hS hl
      have hi10 : i = 10 := by omega
      subst hi10
      refine lv_iload_n hx hb d_Ch_init_20 rfl (lv_at hl 0 rfl) ?_
      refine lv_bipush (v := nI 10) hx hb d_Ch_init_21 (by decide) ?_
      refine lv_icmp_ge (tgt := 45) hx hb d_Ch_init_23 (by decide) (fun _ => ?_) (fun c9 => absurd (nI_le (Nat.le_refl 10) (by decide)) c9)
      have hA10 : va_P G.1 vwCl ((h0, .inr (0, [.ref q3, .int 0, .int 1])) :: (q3, .inl (G.2.1 3, 10, .inr (.inr (.inr (.inr (fun k => some (u (40 + 3 * k)))))))) :: ck_w G u (ck_LN 10)) H := by
        refine ck_P_of (fun q hq => ?_)
        rcases List.mem_cons.mp hq with h1 | h1
        · exact ck_P_mem hP (by rw [h1]; exact List.mem_cons_self)
        · rcases List.mem_cons.mp h1 with h2 | h2
          · have h3 := ck_P_mem hP (List.mem_cons_of_mem _ List.mem_cons_self)
            subst h2
            have h4 : vp_cell (G.2.1 3) (10, .inr (.inr (.inr (.inr (fun k => if k < 10 then some (u (40 + 3 * k)) else none))))) = vp_cell (G.2.1 3) (10, .inr (.inr (.inr (.inr (fun k => some (u (40 + 3 * k))))))) := by
              rw [vp_cell_q, vp_cell_q]
              unfold arrV
              congr 2
              funext k
              have hk := k.isLt
              show va_rf (if (k : Nat) < 10 then some (u (40 + 3 * (k : Nat))) else none) = _
              rw [if_pos hk]
            show H[q3]? = some (vp_cell _ _)
            rw [← h4]
            exact h3
          · exact ck_P_mem hP (List.mem_cons_of_mem _ (List.mem_cons_of_mem _ h2))
      have hD10 : va_D A ((h0, .inr (0, [.ref q3, .int 0, .int 1])) :: (q3, .inl (G.2.1 3, 10, .inr (.inr (.inr (.inr (fun k => some (u (40 + 3 * k)))))))) :: ck_w G u (ck_LN 10)) := va_D.set (p := 1) (a := q3) (e := .inl (G.2.1 3, 10, .inr (.inr (.inr (.inr (fun k => some (u (40 + 3 * k)))))))) hD rfl
      have e : ck_w G (fun a => if a = 2 then h0 else if a = 3 then q3 else u a) ck_Lch = (h0, .inr (0, [.ref q3, .int 0, .int 1])) :: (q3, .inl (G.2.1 3, 10, .inr (.inr (.inr (.inr (fun k => some (u (40 + 3 * k)))))))) :: ck_w G u (ck_LN 10) := by
        unfold ck_Lch
        rw [ck_w_app, ck_w_23, ck_LN_cg (u := fun a => if a = 2 then h0 else if a = 3 then q3 else u a) (u2 := u) 10 (by omega) (fun a h1 h2 => by show (if a = 2 then h0 else if a = 3 then q3 else u a) = u a; rw [if_neg (by omega), if_neg (by omega)])]
        have e9 : (fun i => some ((fun a => if a = 2 then h0 else if a = 3 then q3 else u a) (40 + 3 * i))) = fun i => some (u (40 + 3 * i)) := funext fun i => by
          show some (if 40 + 3 * i = 2 then h0 else if 40 + 3 * i = 3 then q3 else u (40 + 3 * i)) = _
          rw [if_neg (by omega), if_neg (by omega)]
        rw [e9]
        rfl
      exact W.vret hx hb hr (fun t ht hW => ⟨⟨(fun a => if a = 2 then h0 else if a = 3 then q3 else u a), rfl, rfl, by rw [ht, e]; exact hA10, by rw [e]; exact hD10⟩, hS.F ht⟩) hS.2.2 d_Ch_init_45
    | succ j ih =>
      intro i hi u H locs ls hP hD hS hl
      have hi10 : i < 10 := by omega
      refine lv_iload_n hx hb d_Ch_init_20 rfl (lv_at hl 0 rfl) ?_
      refine lv_bipush (v := nI 10) hx hb d_Ch_init_21 (by decide) ?_
      refine lv_icmp_ge (tgt := 45) hx hb d_Ch_init_23 (by decide) (fun c9 => absurd c9 (nI_ge hi10 (by decide))) (fun _ => ?_)
      refine lv_aload_n hx hb d_Ch_init_26 rfl (lv_at hl 1 rfl) ?_
      refine va_get (D := G.1) (ci := 0) (v := .ref q3) (C := RX0) (T := TX0) (N := 3) hx hb hg sc_in0 hown hK hP 0 rfl rfl 0 (by decide) (hg (.fieldLink "SightChart$Chart" 11 "SightChart$Chart" "nodes" "[LSightChart$Node;") (sc_mem_ok (by decide +kernel))) (fun _ h9 => h9) rfl d_Ch_init_27 ?_
      refine lv_iload_n hx hb d_Ch_init_30 rfl (lv_at hl 0 rfl) ?_
      refine va_new (ci := 2) (fs := [.int 0, .int 0, .int 0, .int 0, .int 0, .int 0, .int 0, .null, .null]) (C := RX2) (T := TX2) (N := 9) hx hb hg sc_in2 tyX2 tyX2_ok hown (hg (.classLink "SightChart$Chart" 9 RX2) (sc_mem_ok (by decide +kernel))) (hg (.instantiable RX2 9) (sc_mem_ok (by decide +kernel))) (hg (.initialized RX2) (sc_mem_ok (by decide +kernel))) hK hP hD hS hA rfl (fun j hj => by rcases (show j = 0 ∨ j = 1 ∨ j = 2 ∨ j = 3 ∨ j = 4 ∨ j = 5 ∨ j = 6 ∨ j = 7 ∨ j = 8 by omega) with rfl | rfl | rfl | rfl | rfl | rfl | rfl | rfl | rfl <;> rfl) (by show 1 + 3 * i + 1 ≤ 31; omega) (by show 10 + 39 * i + 9 ≤ 400; omega) d_Ch_init_31 (fun qn H hP hD hS => ?_)
      refine lv_dup hx hb d_Ch_init_34 rfl ?_
      have hFc := ck_free (ws := (h0, .inr (0, [.ref q3, .int 0, .int 1])) :: (q3, .inl (G.2.1 3, 10, .inr (.inr (.inr (.inr (fun k => if k < i then some (u (40 + 3 * k)) else none)))))) :: ck_w G u (ck_LN i)) hD hS hA
      refine va_callv (va_runIN (As := []) (rest := [.ref qn, .int (nI i), .ref q3]) ⟨hx, hb, hml, hown, hg⟩ (ct_No_init l G qn H.size i hi10) ⟨va_cnB 0 hg (ck_good cm_No_init) rfl rfl rfl hN.1 (hg (.initialized mq_No_init.1.cls) (sc_mem_ok (by decide +kernel))) (by decide +kernel) ⟨by decide, by decide⟩, rfl, (hg (.instanceMethod mq_No_init.1) (sc_mem_ok (by decide +kernel)))⟩ (ck_pr (ck_P_last (ws := (h0, .inr (0, [.ref q3, .int 0, .int 1])) :: (q3, .inl (G.2.1 3, 10, .inr (.inr (.inr (.inr (fun k => if k < i then some (u (40 + 3 * k)) else none)))))) :: ck_w G u (ck_LN i)) hP) hK hN) rfl rfl hl.1 rfl (lv_room (Nat.le_of_ble_eq_true rfl)) d_Ch_init_35 ⟨by show 1 + 3 * i + 1 + 2 ≤ 31; omega, by show 10 + 39 * i + 9 + 30 ≤ 400; omega⟩) hS (fun q _ h => hFc q h) hFc (fun u2 t H1 locs ht hvm hw hB hz1 hk1 hS => ?_)
      obtain ⟨hP1, hD1⟩ := hB
      rw [ht] at hP1
      obtain ⟨hP9, hD9⟩ := ck_join (ws := (h0, .inr (0, [.ref q3, .int 0, .int 1])) :: (q3, .inl (G.2.1 3, 10, .inr (.inr (.inr (.inr (fun k => if k < i then some (u (40 + 3 * k)) else none)))))) :: ck_w G u (ck_LN i)) hP hD hk1 hFc hP1 hD1
      clear hP hD hFc hk1
      subst hw
      have e1 : (h0, .inr (0, [.ref q3, .int 0, .int 1])) :: (q3, .inl (G.2.1 3, 10, .inr (.inr (.inr (.inr (fun k => if k < i then some (u (40 + 3 * k)) else none)))))) :: ck_w G u (ck_LN i) ++ ck_w G u2 [40 + 3 * i, 41 + 3 * i, 42 + 3 * i] = (h0, .inr (0, [.ref q3, .int 0, .int 1])) :: (q3, .inl (G.2.1 3, 10, .inr (.inr (.inr (.inr (fun k => if k < i then some ((fun a => if a < 40 + 3 * i then u a else u2 a) (40 + 3 * k)) else none)))))) :: ck_w G (fun a => if a < 40 + 3 * i then u a else u2 a) (ck_LN (i + 1)) := by
        have f1 : ck_w G u (ck_LN i) = ck_w G (fun a => if a < 40 + 3 * i then u a else u2 a) (ck_LN i) := ck_LN_cg i (by omega) (fun a h1 h2 => (if_pos h2).symm)
        have f2 : ck_w G u2 [40 + 3 * i, 41 + 3 * i, 42 + 3 * i] = ck_w G (fun a => if a < 40 + 3 * i then u a else u2 a) [40 + 3 * i, 41 + 3 * i, 42 + 3 * i] := ck_w_N_cg i hi10 (fun a h1 h2 => (if_neg (by omega)).symm)
        have f3 : (fun k => if k < i then some (u (40 + 3 * k)) else none) = fun k => if k < i then some ((fun a => if a < 40 + 3 * i then u a else u2 a) (40 + 3 * k)) else none := funext fun k => by
          by_cases hk : k < i
          · rw [if_pos hk, if_pos hk]
            show _ = some (if 40 + 3 * k < 40 + 3 * i then u (40 + 3 * k) else u2 (40 + 3 * k))
            rw [if_pos (by omega)]
          · rw [if_neg hk, if_neg hk]
        rw [f1, f2, f3, ck_LN, ck_w_app]
        rfl
      have hu3 : u2 (40 + 3 * i) = (fun a => if a < 40 + 3 * i then u a else u2 a) (40 + 3 * i) := (if_neg (by omega)).symm
      rw [e1] at hP9 hD9
      rw [hu3]
      generalize (fun a => if a < 40 + 3 * i then u a else u2 a) = u3 at hP9 hD9 ⊢
      have hv : ((h0, .inr (0, [.ref q3, .int 0, .int 1])) :: (q3, .inl (G.2.1 3, 10, .inr (.inr (.inr (.inr (fun k => if k < i then some (u3 (40 + 3 * k)) else none)))))) :: ck_w G u3 (ck_LN (i + 1)))[2 + 3 * i]? = some (u3 (40 + 3 * i), .inr (2, [.int 0, .int 0, .int 0, .int 0, .int 0, .int 0, .int 0, .ref (u3 (41 + 3 * i)), .ref (u3 (42 + 3 * i))])) := by
        rw [ck_LN, ck_w_app, ck_w_N G u3 i hi10, show 2 + 3 * i = 3 * i + 1 + 1 by omega, List.getElem?_cons_succ, List.getElem?_cons_succ, List.getElem?_append_right (by rw [ck_LN_len]; omega), ck_LN_len, Nat.sub_self]
        rfl
      refine W.widen (k := 1 + 3 * (i + 1)) (n := 10 + 39 * (i + 1)) (by omega) (by omega) ?_
      refine va_astq (r := (RX2, TX2, 9)) hx hb hK hP9 hD9 hS 1 3 (2 + 3 * i) 2 rfl rfl hv rfl (vp_in_nI hi10 (by decide)) d_Ch_init_38 (fun H locs hP hD hS => ?_)
      have e2 : ((h0, .inr (0, [.ref q3, .int 0, .int 1])) :: (q3, .inl (G.2.1 3, 10, .inr (.inr (.inr (.inr (fun k => if k < i then some (u3 (40 + 3 * k)) else none)))))) :: ck_w G u3 (ck_LN (i + 1))).set 1 (q3, .inl (G.2.1 3, 10, .inr (.inr (.inr (.inr (va_up (fun k => if k < i then some (u3 (40 + 3 * k)) else none) (nI i).toNatClampNeg (some (u3 (40 + 3 * i))))))))) = (h0, .inr (0, [.ref q3, .int 0, .int 1])) :: (q3, .inl (G.2.1 3, 10, .inr (.inr (.inr (.inr (fun k => if k < (i + 1) then some (u3 (40 + 3 * k)) else none)))))) :: ck_w G u3 (ck_LN (i + 1)) := by
        rw [nI_clamp (by omega)]
        have f3 : va_up (fun k => if k < i then some (u3 (40 + 3 * k)) else none) i (some (u3 (40 + 3 * i))) = fun k => if k < i + 1 then some (u3 (40 + 3 * k)) else none := funext fun k => by
          unfold va_up
          by_cases hk : k = i
          · subst hk; rw [if_pos rfl, if_pos (by omega)]
          · rw [if_neg hk]
            show (if k < i then some (u3 (40 + 3 * k)) else none) = _
            by_cases hk2 : k < i
            · rw [if_pos hk2, if_pos (by omega)]
            · rw [if_neg hk2, if_neg (by omega)]
        rw [f3]
        rfl
      rw [e2] at hP hD
      refine lv_iinc (v := nI (i + 1)) (lv' := [(1, .int (nI (i + 1))), (0, .ref h0)]) hx hb d_Ch_init_39 hl (k := 0) rfl (by rw [← nI_1]; rfl) (by decide) rfl (fun ls hl => ?_)
      refine lv_goto (tgt := 20) hx hb d_Ch_init_42 (by decide) ?_
      exact ih (i + 1) (by omega) u3 H locs ls hP hD hS hl
  exact key 10 0 rfl (fun _ => 0) _ _ _ hP hD hS hl
