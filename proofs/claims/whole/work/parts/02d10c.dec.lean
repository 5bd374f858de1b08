theorem dX4_insert_23 : decode cX4_insert 23 = .ok (.getfield 25, 3) := by decide +kernel
theorem dX4_insert_26 : decode cX4_insert 26 = .ok (.if_icmp .le 4, 3) := by decide +kernel
theorem dX4_insert_29 : decode cX4_insert 29 = .ok (.return_, 1) := by decide +kernel
theorem dX4_insert_30 : decode cX4_insert 30 = .ok (.aload_n 0, 1) := by decide +kernel
theorem dX4_insert_31 : decode cX4_insert 31 = .ok (.getfield 25, 3) := by decide +kernel
theorem dX4_insert_34 : decode cX4_insert 34 = .ok (.istore_n 3, 1) := by decide +kernel
theorem dX4_insert_35 : decode cX4_insert 35 = .ok (.iload_n 3, 1) := by decide +kernel
theorem dX4_insert_36 : decode cX4_insert 36 = .ok (.iload_n 1, 1) := by decide +kernel
theorem dX4_insert_37 : decode cX4_insert 37 = .ok (.if_icmp .le 23, 3) := by decide +kernel
theorem dX4_insert_40 : decode cX4_insert 40 = .ok (.aload_n 0, 1) := by decide +kernel
theorem dX4_insert_41 : decode cX4_insert 41 = .ok (.getfield 9, 3) := by decide +kernel
theorem dX4_insert_44 : decode cX4_insert 44 = .ok (.iload_n 3, 1) := by decide +kernel
theorem dX4_insert_45 : decode cX4_insert 45 = .ok (.aload_n 0, 1) := by decide +kernel
theorem dX4_insert_46 : decode cX4_insert 46 = .ok (.getfield 9, 3) := by decide +kernel
theorem dX4_insert_49 : decode cX4_insert 49 = .ok (.iload_n 3, 1) := by decide +kernel
theorem dX4_insert_50 : decode cX4_insert 50 = .ok (.iconst 1, 1) := by decide +kernel
theorem dX4_insert_51 : decode cX4_insert 51 = .ok (.isub, 1) := by decide +kernel
theorem dX4_insert_52 : decode cX4_insert 52 = .ok (.iaload, 1) := by decide +kernel
theorem dX4_insert_53 : decode cX4_insert 53 = .ok (.iastore, 1) := by decide +kernel
theorem dX4_insert_54 : decode cX4_insert 54 = .ok (.iinc 3 (-1), 3) := by decide +kernel
theorem dX4_insert_57 : decode cX4_insert 57 = .ok (.goto (-22), 3) := by decide +kernel
theorem dX4_insert_60 : decode cX4_insert 60 = .ok (.aload_n 0, 1) := by decide +kernel
theorem dX4_insert_61 : decode cX4_insert 61 = .ok (.getfield 9, 3) := by decide +kernel
theorem dX4_insert_64 : decode cX4_insert 64 = .ok (.iload_n 1, 1) := by decide +kernel
theorem dX4_insert_65 : decode cX4_insert 65 = .ok (.aload_n 0, 1) := by decide +kernel
theorem dX4_insert_66 : decode cX4_insert 66 = .ok (.getfield 25, 3) := by decide +kernel
theorem dX4_insert_69 : decode cX4_insert 69 = .ok (.iastore, 1) := by decide +kernel
theorem dX4_insert_70 : decode cX4_insert 70 = .ok (.aload_n 0, 1) := by decide +kernel
theorem dX4_insert_71 : decode cX4_insert 71 = .ok (.getfield 15, 3) := by decide +kernel
theorem dX4_insert_74 : decode cX4_insert 74 = .ok (.aload_n 0, 1) := by decide +kernel
theorem dX4_insert_75 : decode cX4_insert 75 = .ok (.getfield 25, 3) := by decide +kernel
theorem dX4_insert_78 : decode cX4_insert 78 = .ok (.iload_n 2, 1) := by decide +kernel
theorem dX4_insert_79 : decode cX4_insert 79 = .ok (.iastore, 1) := by decide +kernel
theorem dX4_insert_80 : decode cX4_insert 80 = .ok (.aload_n 0, 1) := by decide +kernel
theorem dX4_insert_81 : decode cX4_insert 81 = .ok (.getfield 18, 3) := by decide +kernel
theorem dX4_insert_84 : decode cX4_insert 84 = .ok (.aload_n 0, 1) := by decide +kernel
theorem dX4_insert_85 : decode cX4_insert 85 = .ok (.getfield 25, 3) := by decide +kernel
theorem dX4_insert_88 : decode cX4_insert 88 = .ok (.iconst 0, 1) := by decide +kernel
theorem dX4_insert_89 : decode cX4_insert 89 = .ok (.iastore, 1) := by decide +kernel
theorem dX4_insert_90 : decode cX4_insert 90 = .ok (.aload_n 0, 1) := by decide +kernel
theorem dX4_insert_91 : decode cX4_insert 91 = .ok (.dup, 1) := by decide +kernel
theorem dX4_insert_92 : decode cX4_insert 92 = .ok (.getfield 25, 3) := by decide +kernel
theorem dX4_insert_95 : decode cX4_insert 95 = .ok (.iconst 1, 1) := by decide +kernel
theorem dX4_insert_96 : decode cX4_insert 96 = .ok (.iadd, 1) := by decide +kernel
theorem dX4_insert_97 : decode cX4_insert 97 = .ok (.putfield 25, 3) := by decide +kernel
theorem dX4_insert_100 : decode cX4_insert 100 = .ok (.aload_n 0, 1) := by decide +kernel
theorem dX4_insert_101 : decode cX4_insert 101 = .ok (.dup, 1) := by decide +kernel
theorem dX4_insert_102 : decode cX4_insert 102 = .ok (.getfield 29, 3) := by decide +kernel
theorem dX4_insert_105 : decode cX4_insert 105 = .ok (.iconst 1, 1) := by decide +kernel
theorem dX4_insert_106 : decode cX4_insert 106 = .ok (.iadd, 1) := by decide +kernel
theorem dX4_insert_107 : decode cX4_insert 107 = .ok (.putfield 29, 3) := by decide +kernel
theorem dX4_insert_110 : decode cX4_insert 110 = .ok (.return_, 1) := by decide +kernel
theorem dX5_init_0 : decode cX5_init 0 = .ok (.aload_n 0, 1) := by decide +kernel
theorem dX5_init_1 : decode cX5_init 1 = .ok (.invokespecial 3, 3) := by decide +kernel
theorem dX5_init_4 : decode cX5_init 4 = .ok (.aload_n 0, 1) := by decide +kernel
theorem dX5_init_5 : decode cX5_init 5 = .ok (.aload_n 1, 1) := by decide +kernel
theorem dX5_init_6 : decode cX5_init 6 = .ok (.putfield 9, 3) := by decide +kernel
theorem dX5_init_9 : decode cX5_init 9 = .ok (.aload_n 0, 1) := by decide +kernel
theorem dX5_init_10 : decode cX5_init 10 = .ok (.aload_n 2, 1) := by decide +kernel
theorem dX5_init_11 : decode cX5_init 11 = .ok (.putfield 15, 3) := by decide +kernel
theorem dX5_init_14 : decode cX5_init 14 = .ok (.return_, 1) := by decide +kernel
theorem dX5_readTape_0 : decode cX5_readTape 0 = .ok (.aload_n 0, 1) := by decide +kernel
theorem dX5_readTape_1 : decode cX5_readTape 1 = .ok (.iconst 0, 1) := by decide +kernel
theorem dX5_readTape_2 : decode cX5_readTape 2 = .ok (.putfield 19, 3) := by decide +kernel
theorem dX5_readTape_5 : decode cX5_readTape 5 = .ok (.aload_n 0, 1) := by decide +kernel
theorem dX5_readTape_6 : decode cX5_readTape 6 = .ok (.iconst 0, 1) := by decide +kernel
theorem dX5_readTape_7 : decode cX5_readTape 7 = .ok (.putfield 23, 3) := by decide +kernel
theorem dX5_readTape_10 : decode cX5_readTape 10 = .ok (.aload_n 0, 1) := by decide +kernel
theorem dX5_readTape_11 : decode cX5_readTape 11 = .ok (.iconst 0, 1) := by decide +kernel
theorem dX5_readTape_12 : decode cX5_readTape 12 = .ok (.putfield 26, 3) := by decide +kernel
theorem dX5_readTape_15 : decode cX5_readTape 15 = .ok (.aload_n 0, 1) := by decide +kernel
theorem dX5_readTape_16 : decode cX5_readTape 16 = .ok (.getfield 15, 3) := by decide +kernel
theorem dX5_readTape_19 : decode cX5_readTape 19 = .ok (.invokevirtual 29, 3) := by decide +kernel
theorem dX5_readTape_22 : decode cX5_readTape 22 = .ok (.aload_n 0, 1) := by decide +kernel
theorem dX5_readTape_23 : decode cX5_readTape 23 = .ok (.invokevirtual 34, 3) := by decide +kernel
theorem dX5_readTape_26 : decode cX5_readTape 26 = .ok (.iconst 0, 1) := by decide +kernel
theorem dX5_readTape_27 : decode cX5_readTape 27 = .ok (.istore_n 1, 1) := by decide +kernel
theorem dX5_readTape_28 : decode cX5_readTape 28 = .ok (.iload_n 1, 1) := by decide +kernel
theorem dX5_readTape_29 : decode cX5_readTape 29 = .ok (.sipush 600, 3) := by decide +kernel
theorem dX5_readTape_32 : decode cX5_readTape 32 = .ok (.if_icmp .ge 42, 3) := by decide +kernel
theorem dX5_readTape_35 : decode cX5_readTape 35 = .ok (.aload_n 0, 1) := by decide +kernel
theorem dX5_readTape_36 : decode cX5_readTape 36 = .ok (.getfield 23, 3) := by decide +kernel
theorem dX5_readTape_39 : decode cX5_readTape 39 = .ok (.ifCond .ne 35, 3) := by decide +kernel
theorem dX5_readTape_42 : decode cX5_readTape 42 = .ok (.aload_n 0, 1) := by decide +kernel
theorem dX5_readTape_43 : decode cX5_readTape 43 = .ok (.getfield 19, 3) := by decide +kernel
theorem dX5_readTape_46 : decode cX5_readTape 46 = .ok (.aload_n 0, 1) := by decide +kernel
theorem dX5_readTape_47 : decode cX5_readTape 47 = .ok (.getfield 9, 3) := by decide +kernel
theorem dX5_readTape_50 : decode cX5_readTape 50 = .ok (.getfield 37, 3) := by decide +kernel
theorem dX5_readTape_53 : decode cX5_readTape 53 = .ok (.if_icmp .ge 21, 3) := by decide +kernel
theorem dX5_readTape_56 : decode cX5_readTape 56 = .ok (.aload_n 0, 1) := by decide +kernel
theorem dX5_readTape_57 : decode cX5_readTape 57 = .ok (.invokevirtual 42, 3) := by decide +kernel
theorem dX5_readTape_60 : decode cX5_readTape 60 = .ok (.aload_n 0, 1) := by decide +kernel
theorem dX5_readTape_61 : decode cX5_readTape 61 = .ok (.invokevirtual 45, 3) := by decide +kernel
theorem dX5_readTape_64 : decode cX5_readTape 64 = .ok (.aload_n 0, 1) := by decide +kernel
theorem dX5_readTape_65 : decode cX5_readTape 65 = .ok (.invokevirtual 34, 3) := by decide +kernel
theorem dX5_readTape_68 : decode cX5_readTape 68 = .ok (.iinc 1 1, 3) := by decide +kernel
theorem dX5_readTape_71 : decode cX5_readTape 71 = .ok (.goto (-43), 3) := by decide +kernel
theorem dX5_readTape_74 : decode cX5_readTape 74 = .ok (.aload_n 0, 1) := by decide +kernel
theorem dX5_readTape_75 : decode cX5_readTape 75 = .ok (.getfield 23, 3) := by decide +kernel
theorem dX5_readTape_78 : decode cX5_readTape 78 = .ok (.ireturn, 1) := by decide +kernel
theorem dX5_readClause_0 : decode cX5_readClause 0 = .ok (.aload_n 0, 1) := by decide +kernel
theorem dX5_readClause_1 : decode cX5_readClause 1 = .ok (.getfield 19, 3) := by decide +kernel
theorem dX5_readClause_4 : decode cX5_readClause 4 = .ok (.istore_n 1, 1) := by decide +kernel
theorem dX5_readClause_5 : decode cX5_readClause 5 = .ok (.aload_n 0, 1) := by decide +kernel
theorem dX5_readClause_6 : decode cX5_readClause 6 = .ok (.ldc 48, 2) := by decide +kernel
theorem dX5_readClause_8 : decode cX5_readClause 8 = .ok (.invokevirtual 50, 3) := by decide +kernel
theorem dX5_readClause_11 : decode cX5_readClause 11 = .ok (.ifCond .eq 10, 3) := by decide +kernel
theorem dX5_readClause_14 : decode cX5_readClause 14 = .ok (.aload_n 0, 1) := by decide +kernel
theorem dX5_readClause_15 : decode cX5_readClause 15 = .ok (.invokevirtual 54, 3) := by decide +kernel
theorem dX5_readClause_18 : decode cX5_readClause 18 = .ok (.goto 141, 3) := by decide +kernel
theorem dX5_readClause_21 : decode cX5_readClause 21 = .ok (.aload_n 0, 1) := by decide +kernel
theorem dX5_readClause_22 : decode cX5_readClause 22 = .ok (.ldc 57, 2) := by decide +kernel
theorem dX5_readClause_24 : decode cX5_readClause 24 = .ok (.invokevirtual 50, 3) := by decide +kernel
theorem dX5_readClause_27 : decode cX5_readClause 27 = .ok (.ifCond .eq 27, 3) := by decide +kernel
theorem dX5_readClause_30 : decode cX5_readClause 30 = .ok (.aload_n 0, 1) := by decide +kernel
theorem dX5_readClause_31 : decode cX5_readClause 31 = .ok (.iconst 1, 1) := by decide +kernel
theorem dX5_readClause_32 : decode cX5_readClause 32 = .ok (.iload_n 1, 1) := by decide +kernel
theorem dX5_readClause_33 : decode cX5_readClause 33 = .ok (.invokevirtual 59, 3) := by decide +kernel
theorem dX5_readClause_36 : decode cX5_readClause 36 = .ok (.aload_n 0, 1) := by decide +kernel
theorem dX5_readClause_37 : decode cX5_readClause 37 = .ok (.getfield 15, 3) := by decide +kernel
theorem dX5_readClause_40 : decode cX5_readClause 40 = .ok (.aload_n 0, 1) := by decide +kernel
theorem dX5_readClause_41 : decode cX5_readClause 41 = .ok (.iconst 1, 1) := by decide +kernel
theorem dX5_readClause_42 : decode cX5_readClause 42 = .ok (.sipush 9999, 3) := by decide +kernel
theorem dX5_readClause_45 : decode cX5_readClause 45 = .ok (.invokevirtual 63, 3) := by decide +kernel
theorem dX5_readClause_48 : decode cX5_readClause 48 = .ok (.putfield 67, 3) := by decide +kernel
theorem dX5_readClause_51 : decode cX5_readClause 51 = .ok (.goto 108, 3) := by decide +kernel
theorem dX5_readClause_54 : decode cX5_readClause 54 = .ok (.aload_n 0, 1) := by decide +kernel
theorem dX5_readClause_55 : decode cX5_readClause 55 = .ok (.ldc 69, 2) := by decide +kernel
theorem dX5_readClause_57 : decode cX5_readClause 57 = .ok (.invokevirtual 50, 3) := by decide +kernel
theorem dX5_readClause_60 : decode cX5_readClause 60 = .ok (.ifCond .eq 26, 3) := by decide +kernel
theorem dX5_readClause_63 : decode cX5_readClause 63 = .ok (.aload_n 0, 1) := by decide +kernel
theorem dX5_readClause_64 : decode cX5_readClause 64 = .ok (.iconst 2, 1) := by decide +kernel
theorem dX5_readClause_65 : decode cX5_readClause 65 = .ok (.iload_n 1, 1) := by decide +kernel
theorem dX5_readClause_66 : decode cX5_readClause 66 = .ok (.invokevirtual 59, 3) := by decide +kernel
theorem dX5_readClause_69 : decode cX5_readClause 69 = .ok (.aload_n 0, 1) := by decide +kernel
theorem dX5_readClause_70 : decode cX5_readClause 70 = .ok (.getfield 15, 3) := by decide +kernel
theorem dX5_readClause_73 : decode cX5_readClause 73 = .ok (.aload_n 0, 1) := by decide +kernel
theorem dX5_readClause_74 : decode cX5_readClause 74 = .ok (.iconst 0, 1) := by decide +kernel
theorem dX5_readClause_75 : decode cX5_readClause 75 = .ok (.bipush 24, 2) := by decide +kernel
theorem dX5_readClause_77 : decode cX5_readClause 77 = .ok (.invokevirtual 63, 3) := by decide +kernel
theorem dX5_readClause_80 : decode cX5_readClause 80 = .ok (.putfield 71, 3) := by decide +kernel
theorem dX5_readClause_83 : decode cX5_readClause 83 = .ok (.goto 76, 3) := by decide +kernel
theorem dX5_readClause_86 : decode cX5_readClause 86 = .ok (.aload_n 0, 1) := by decide +kernel
theorem dX5_readClause_87 : decode cX5_readClause 87 = .ok (.ldc 73, 2) := by decide +kernel
theorem dX5_readClause_89 : decode cX5_readClause 89 = .ok (.invokevirtual 50, 3) := by decide +kernel
theorem dX5_readClause_92 : decode cX5_readClause 92 = .ok (.ifCond .eq 27, 3) := by decide +kernel
theorem dX5_readClause_95 : decode cX5_readClause 95 = .ok (.aload_n 0, 1) := by decide +kernel
theorem dX5_readClause_96 : decode cX5_readClause 96 = .ok (.iconst 4, 1) := by decide +kernel
theorem dX5_readClause_97 : decode cX5_readClause 97 = .ok (.iload_n 1, 1) := by decide +kernel
theorem dX5_readClause_98 : decode cX5_readClause 98 = .ok (.invokevirtual 59, 3) := by decide +kernel
theorem dX5_readClause_101 : decode cX5_readClause 101 = .ok (.aload_n 0, 1) := by decide +kernel
theorem dX5_readClause_102 : decode cX5_readClause 102 = .ok (.getfield 15, 3) := by decide +kernel
theorem dX5_readClause_105 : decode cX5_readClause 105 = .ok (.aload_n 0, 1) := by decide +kernel
theorem dX5_readClause_106 : decode cX5_readClause 106 = .ok (.ldc 75, 2) := by decide +kernel
theorem dX5_readClause_108 : decode cX5_readClause 108 = .ok (.ldc 77, 2) := by decide +kernel
theorem dX5_readClause_110 : decode cX5_readClause 110 = .ok (.invokevirtual 79, 3) := by decide +kernel
theorem dX5_readClause_113 : decode cX5_readClause 113 = .ok (.putfield 83, 3) := by decide +kernel
theorem dX5_readClause_116 : decode cX5_readClause 116 = .ok (.goto 43, 3) := by decide +kernel
theorem dX5_readClause_119 : decode cX5_readClause 119 = .ok (.aload_n 0, 1) := by decide +kernel
theorem dX5_readClause_120 : decode cX5_readClause 120 = .ok (.ldc 87, 2) := by decide +kernel
theorem dX5_readClause_122 : decode cX5_readClause 122 = .ok (.invokevirtual 50, 3) := by decide +kernel
theorem dX5_readClause_125 : decode cX5_readClause 125 = .ok (.ifCond .eq 28, 3) := by decide +kernel
theorem dX5_readClause_128 : decode cX5_readClause 128 = .ok (.aload_n 0, 1) := by decide +kernel
theorem dX5_readClause_129 : decode cX5_readClause 129 = .ok (.bipush 8, 2) := by decide +kernel
theorem dX5_readClause_131 : decode cX5_readClause 131 = .ok (.iload_n 1, 1) := by decide +kernel
theorem dX5_readClause_132 : decode cX5_readClause 132 = .ok (.invokevirtual 59, 3) := by decide +kernel
theorem dX5_readClause_135 : decode cX5_readClause 135 = .ok (.aload_n 0, 1) := by decide +kernel
theorem dX5_readClause_136 : decode cX5_readClause 136 = .ok (.getfield 15, 3) := by decide +kernel
theorem dX5_readClause_139 : decode cX5_readClause 139 = .ok (.aload_n 0, 1) := by decide +kernel
theorem dX5_readClause_140 : decode cX5_readClause 140 = .ok (.ldc 89, 2) := by decide +kernel
theorem dX5_readClause_142 : decode cX5_readClause 142 = .ok (.ldc 91, 2) := by decide +kernel
theorem dX5_readClause_144 : decode cX5_readClause 144 = .ok (.invokevirtual 79, 3) := by decide +kernel
theorem dX5_readClause_147 : decode cX5_readClause 147 = .ok (.putfield 93, 3) := by decide +kernel
theorem dX5_readClause_150 : decode cX5_readClause 150 = .ok (.goto 9, 3) := by decide +kernel
theorem dX5_readClause_153 : decode cX5_readClause 153 = .ok (.aload_n 0, 1) := by decide +kernel
theorem dX5_readClause_154 : decode cX5_readClause 154 = .ok (.iconst 1, 1) := by decide +kernel
theorem dX5_readClause_155 : decode cX5_readClause 155 = .ok (.iload_n 1, 1) := by decide +kernel
theorem dX5_readClause_156 : decode cX5_readClause 156 = .ok (.invokevirtual 96, 3) := by decide +kernel
theorem dX5_readClause_159 : decode cX5_readClause 159 = .ok (.return_, 1) := by decide +kernel
theorem dX5_readMotion_0 : decode cX5_readMotion 0 = .ok (.aload_n 0, 1) := by decide +kernel
theorem dX5_readMotion_1 : decode cX5_readMotion 1 = .ok (.invokevirtual 34, 3) := by decide +kernel
theorem dX5_readMotion_4 : decode cX5_readMotion 4 = .ok (.aload_n 0, 1) := by decide +kernel
theorem dX5_readMotion_5 : decode cX5_readMotion 5 = .ok (.getfield 19, 3) := by decide +kernel
theorem dX5_readMotion_8 : decode cX5_readMotion 8 = .ok (.istore_n 1, 1) := by decide +kernel
theorem dX5_readMotion_9 : decode cX5_readMotion 9 = .ok (.aload_n 0, 1) := by decide +kernel
theorem dX5_readMotion_10 : decode cX5_readMotion 10 = .ok (.invokevirtual 99, 3) := by decide +kernel
theorem dX5_readMotion_13 : decode cX5_readMotion 13 = .ok (.istore_n 2, 1) := by decide +kernel
theorem dX5_readMotion_14 : decode cX5_readMotion 14 = .ok (.iload_n 2, 1) := by decide +kernel
theorem dX5_readMotion_15 : decode cX5_readMotion 15 = .ok (.invokestatic 103, 3) := by decide +kernel
theorem dX5_readMotion_18 : decode cX5_readMotion 18 = .ok (.ifCond .ne 10, 3) := by decide +kernel
theorem dX5_readMotion_21 : decode cX5_readMotion 21 = .ok (.aload_n 0, 1) := by decide +kernel
theorem dX5_readMotion_22 : decode cX5_readMotion 22 = .ok (.iconst 1, 1) := by decide +kernel
theorem dX5_readMotion_23 : decode cX5_readMotion 23 = .ok (.iload_n 1, 1) := by decide +kernel
theorem dX5_readMotion_24 : decode cX5_readMotion 24 = .ok (.invokevirtual 96, 3) := by decide +kernel
theorem dX5_readMotion_27 : decode cX5_readMotion 27 = .ok (.return_, 1) := by decide +kernel
theorem dX5_readMotion_28 : decode cX5_readMotion 28 = .ok (.aload_n 0, 1) := by decide +kernel
theorem dX5_readMotion_29 : decode cX5_readMotion 29 = .ok (.getfield 15, 3) := by decide +kernel
theorem dX5_readMotion_32 : decode cX5_readMotion 32 = .ok (.iload_n 2, 1) := by decide +kernel
theorem dX5_readMotion_33 : decode cX5_readMotion 33 = .ok (.invokevirtual 107, 3) := by decide +kernel
theorem dX5_readMotion_36 : decode cX5_readMotion 36 = .ok (.ifCond .eq 10, 3) := by decide +kernel
theorem dX5_readMotion_39 : decode cX5_readMotion 39 = .ok (.aload_n 0, 1) := by decide +kernel
theorem dX5_readMotion_40 : decode cX5_readMotion 40 = .ok (.iconst 3, 1) := by decide +kernel
theorem dX5_readMotion_41 : decode cX5_readMotion 41 = .ok (.iload_n 1, 1) := by decide +kernel
theorem dX5_readMotion_42 : decode cX5_readMotion 42 = .ok (.invokevirtual 96, 3) := by decide +kernel
theorem dX5_readMotion_45 : decode cX5_readMotion 45 = .ok (.return_, 1) := by decide +kernel
theorem dX5_readMotion_46 : decode cX5_readMotion 46 = .ok (.aload_n 0, 1) := by decide +kernel
theorem dX5_readMotion_47 : decode cX5_readMotion 47 = .ok (.ldc 110, 2) := by decide +kernel
theorem dX5_readMotion_49 : decode cX5_readMotion 49 = .ok (.invokevirtual 112, 3) := by decide +kernel
theorem dX5_readMotion_52 : decode cX5_readMotion 52 = .ok (.aload_n 0, 1) := by decide +kernel
theorem dX5_readMotion_53 : decode cX5_readMotion 53 = .ok (.getfield 15, 3) := by decide +kernel
theorem dX5_readMotion_56 : decode cX5_readMotion 56 = .ok (.getfield 116, 3) := by decide +kernel
theorem dX5_readMotion_59 : decode cX5_readMotion 59 = .ok (.iload_n 2, 1) := by decide +kernel
theorem dX5_readMotion_60 : decode cX5_readMotion 60 = .ok (.aload_n 0, 1) := by decide +kernel
theorem dX5_readMotion_61 : decode cX5_readMotion 61 = .ok (.iconst 1, 1) := by decide +kernel
theorem dX5_readMotion_62 : decode cX5_readMotion 62 = .ok (.bipush 99, 2) := by decide +kernel
theorem dX5_readMotion_64 : decode cX5_readMotion 64 = .ok (.invokevirtual 63, 3) := by decide +kernel
theorem dX5_readMotion_67 : decode cX5_readMotion 67 = .ok (.iastore, 1) := by decide +kernel
theorem dX5_readMotion_68 : decode cX5_readMotion 68 = .ok (.aload_n 0, 1) := by decide +kernel
theorem dX5_readMotion_69 : decode cX5_readMotion 69 = .ok (.getfield 15, 3) := by decide +kernel
theorem dX5_readMotion_72 : decode cX5_readMotion 72 = .ok (.getfield 119, 3) := by decide +kernel
theorem dX5_readMotion_75 : decode cX5_readMotion 75 = .ok (.iload_n 2, 1) := by decide +kernel
theorem dX5_readMotion_76 : decode cX5_readMotion 76 = .ok (.aload_n 0, 1) := by decide +kernel
theorem dX5_readMotion_77 : decode cX5_readMotion 77 = .ok (.ldc 123, 2) := by decide +kernel
theorem dX5_readMotion_79 : decode cX5_readMotion 79 = .ok (.invokevirtual 50, 3) := by decide +kernel
theorem dX5_readMotion_82 : decode cX5_readMotion 82 = .ok (.bastore, 1) := by decide +kernel
theorem dX5_readMotion_83 : decode cX5_readMotion 83 = .ok (.aload_n 0, 1) := by decide +kernel
theorem dX5_readMotion_84 : decode cX5_readMotion 84 = .ok (.getfield 15, 3) := by decide +kernel
theorem dX5_readMotion_87 : decode cX5_readMotion 87 = .ok (.getfield 125, 3) := by decide +kernel
theorem dX5_readMotion_90 : decode cX5_readMotion 90 = .ok (.iload_n 2, 1) := by decide +kernel
theorem dX5_readMotion_91 : decode cX5_readMotion 91 = .ok (.aload_n 0, 1) := by decide +kernel
theorem dX5_readMotion_92 : decode cX5_readMotion 92 = .ok (.ldc 128, 2) := by decide +kernel
theorem dX5_readMotion_94 : decode cX5_readMotion 94 = .ok (.invokevirtual 50, 3) := by decide +kernel
theorem dX5_readMotion_97 : decode cX5_readMotion 97 = .ok (.bastore, 1) := by decide +kernel
theorem dX5_readMotion_98 : decode cX5_readMotion 98 = .ok (.aload_n 0, 1) := by decide +kernel
theorem dX5_readMotion_99 : decode cX5_readMotion 99 = .ok (.ldc 130, 2) := by decide +kernel
theorem dX5_readMotion_101 : decode cX5_readMotion 101 = .ok (.invokevirtual 112, 3) := by decide +kernel
theorem dX5_readMotion_104 : decode cX5_readMotion 104 = .ok (.aload_n 0, 1) := by decide +kernel
theorem dX5_readMotion_105 : decode cX5_readMotion 105 = .ok (.getfield 15, 3) := by decide +kernel
theorem dX5_readMotion_108 : decode cX5_readMotion 108 = .ok (.getfield 132, 3) := by decide +kernel
theorem dX5_readMotion_111 : decode cX5_readMotion 111 = .ok (.iload_n 2, 1) := by decide +kernel
theorem dX5_readMotion_112 : decode cX5_readMotion 112 = .ok (.aload_n 0, 1) := by decide +kernel
theorem dX5_readMotion_113 : decode cX5_readMotion 113 = .ok (.invokevirtual 135, 3) := by decide +kernel
theorem dX5_readMotion_116 : decode cX5_readMotion 116 = .ok (.iastore, 1) := by decide +kernel
theorem dX5_readMotion_117 : decode cX5_readMotion 117 = .ok (.return_, 1) := by decide +kernel
theorem dX5_readKind_0 : decode cX5_readKind 0 = .ok (.iconst 0, 1) := by decide +kernel
theorem dX5_readKind_1 : decode cX5_readKind 1 = .ok (.istore_n 1, 1) := by decide +kernel
theorem dX5_readKind_2 : decode cX5_readKind 2 = .ok (.iload_n 1, 1) := by decide +kernel
theorem dX5_readKind_3 : decode cX5_readKind 3 = .ok (.bipush 8, 2) := by decide +kernel
theorem dX5_readKind_5 : decode cX5_readKind 5 = .ok (.if_icmp .ge 22, 3) := by decide +kernel
theorem dX5_readKind_8 : decode cX5_readKind 8 = .ok (.aload_n 0, 1) := by decide +kernel
theorem dX5_readKind_9 : decode cX5_readKind 9 = .ok (.iload_n 1, 1) := by decide +kernel
theorem dX5_readKind_10 : decode cX5_readKind 10 = .ok (.invokestatic 138, 3) := by decide +kernel
theorem dX5_readKind_13 : decode cX5_readKind 13 = .ok (.invokevirtual 50, 3) := by decide +kernel
theorem dX5_readKind_16 : decode cX5_readKind 16 = .ok (.ifCond .eq 5, 3) := by decide +kernel
theorem dX5_readKind_19 : decode cX5_readKind 19 = .ok (.iload_n 1, 1) := by decide +kernel
theorem dX5_readKind_20 : decode cX5_readKind 20 = .ok (.ireturn, 1) := by decide +kernel
theorem dX5_readKind_21 : decode cX5_readKind 21 = .ok (.iinc 1 1, 3) := by decide +kernel
theorem dX5_readKind_24 : decode cX5_readKind 24 = .ok (.goto (-22), 3) := by decide +kernel
theorem dX5_readKind_27 : decode cX5_readKind 27 = .ok (.iconst (-1), 1) := by decide +kernel
theorem dX5_readKind_28 : decode cX5_readKind 28 = .ok (.ireturn, 1) := by decide +kernel
theorem dX5_readWay_0 : decode cX5_readWay 0 = .ok (.iconst 0, 1) := by decide +kernel
theorem dX5_readWay_1 : decode cX5_readWay 1 = .ok (.istore_n 1, 1) := by decide +kernel
theorem dX5_readWay_2 : decode cX5_readWay 2 = .ok (.iload_n 1, 1) := by decide +kernel
theorem dX5_readWay_3 : decode cX5_readWay 3 = .ok (.iconst 4, 1) := by decide +kernel
theorem dX5_readWay_4 : decode cX5_readWay 4 = .ok (.if_icmp .ge 22, 3) := by decide +kernel
theorem dX5_readWay_7 : decode cX5_readWay 7 = .ok (.aload_n 0, 1) := by decide +kernel
theorem dX5_readWay_8 : decode cX5_readWay 8 = .ok (.iload_n 1, 1) := by decide +kernel
theorem dX5_readWay_9 : decode cX5_readWay 9 = .ok (.invokestatic 142, 3) := by decide +kernel
theorem dX5_readWay_12 : decode cX5_readWay 12 = .ok (.invokevirtual 50, 3) := by decide +kernel
theorem dX5_readWay_15 : decode cX5_readWay 15 = .ok (.ifCond .eq 5, 3) := by decide +kernel
theorem dX5_readWay_18 : decode cX5_readWay 18 = .ok (.iload_n 1, 1) := by decide +kernel
theorem dX5_readWay_19 : decode cX5_readWay 19 = .ok (.ireturn, 1) := by decide +kernel
theorem dX5_readWay_20 : decode cX5_readWay 20 = .ok (.iinc 1 1, 3) := by decide +kernel
theorem dX5_readWay_23 : decode cX5_readWay 23 = .ok (.goto (-21), 3) := by decide +kernel
theorem dX5_readWay_26 : decode cX5_readWay 26 = .ok (.aload_n 0, 1) := by decide +kernel
theorem dX5_readWay_27 : decode cX5_readWay 27 = .ok (.iconst 1, 1) := by decide +kernel
theorem dX5_readWay_28 : decode cX5_readWay 28 = .ok (.aload_n 0, 1) := by decide +kernel
theorem dX5_readWay_29 : decode cX5_readWay 29 = .ok (.getfield 19, 3) := by decide +kernel
theorem dX5_readWay_32 : decode cX5_readWay 32 = .ok (.invokevirtual 96, 3) := by decide +kernel
theorem dX5_readWay_35 : decode cX5_readWay 35 = .ok (.iconst (-1), 1) := by decide +kernel
theorem dX5_readWay_36 : decode cX5_readWay 36 = .ok (.ireturn, 1) := by decide +kernel
theorem dX5_readChoice_0 : decode cX5_readChoice 0 = .ok (.aload_n 0, 1) := by decide +kernel
theorem dX5_readChoice_1 : decode cX5_readChoice 1 = .ok (.aload_n 1, 1) := by decide +kernel
theorem dX5_readChoice_2 : decode cX5_readChoice 2 = .ok (.invokevirtual 50, 3) := by decide +kernel
theorem dX5_readChoice_5 : decode cX5_readChoice 5 = .ok (.ifCond .eq 5, 3) := by decide +kernel
theorem dX5_readChoice_8 : decode cX5_readChoice 8 = .ok (.iconst 1, 1) := by decide +kernel
theorem dX5_readChoice_9 : decode cX5_readChoice 9 = .ok (.ireturn, 1) := by decide +kernel
theorem dX5_readChoice_10 : decode cX5_readChoice 10 = .ok (.aload_n 0, 1) := by decide +kernel
theorem dX5_readChoice_11 : decode cX5_readChoice 11 = .ok (.aload_n 2, 1) := by decide +kernel
theorem dX5_readChoice_12 : decode cX5_readChoice 12 = .ok (.invokevirtual 112, 3) := by decide +kernel
theorem dX5_readChoice_15 : decode cX5_readChoice 15 = .ok (.iconst 0, 1) := by decide +kernel
theorem dX5_readChoice_16 : decode cX5_readChoice 16 = .ok (.ireturn, 1) := by decide +kernel
theorem dX5_readNumber_0 : decode cX5_readNumber 0 = .ok (.aload_n 0, 1) := by decide +kernel
theorem dX5_readNumber_1 : decode cX5_readNumber 1 = .ok (.invokevirtual 34, 3) := by decide +kernel
theorem dX5_readNumber_4 : decode cX5_readNumber 4 = .ok (.aload_n 0, 1) := by decide +kernel
theorem dX5_readNumber_5 : decode cX5_readNumber 5 = .ok (.getfield 19, 3) := by decide +kernel
theorem dX5_readNumber_8 : decode cX5_readNumber 8 = .ok (.istore_n 3, 1) := by decide +kernel
theorem dX5_readNumber_9 : decode cX5_readNumber 9 = .ok (.iconst 0, 1) := by decide +kernel
theorem dX5_readNumber_10 : decode cX5_readNumber 10 = .ok (.istore 4, 2) := by decide +kernel
theorem dX5_readNumber_12 : decode cX5_readNumber 12 = .ok (.aload_n 0, 1) := by decide +kernel
theorem dX5_readNumber_13 : decode cX5_readNumber 13 = .ok (.getfield 19, 3) := by decide +kernel
theorem dX5_readNumber_16 : decode cX5_readNumber 16 = .ok (.aload_n 0, 1) := by decide +kernel
theorem dX5_readNumber_17 : decode cX5_readNumber 17 = .ok (.getfield 9, 3) := by decide +kernel
theorem dX5_readNumber_20 : decode cX5_readNumber 20 = .ok (.getfield 37, 3) := by decide +kernel
theorem dX5_readNumber_23 : decode cX5_readNumber 23 = .ok (.if_icmp .ge 65, 3) := by decide +kernel
theorem dX5_readNumber_26 : decode cX5_readNumber 26 = .ok (.aload_n 0, 1) := by decide +kernel
theorem dX5_readNumber_27 : decode cX5_readNumber 27 = .ok (.getfield 9, 3) := by decide +kernel
theorem dX5_readNumber_30 : decode cX5_readNumber 30 = .ok (.aload_n 0, 1) := by decide +kernel
theorem dX5_readNumber_31 : decode cX5_readNumber 31 = .ok (.getfield 19, 3) := by decide +kernel
theorem dX5_readNumber_34 : decode cX5_readNumber 34 = .ok (.invokevirtual 145, 3) := by decide +kernel
theorem dX5_readNumber_37 : decode cX5_readNumber 37 = .ok (.invokestatic 149, 3) := by decide +kernel
theorem dX5_readNumber_40 : decode cX5_readNumber 40 = .ok (.ifCond .eq 48, 3) := by decide +kernel
theorem dX5_readNumber_43 : decode cX5_readNumber 43 = .ok (.aload_n 0, 1) := by decide +kernel
theorem dX5_readNumber_44 : decode cX5_readNumber 44 = .ok (.getfield 19, 3) := by decide +kernel
theorem dX5_readNumber_47 : decode cX5_readNumber 47 = .ok (.iload_n 3, 1) := by decide +kernel
theorem dX5_readNumber_48 : decode cX5_readNumber 48 = .ok (.isub, 1) := by decide +kernel
theorem dX5_readNumber_49 : decode cX5_readNumber 49 = .ok (.iconst 4, 1) := by decide +kernel
theorem dX5_readNumber_50 : decode cX5_readNumber 50 = .ok (.if_icmp .ge 25, 3) := by decide +kernel
theorem dX5_readNumber_53 : decode cX5_readNumber 53 = .ok (.iload 4, 2) := by decide +kernel
theorem dX5_readNumber_55 : decode cX5_readNumber 55 = .ok (.bipush 10, 2) := by decide +kernel
theorem dX5_readNumber_57 : decode cX5_readNumber 57 = .ok (.imul, 1) := by decide +kernel
theorem dX5_readNumber_58 : decode cX5_readNumber 58 = .ok (.aload_n 0, 1) := by decide +kernel
theorem dX5_readNumber_59 : decode cX5_readNumber 59 = .ok (.getfield 9, 3) := by decide +kernel
theorem dX5_readNumber_62 : decode cX5_readNumber 62 = .ok (.aload_n 0, 1) := by decide +kernel
theorem dX5_readNumber_63 : decode cX5_readNumber 63 = .ok (.getfield 19, 3) := by decide +kernel
theorem dX5_readNumber_66 : decode cX5_readNumber 66 = .ok (.invokevirtual 145, 3) := by decide +kernel
theorem dX5_readNumber_69 : decode cX5_readNumber 69 = .ok (.iadd, 1) := by decide +kernel
theorem dX5_readNumber_70 : decode cX5_readNumber 70 = .ok (.bipush 48, 2) := by decide +kernel
theorem dX5_readNumber_72 : decode cX5_readNumber 72 = .ok (.isub, 1) := by decide +kernel
theorem dX5_readNumber_73 : decode cX5_readNumber 73 = .ok (.istore 4, 2) := by decide +kernel
theorem dX5_readNumber_75 : decode cX5_readNumber 75 = .ok (.aload_n 0, 1) := by decide +kernel
theorem dX5_readNumber_76 : decode cX5_readNumber 76 = .ok (.dup, 1) := by decide +kernel
theorem dX5_readNumber_77 : decode cX5_readNumber 77 = .ok (.getfield 19, 3) := by decide +kernel
theorem dX5_readNumber_80 : decode cX5_readNumber 80 = .ok (.iconst 1, 1) := by decide +kernel
theorem dX5_readNumber_81 : decode cX5_readNumber 81 = .ok (.iadd, 1) := by decide +kernel
theorem dX5_readNumber_82 : decode cX5_readNumber 82 = .ok (.putfield 19, 3) := by decide +kernel
theorem dX5_readNumber_85 : decode cX5_readNumber 85 = .ok (.goto (-73), 3) := by decide +kernel
theorem dX5_readNumber_88 : decode cX5_readNumber 88 = .ok (.aload_n 0, 1) := by decide +kernel
theorem dX5_readNumber_89 : decode cX5_readNumber 89 = .ok (.getfield 19, 3) := by decide +kernel
theorem dX5_readNumber_92 : decode cX5_readNumber 92 = .ok (.iload_n 3, 1) := by decide +kernel
theorem dX5_readNumber_93 : decode cX5_readNumber 93 = .ok (.if_icmp .ne 12, 3) := by decide +kernel
theorem dX5_readNumber_96 : decode cX5_readNumber 96 = .ok (.aload_n 0, 1) := by decide +kernel
theorem dX5_readNumber_97 : decode cX5_readNumber 97 = .ok (.iconst 1, 1) := by decide +kernel
theorem dX5_readNumber_98 : decode cX5_readNumber 98 = .ok (.iload_n 3, 1) := by decide +kernel
theorem dX5_readNumber_99 : decode cX5_readNumber 99 = .ok (.invokevirtual 96, 3) := by decide +kernel
theorem dX5_readNumber_102 : decode cX5_readNumber 102 = .ok (.goto 31, 3) := by decide +kernel
theorem dX5_readNumber_105 : decode cX5_readNumber 105 = .ok (.aload_n 0, 1) := by decide +kernel
theorem dX5_readNumber_106 : decode cX5_readNumber 106 = .ok (.getfield 19, 3) := by decide +kernel
theorem dX5_readNumber_109 : decode cX5_readNumber 109 = .ok (.iload_n 3, 1) := by decide +kernel
theorem dX5_readNumber_110 : decode cX5_readNumber 110 = .ok (.isub, 1) := by decide +kernel
theorem dX5_readNumber_111 : decode cX5_readNumber 111 = .ok (.iconst 4, 1) := by decide +kernel
theorem dX5_readNumber_112 : decode cX5_readNumber 112 = .ok (.if_icmp .gt 15, 3) := by decide +kernel
theorem dX5_readNumber_115 : decode cX5_readNumber 115 = .ok (.iload 4, 2) := by decide +kernel
theorem dX5_readNumber_117 : decode cX5_readNumber 117 = .ok (.iload_n 1, 1) := by decide +kernel
theorem dX5_readNumber_118 : decode cX5_readNumber 118 = .ok (.if_icmp .lt 9, 3) := by decide +kernel
theorem dX5_readNumber_121 : decode cX5_readNumber 121 = .ok (.iload 4, 2) := by decide +kernel
theorem dX5_readNumber_123 : decode cX5_readNumber 123 = .ok (.iload_n 2, 1) := by decide +kernel
theorem dX5_readNumber_124 : decode cX5_readNumber 124 = .ok (.if_icmp .le 9, 3) := by decide +kernel
theorem dX5_readNumber_127 : decode cX5_readNumber 127 = .ok (.aload_n 0, 1) := by decide +kernel
theorem dX5_readNumber_128 : decode cX5_readNumber 128 = .ok (.iconst 2, 1) := by decide +kernel
theorem dX5_readNumber_129 : decode cX5_readNumber 129 = .ok (.iload_n 3, 1) := by decide +kernel
theorem dX5_readNumber_130 : decode cX5_readNumber 130 = .ok (.invokevirtual 96, 3) := by decide +kernel
theorem dX5_readNumber_133 : decode cX5_readNumber 133 = .ok (.iload 4, 2) := by decide +kernel
theorem dX5_readNumber_135 : decode cX5_readNumber 135 = .ok (.ireturn, 1) := by decide +kernel
theorem dX5_tellOnce_0 : decode cX5_tellOnce 0 = .ok (.aload_n 0, 1) := by decide +kernel
theorem dX5_tellOnce_1 : decode cX5_tellOnce 1 = .ok (.getfield 26, 3) := by decide +kernel
theorem dX5_tellOnce_4 : decode cX5_tellOnce 4 = .ok (.iload_n 1, 1) := by decide +kernel
theorem dX5_tellOnce_5 : decode cX5_tellOnce 5 = .ok (.iand, 1) := by decide +kernel
theorem dX5_tellOnce_6 : decode cX5_tellOnce 6 = .ok (.ifCond .eq 9, 3) := by decide +kernel
theorem dX5_tellOnce_9 : decode cX5_tellOnce 9 = .ok (.aload_n 0, 1) := by decide +kernel
theorem dX5_tellOnce_10 : decode cX5_tellOnce 10 = .ok (.iconst 3, 1) := by decide +kernel
theorem dX5_tellOnce_11 : decode cX5_tellOnce 11 = .ok (.iload_n 2, 1) := by decide +kernel
theorem dX5_tellOnce_12 : decode cX5_tellOnce 12 = .ok (.invokevirtual 96, 3) := by decide +kernel
theorem dX5_tellOnce_15 : decode cX5_tellOnce 15 = .ok (.aload_n 0, 1) := by decide +kernel
theorem dX5_tellOnce_16 : decode cX5_tellOnce 16 = .ok (.dup, 1) := by decide +kernel
theorem dX5_tellOnce_17 : decode cX5_tellOnce 17 = .ok (.getfield 26, 3) := by decide +kernel
theorem dX5_tellOnce_20 : decode cX5_tellOnce 20 = .ok (.iload_n 1, 1) := by decide +kernel
theorem dX5_tellOnce_21 : decode cX5_tellOnce 21 = .ok (.ior, 1) := by decide +kernel
theorem dX5_tellOnce_22 : decode cX5_tellOnce 22 = .ok (.putfield 26, 3) := by decide +kernel
theorem dX5_tellOnce_25 : decode cX5_tellOnce 25 = .ok (.return_, 1) := by decide +kernel
theorem dX5_expectWord_0 : decode cX5_expectWord 0 = .ok (.aload_n 0, 1) := by decide +kernel
theorem dX5_expectWord_1 : decode cX5_expectWord 1 = .ok (.aload_n 1, 1) := by decide +kernel
theorem dX5_expectWord_2 : decode cX5_expectWord 2 = .ok (.invokevirtual 50, 3) := by decide +kernel
theorem dX5_expectWord_5 : decode cX5_expectWord 5 = .ok (.ifCond .ne 12, 3) := by decide +kernel
theorem dX5_expectWord_8 : decode cX5_expectWord 8 = .ok (.aload_n 0, 1) := by decide +kernel
theorem dX5_expectWord_9 : decode cX5_expectWord 9 = .ok (.iconst 1, 1) := by decide +kernel
theorem dX5_expectWord_10 : decode cX5_expectWord 10 = .ok (.aload_n 0, 1) := by decide +kernel
theorem dX5_expectWord_11 : decode cX5_expectWord 11 = .ok (.getfield 19, 3) := by decide +kernel
theorem dX5_expectWord_14 : decode cX5_expectWord 14 = .ok (.invokevirtual 96, 3) := by decide +kernel
theorem dX5_expectWord_17 : decode cX5_expectWord 17 = .ok (.return_, 1) := by decide +kernel
theorem dX5_expectSemicolon_0 : decode cX5_expectSemicolon 0 = .ok (.aload_n 0, 1) := by decide +kernel
theorem dX5_expectSemicolon_1 : decode cX5_expectSemicolon 1 = .ok (.invokevirtual 34, 3) := by decide +kernel
theorem dX5_expectSemicolon_4 : decode cX5_expectSemicolon 4 = .ok (.aload_n 0, 1) := by decide +kernel
theorem dX5_expectSemicolon_5 : decode cX5_expectSemicolon 5 = .ok (.getfield 9, 3) := by decide +kernel
theorem dX5_expectSemicolon_8 : decode cX5_expectSemicolon 8 = .ok (.aload_n 0, 1) := by decide +kernel
theorem dX5_expectSemicolon_9 : decode cX5_expectSemicolon 9 = .ok (.getfield 19, 3) := by decide +kernel
theorem dX5_expectSemicolon_12 : decode cX5_expectSemicolon 12 = .ok (.invokevirtual 145, 3) := by decide +kernel
theorem dX5_expectSemicolon_15 : decode cX5_expectSemicolon 15 = .ok (.bipush 59, 2) := by decide +kernel
theorem dX5_expectSemicolon_17 : decode cX5_expectSemicolon 17 = .ok (.if_icmp .ne 16, 3) := by decide +kernel
theorem dX5_expectSemicolon_20 : decode cX5_expectSemicolon 20 = .ok (.aload_n 0, 1) := by decide +kernel
theorem dX5_expectSemicolon_21 : decode cX5_expectSemicolon 21 = .ok (.dup, 1) := by decide +kernel
theorem dX5_expectSemicolon_22 : decode cX5_expectSemicolon 22 = .ok (.getfield 19, 3) := by decide +kernel
theorem dX5_expectSemicolon_25 : decode cX5_expectSemicolon 25 = .ok (.iconst 1, 1) := by decide +kernel
theorem dX5_expectSemicolon_26 : decode cX5_expectSemicolon 26 = .ok (.iadd, 1) := by decide +kernel
theorem dX5_expectSemicolon_27 : decode cX5_expectSemicolon 27 = .ok (.putfield 19, 3) := by decide +kernel
theorem dX5_expectSemicolon_30 : decode cX5_expectSemicolon 30 = .ok (.goto 12, 3) := by decide +kernel
theorem dX5_expectSemicolon_33 : decode cX5_expectSemicolon 33 = .ok (.aload_n 0, 1) := by decide +kernel
theorem dX5_expectSemicolon_34 : decode cX5_expectSemicolon 34 = .ok (.iconst 1, 1) := by decide +kernel
theorem dX5_expectSemicolon_35 : decode cX5_expectSemicolon 35 = .ok (.aload_n 0, 1) := by decide +kernel
theorem dX5_expectSemicolon_36 : decode cX5_expectSemicolon 36 = .ok (.getfield 19, 3) := by decide +kernel
theorem dX5_expectSemicolon_39 : decode cX5_expectSemicolon 39 = .ok (.invokevirtual 96, 3) := by decide +kernel
theorem dX5_expectSemicolon_42 : decode cX5_expectSemicolon 42 = .ok (.return_, 1) := by decide +kernel
theorem dX5_tookWord_0 : decode cX5_tookWord 0 = .ok (.aload_n 0, 1) := by decide +kernel
theorem dX5_tookWord_1 : decode cX5_tookWord 1 = .ok (.invokevirtual 34, 3) := by decide +kernel
theorem dX5_tookWord_4 : decode cX5_tookWord 4 = .ok (.aload_n 1, 1) := by decide +kernel
theorem dX5_tookWord_5 : decode cX5_tookWord 5 = .ok (.invokevirtual 152, 3) := by decide +kernel
theorem dX5_tookWord_8 : decode cX5_tookWord 8 = .ok (.istore_n 2, 1) := by decide +kernel
theorem dX5_tookWord_9 : decode cX5_tookWord 9 = .ok (.iconst 0, 1) := by decide +kernel
theorem dX5_tookWord_10 : decode cX5_tookWord 10 = .ok (.istore_n 3, 1) := by decide +kernel
theorem dX5_tookWord_11 : decode cX5_tookWord 11 = .ok (.iload_n 3, 1) := by decide +kernel
theorem dX5_tookWord_12 : decode cX5_tookWord 12 = .ok (.iload_n 2, 1) := by decide +kernel
theorem dX5_tookWord_13 : decode cX5_tookWord 13 = .ok (.if_icmp .ge 32, 3) := by decide +kernel
theorem dX5_tookWord_16 : decode cX5_tookWord 16 = .ok (.aload_n 0, 1) := by decide +kernel
theorem dX5_tookWord_17 : decode cX5_tookWord 17 = .ok (.getfield 9, 3) := by decide +kernel
theorem dX5_tookWord_20 : decode cX5_tookWord 20 = .ok (.aload_n 0, 1) := by decide +kernel
theorem dX5_tookWord_21 : decode cX5_tookWord 21 = .ok (.getfield 19, 3) := by decide +kernel
theorem dX5_tookWord_24 : decode cX5_tookWord 24 = .ok (.iload_n 3, 1) := by decide +kernel
theorem dX5_tookWord_25 : decode cX5_tookWord 25 = .ok (.iadd, 1) := by decide +kernel
theorem dX5_tookWord_26 : decode cX5_tookWord 26 = .ok (.invokevirtual 145, 3) := by decide +kernel
theorem dX5_tookWord_29 : decode cX5_tookWord 29 = .ok (.aload_n 1, 1) := by decide +kernel
theorem dX5_tookWord_30 : decode cX5_tookWord 30 = .ok (.iload_n 3, 1) := by decide +kernel
theorem dX5_tookWord_31 : decode cX5_tookWord 31 = .ok (.invokevirtual 156, 3) := by decide +kernel
theorem dX5_tookWord_34 : decode cX5_tookWord 34 = .ok (.if_icmp .eq 5, 3) := by decide +kernel
theorem dX5_tookWord_37 : decode cX5_tookWord 37 = .ok (.iconst 0, 1) := by decide +kernel
theorem dX5_tookWord_38 : decode cX5_tookWord 38 = .ok (.ireturn, 1) := by decide +kernel
theorem dX5_tookWord_39 : decode cX5_tookWord 39 = .ok (.iinc 3 1, 3) := by decide +kernel
theorem dX5_tookWord_42 : decode cX5_tookWord 42 = .ok (.goto (-31), 3) := by decide +kernel
theorem dX5_tookWord_45 : decode cX5_tookWord 45 = .ok (.aload_n 0, 1) := by decide +kernel
theorem dX5_tookWord_46 : decode cX5_tookWord 46 = .ok (.getfield 9, 3) := by decide +kernel
theorem dX5_tookWord_49 : decode cX5_tookWord 49 = .ok (.aload_n 0, 1) := by decide +kernel
theorem dX5_tookWord_50 : decode cX5_tookWord 50 = .ok (.getfield 19, 3) := by decide +kernel
theorem dX5_tookWord_53 : decode cX5_tookWord 53 = .ok (.iload_n 2, 1) := by decide +kernel
theorem dX5_tookWord_54 : decode cX5_tookWord 54 = .ok (.iadd, 1) := by decide +kernel
theorem dX5_tookWord_55 : decode cX5_tookWord 55 = .ok (.invokevirtual 145, 3) := by decide +kernel
theorem dX5_tookWord_58 : decode cX5_tookWord 58 = .ok (.invokestatic 160, 3) := by decide +kernel
theorem dX5_tookWord_61 : decode cX5_tookWord 61 = .ok (.ifCond .eq 5, 3) := by decide +kernel
theorem dX5_tookWord_64 : decode cX5_tookWord 64 = .ok (.iconst 0, 1) := by decide +kernel
theorem dX5_tookWord_65 : decode cX5_tookWord 65 = .ok (.ireturn, 1) := by decide +kernel
theorem dX5_tookWord_66 : decode cX5_tookWord 66 = .ok (.aload_n 0, 1) := by decide +kernel
theorem dX5_tookWord_67 : decode cX5_tookWord 67 = .ok (.dup, 1) := by decide +kernel
theorem dX5_tookWord_68 : decode cX5_tookWord 68 = .ok (.getfield 19, 3) := by decide +kernel
theorem dX5_tookWord_71 : decode cX5_tookWord 71 = .ok (.iload_n 2, 1) := by decide +kernel
theorem dX5_tookWord_72 : decode cX5_tookWord 72 = .ok (.iadd, 1) := by decide +kernel
theorem dX5_tookWord_73 : decode cX5_tookWord 73 = .ok (.putfield 19, 3) := by decide +kernel
theorem dX5_tookWord_76 : decode cX5_tookWord 76 = .ok (.iconst 1, 1) := by decide +kernel
theorem dX5_tookWord_77 : decode cX5_tookWord 77 = .ok (.ireturn, 1) := by decide +kernel
theorem dX5_skipBlanks_0 : decode cX5_skipBlanks 0 = .ok (.aload_n 0, 1) := by decide +kernel
theorem dX5_skipBlanks_1 : decode cX5_skipBlanks 1 = .ok (.getfield 19, 3) := by decide +kernel
theorem dX5_skipBlanks_4 : decode cX5_skipBlanks 4 = .ok (.aload_n 0, 1) := by decide +kernel
theorem dX5_skipBlanks_5 : decode cX5_skipBlanks 5 = .ok (.getfield 9, 3) := by decide +kernel
theorem dX5_skipBlanks_8 : decode cX5_skipBlanks 8 = .ok (.getfield 37, 3) := by decide +kernel
theorem dX5_skipBlanks_11 : decode cX5_skipBlanks 11 = .ok (.if_icmp .ge 32, 3) := by decide +kernel
theorem dX5_skipBlanks_14 : decode cX5_skipBlanks 14 = .ok (.aload_n 0, 1) := by decide +kernel
theorem dX5_skipBlanks_15 : decode cX5_skipBlanks 15 = .ok (.getfield 9, 3) := by decide +kernel
theorem dX5_skipBlanks_18 : decode cX5_skipBlanks 18 = .ok (.aload_n 0, 1) := by decide +kernel
theorem dX5_skipBlanks_19 : decode cX5_skipBlanks 19 = .ok (.getfield 19, 3) := by decide +kernel
theorem dX5_skipBlanks_22 : decode cX5_skipBlanks 22 = .ok (.invokevirtual 145, 3) := by decide +kernel
theorem dX5_skipBlanks_25 : decode cX5_skipBlanks 25 = .ok (.bipush 32, 2) := by decide +kernel
theorem dX5_skipBlanks_27 : decode cX5_skipBlanks 27 = .ok (.if_icmp .ne 16, 3) := by decide +kernel
theorem dX5_skipBlanks_30 : decode cX5_skipBlanks 30 = .ok (.aload_n 0, 1) := by decide +kernel
theorem dX5_skipBlanks_31 : decode cX5_skipBlanks 31 = .ok (.dup, 1) := by decide +kernel
theorem dX5_skipBlanks_32 : decode cX5_skipBlanks 32 = .ok (.getfield 19, 3) := by decide +kernel
theorem dX5_skipBlanks_35 : decode cX5_skipBlanks 35 = .ok (.iconst 1, 1) := by decide +kernel
theorem dX5_skipBlanks_36 : decode cX5_skipBlanks 36 = .ok (.iadd, 1) := by decide +kernel
theorem dX5_skipBlanks_37 : decode cX5_skipBlanks 37 = .ok (.putfield 19, 3) := by decide +kernel
theorem dX5_skipBlanks_40 : decode cX5_skipBlanks 40 = .ok (.goto (-40), 3) := by decide +kernel
theorem dX5_skipBlanks_43 : decode cX5_skipBlanks 43 = .ok (.return_, 1) := by decide +kernel
theorem dX5_fail_0 : decode cX5_fail 0 = .ok (.aload_n 0, 1) := by decide +kernel
theorem dX5_fail_1 : decode cX5_fail 1 = .ok (.getfield 23, 3) := by decide +kernel
theorem dX5_fail_4 : decode cX5_fail 4 = .ok (.ifCond .ne 12, 3) := by decide +kernel
theorem dX5_fail_7 : decode cX5_fail 7 = .ok (.aload_n 0, 1) := by decide +kernel
theorem dX5_fail_8 : decode cX5_fail 8 = .ok (.iload_n 1, 1) := by decide +kernel
theorem dX5_fail_9 : decode cX5_fail 9 = .ok (.iconst 4, 1) := by decide +kernel
theorem dX5_fail_10 : decode cX5_fail 10 = .ok (.iload_n 2, 1) := by decide +kernel
theorem dX5_fail_11 : decode cX5_fail 11 = .ok (.imul, 1) := by decide +kernel
theorem dX5_fail_12 : decode cX5_fail 12 = .ok (.iadd, 1) := by decide +kernel
theorem dX5_fail_13 : decode cX5_fail 13 = .ok (.putfield 23, 3) := by decide +kernel
theorem dX5_fail_16 : decode cX5_fail 16 = .ok (.return_, 1) := by decide +kernel
theorem dX5_isSmallLetter_0 : decode cX5_isSmallLetter 0 = .ok (.iload_n 0, 1) := by decide +kernel
theorem dX5_isSmallLetter_1 : decode cX5_isSmallLetter 1 = .ok (.bipush 97, 2) := by decide +kernel
theorem dX5_isSmallLetter_3 : decode cX5_isSmallLetter 3 = .ok (.if_icmp .lt 13, 3) := by decide +kernel
theorem dX5_isSmallLetter_6 : decode cX5_isSmallLetter 6 = .ok (.iload_n 0, 1) := by decide +kernel
theorem dX5_isSmallLetter_7 : decode cX5_isSmallLetter 7 = .ok (.bipush 122, 2) := by decide +kernel
theorem dX5_isSmallLetter_9 : decode cX5_isSmallLetter 9 = .ok (.if_icmp .gt 7, 3) := by decide +kernel
theorem dX5_isSmallLetter_12 : decode cX5_isSmallLetter 12 = .ok (.iconst 1, 1) := by decide +kernel
theorem dX5_isSmallLetter_13 : decode cX5_isSmallLetter 13 = .ok (.goto 4, 3) := by decide +kernel
theorem dX5_isSmallLetter_16 : decode cX5_isSmallLetter 16 = .ok (.iconst 0, 1) := by decide +kernel
theorem dX5_isSmallLetter_17 : decode cX5_isSmallLetter 17 = .ok (.ireturn, 1) := by decide +kernel
theorem dX5_isDigit_0 : decode cX5_isDigit 0 = .ok (.iload_n 0, 1) := by decide +kernel
theorem dX5_isDigit_1 : decode cX5_isDigit 1 = .ok (.bipush 48, 2) := by decide +kernel
theorem dX5_isDigit_3 : decode cX5_isDigit 3 = .ok (.if_icmp .lt 13, 3) := by decide +kernel
theorem dX5_isDigit_6 : decode cX5_isDigit 6 = .ok (.iload_n 0, 1) := by decide +kernel
theorem dX5_isDigit_7 : decode cX5_isDigit 7 = .ok (.bipush 57, 2) := by decide +kernel
theorem dX5_isDigit_9 : decode cX5_isDigit 9 = .ok (.if_icmp .gt 7, 3) := by decide +kernel
theorem dX5_isDigit_12 : decode cX5_isDigit 12 = .ok (.iconst 1, 1) := by decide +kernel
theorem dX5_isDigit_13 : decode cX5_isDigit 13 = .ok (.goto 4, 3) := by decide +kernel
theorem dX5_isDigit_16 : decode cX5_isDigit 16 = .ok (.iconst 0, 1) := by decide +kernel
theorem dX5_isDigit_17 : decode cX5_isDigit 17 = .ok (.ireturn, 1) := by decide +kernel
theorem dX5_kindWord_0 : decode cX5_kindWord 0 = .ok (.iload_n 0, 1) := by decide +kernel
theorem dX5_kindWord_1 : decode cX5_kindWord 1 = .ok (.tableswitch 64 0 6 #[43, 46, 49, 52, 55, 58, 61], 43) := by decide +kernel
theorem dX5_kindWord_44 : decode cX5_kindWord 44 = .ok (.ldc 163, 2) := by decide +kernel
theorem dX5_kindWord_46 : decode cX5_kindWord 46 = .ok (.areturn, 1) := by decide +kernel
theorem dX5_kindWord_47 : decode cX5_kindWord 47 = .ok (.ldc 165, 2) := by decide +kernel
theorem dX5_kindWord_49 : decode cX5_kindWord 49 = .ok (.areturn, 1) := by decide +kernel
theorem dX5_kindWord_50 : decode cX5_kindWord 50 = .ok (.ldc 167, 2) := by decide +kernel
theorem dX5_kindWord_52 : decode cX5_kindWord 52 = .ok (.areturn, 1) := by decide +kernel
theorem dX5_kindWord_53 : decode cX5_kindWord 53 = .ok (.ldc 169, 2) := by decide +kernel
theorem dX5_kindWord_55 : decode cX5_kindWord 55 = .ok (.areturn, 1) := by decide +kernel
theorem dX5_kindWord_56 : decode cX5_kindWord 56 = .ok (.ldc 171, 2) := by decide +kernel
theorem dX5_kindWord_58 : decode cX5_kindWord 58 = .ok (.areturn, 1) := by decide +kernel
theorem dX5_kindWord_59 : decode cX5_kindWord 59 = .ok (.ldc 173, 2) := by decide +kernel
theorem dX5_kindWord_61 : decode cX5_kindWord 61 = .ok (.areturn, 1) := by decide +kernel
theorem dX5_kindWord_62 : decode cX5_kindWord 62 = .ok (.ldc 175, 2) := by decide +kernel
theorem dX5_kindWord_64 : decode cX5_kindWord 64 = .ok (.areturn, 1) := by decide +kernel
theorem dX5_kindWord_65 : decode cX5_kindWord 65 = .ok (.ldc 177, 2) := by decide +kernel
theorem dX5_kindWord_67 : decode cX5_kindWord 67 = .ok (.areturn, 1) := by decide +kernel
theorem dX5_wayWord_0 : decode cX5_wayWord 0 = .ok (.iload_n 0, 1) := by decide +kernel
theorem dX5_wayWord_1 : decode cX5_wayWord 1 = .ok (.tableswitch 36 0 2 #[27, 30, 33], 27) := by decide +kernel
theorem dX5_wayWord_28 : decode cX5_wayWord 28 = .ok (.ldc 179, 2) := by decide +kernel
theorem dX5_wayWord_30 : decode cX5_wayWord 30 = .ok (.areturn, 1) := by decide +kernel
theorem dX5_wayWord_31 : decode cX5_wayWord 31 = .ok (.ldc 181, 2) := by decide +kernel
theorem dX5_wayWord_33 : decode cX5_wayWord 33 = .ok (.areturn, 1) := by decide +kernel
theorem dX5_wayWord_34 : decode cX5_wayWord 34 = .ok (.ldc 183, 2) := by decide +kernel
theorem dX5_wayWord_36 : decode cX5_wayWord 36 = .ok (.areturn, 1) := by decide +kernel
theorem dX5_wayWord_37 : decode cX5_wayWord 37 = .ok (.ldc 185, 2) := by decide +kernel
theorem dX5_wayWord_39 : decode cX5_wayWord 39 = .ok (.areturn, 1) := by decide +kernel
theorem dX6_init_0 : decode cX6_init 0 = .ok (.aload_n 0, 1) := by decide +kernel
theorem dX6_init_1 : decode cX6_init 1 = .ok (.invokespecial 3, 3) := by decide +kernel
theorem dX6_init_4 : decode cX6_init 4 = .ok (.aload_n 0, 1) := by decide +kernel
theorem dX6_init_5 : decode cX6_init 5 = .ok (.bipush 8, 2) := by decide +kernel
theorem dX6_init_7 : decode cX6_init 7 = .ok (.newarray .int, 2) := by decide +kernel
theorem dX6_init_9 : decode cX6_init 9 = .ok (.putfield 9, 3) := by decide +kernel
theorem dX6_init_12 : decode cX6_init 12 = .ok (.aload_n 0, 1) := by decide +kernel
theorem dX6_init_13 : decode cX6_init 13 = .ok (.bipush 8, 2) := by decide +kernel
theorem dX6_init_15 : decode cX6_init 15 = .ok (.newarray .int, 2) := by decide +kernel
theorem dX6_init_17 : decode cX6_init 17 = .ok (.putfield 15, 3) := by decide +kernel
theorem dX6_init_20 : decode cX6_init 20 = .ok (.aload_n 0, 1) := by decide +kernel
theorem dX6_init_21 : decode cX6_init 21 = .ok (.bipush 8, 2) := by decide +kernel
theorem dX6_init_23 : decode cX6_init 23 = .ok (.newarray .boolean, 2) := by decide +kernel
theorem dX6_init_25 : decode cX6_init 25 = .ok (.putfield 18, 3) := by decide +kernel
theorem dX6_init_28 : decode cX6_init 28 = .ok (.aload_n 0, 1) := by decide +kernel
theorem dX6_init_29 : decode cX6_init 29 = .ok (.bipush 8, 2) := by decide +kernel
theorem dX6_init_31 : decode cX6_init 31 = .ok (.newarray .boolean, 2) := by decide +kernel
theorem dX6_init_33 : decode cX6_init 33 = .ok (.putfield 22, 3) := by decide +kernel
theorem dX6_init_36 : decode cX6_init 36 = .ok (.aload_n 0, 1) := by decide +kernel
theorem dX6_init_37 : decode cX6_init 37 = .ok (.invokevirtual 25, 3) := by decide +kernel
theorem dX6_init_40 : decode cX6_init 40 = .ok (.return_, 1) := by decide +kernel
theorem dX6_clear_0 : decode cX6_clear 0 = .ok (.iconst 0, 1) := by decide +kernel
theorem dX6_clear_1 : decode cX6_clear 1 = .ok (.istore_n 1, 1) := by decide +kernel
theorem dX6_clear_2 : decode cX6_clear 2 = .ok (.iload_n 1, 1) := by decide +kernel
theorem dX6_clear_3 : decode cX6_clear 3 = .ok (.bipush 8, 2) := by decide +kernel
theorem dX6_clear_5 : decode cX6_clear 5 = .ok (.if_icmp .ge 37, 3) := by decide +kernel
theorem dX6_clear_8 : decode cX6_clear 8 = .ok (.aload_n 0, 1) := by decide +kernel
theorem dX6_clear_9 : decode cX6_clear 9 = .ok (.getfield 9, 3) := by decide +kernel
theorem dX6_clear_12 : decode cX6_clear 12 = .ok (.iload_n 1, 1) := by decide +kernel
theorem dX6_clear_13 : decode cX6_clear 13 = .ok (.iconst 0, 1) := by decide +kernel
theorem dX6_clear_14 : decode cX6_clear 14 = .ok (.iastore, 1) := by decide +kernel
theorem dX6_clear_15 : decode cX6_clear 15 = .ok (.aload_n 0, 1) := by decide +kernel
theorem dX6_clear_16 : decode cX6_clear 16 = .ok (.getfield 15, 3) := by decide +kernel
theorem dX6_clear_19 : decode cX6_clear 19 = .ok (.iload_n 1, 1) := by decide +kernel
theorem dX6_clear_20 : decode cX6_clear 20 = .ok (.iconst (-1), 1) := by decide +kernel
theorem dX6_clear_21 : decode cX6_clear 21 = .ok (.iastore, 1) := by decide +kernel
theorem dX6_clear_22 : decode cX6_clear 22 = .ok (.aload_n 0, 1) := by decide +kernel
theorem dX6_clear_23 : decode cX6_clear 23 = .ok (.getfield 18, 3) := by decide +kernel
theorem dX6_clear_26 : decode cX6_clear 26 = .ok (.iload_n 1, 1) := by decide +kernel
theorem dX6_clear_27 : decode cX6_clear 27 = .ok (.iconst 0, 1) := by decide +kernel
theorem dX6_clear_28 : decode cX6_clear 28 = .ok (.bastore, 1) := by decide +kernel
theorem dX6_clear_29 : decode cX6_clear 29 = .ok (.aload_n 0, 1) := by decide +kernel
theorem dX6_clear_30 : decode cX6_clear 30 = .ok (.getfield 22, 3) := by decide +kernel
theorem dX6_clear_33 : decode cX6_clear 33 = .ok (.iload_n 1, 1) := by decide +kernel
theorem dX6_clear_34 : decode cX6_clear 34 = .ok (.iconst 0, 1) := by decide +kernel
theorem dX6_clear_35 : decode cX6_clear 35 = .ok (.bastore, 1) := by decide +kernel
theorem dX6_clear_36 : decode cX6_clear 36 = .ok (.iinc 1 1, 3) := by decide +kernel
theorem dX6_clear_39 : decode cX6_clear 39 = .ok (.goto (-37), 3) := by decide +kernel
theorem dX6_clear_42 : decode cX6_clear 42 = .ok (.aload_n 0, 1) := by decide +kernel
theorem dX6_clear_43 : decode cX6_clear 43 = .ok (.bipush 60, 2) := by decide +kernel
theorem dX6_clear_45 : decode cX6_clear 45 = .ok (.putfield 28, 3) := by decide +kernel
theorem dX6_clear_48 : decode cX6_clear 48 = .ok (.aload_n 0, 1) := by decide +kernel
theorem dX6_clear_49 : decode cX6_clear 49 = .ok (.iconst 0, 1) := by decide +kernel
theorem dX6_clear_50 : decode cX6_clear 50 = .ok (.putfield 32, 3) := by decide +kernel
theorem dX6_clear_53 : decode cX6_clear 53 = .ok (.aload_n 0, 1) := by decide +kernel
theorem dX6_clear_54 : decode cX6_clear 54 = .ok (.iconst 0, 1) := by decide +kernel
theorem dX6_clear_55 : decode cX6_clear 55 = .ok (.putfield 35, 3) := by decide +kernel
theorem dX6_clear_58 : decode cX6_clear 58 = .ok (.aload_n 0, 1) := by decide +kernel
theorem dX6_clear_59 : decode cX6_clear 59 = .ok (.iconst 1, 1) := by decide +kernel
theorem dX6_clear_60 : decode cX6_clear 60 = .ok (.putfield 39, 3) := by decide +kernel
theorem dX6_clear_63 : decode cX6_clear 63 = .ok (.return_, 1) := by decide +kernel
theorem dX6_copyFrom_0 : decode cX6_copyFrom 0 = .ok (.iconst 0, 1) := by decide +kernel
theorem dX6_copyFrom_1 : decode cX6_copyFrom 1 = .ok (.istore_n 2, 1) := by decide +kernel
theorem dX6_copyFrom_2 : decode cX6_copyFrom 2 = .ok (.iload_n 2, 1) := by decide +kernel
theorem dX6_copyFrom_3 : decode cX6_copyFrom 3 = .ok (.bipush 8, 2) := by decide +kernel
theorem dX6_copyFrom_5 : decode cX6_copyFrom 5 = .ok (.if_icmp .ge 57, 3) := by decide +kernel
theorem dX6_copyFrom_8 : decode cX6_copyFrom 8 = .ok (.aload_n 0, 1) := by decide +kernel
theorem dX6_copyFrom_9 : decode cX6_copyFrom 9 = .ok (.getfield 9, 3) := by decide +kernel
theorem dX6_copyFrom_12 : decode cX6_copyFrom 12 = .ok (.iload_n 2, 1) := by decide +kernel
theorem dX6_copyFrom_13 : decode cX6_copyFrom 13 = .ok (.aload_n 1, 1) := by decide +kernel
theorem dX6_copyFrom_14 : decode cX6_copyFrom 14 = .ok (.getfield 9, 3) := by decide +kernel
theorem dX6_copyFrom_17 : decode cX6_copyFrom 17 = .ok (.iload_n 2, 1) := by decide +kernel
theorem dX6_copyFrom_18 : decode cX6_copyFrom 18 = .ok (.iaload, 1) := by decide +kernel
theorem dX6_copyFrom_19 : decode cX6_copyFrom 19 = .ok (.iastore, 1) := by decide +kernel
theorem dX6_copyFrom_20 : decode cX6_copyFrom 20 = .ok (.aload_n 0, 1) := by decide +kernel
theorem dX6_copyFrom_21 : decode cX6_copyFrom 21 = .ok (.getfield 15, 3) := by decide +kernel
theorem dX6_copyFrom_24 : decode cX6_copyFrom 24 = .ok (.iload_n 2, 1) := by decide +kernel
theorem dX6_copyFrom_25 : decode cX6_copyFrom 25 = .ok (.aload_n 1, 1) := by decide +kernel
theorem dX6_copyFrom_26 : decode cX6_copyFrom 26 = .ok (.getfield 15, 3) := by decide +kernel
theorem dX6_copyFrom_29 : decode cX6_copyFrom 29 = .ok (.iload_n 2, 1) := by decide +kernel
theorem dX6_copyFrom_30 : decode cX6_copyFrom 30 = .ok (.iaload, 1) := by decide +kernel
theorem dX6_copyFrom_31 : decode cX6_copyFrom 31 = .ok (.iastore, 1) := by decide +kernel
theorem dX6_copyFrom_32 : decode cX6_copyFrom 32 = .ok (.aload_n 0, 1) := by decide +kernel
theorem dX6_copyFrom_33 : decode cX6_copyFrom 33 = .ok (.getfield 18, 3) := by decide +kernel
theorem dX6_copyFrom_36 : decode cX6_copyFrom 36 = .ok (.iload_n 2, 1) := by decide +kernel
theorem dX6_copyFrom_37 : decode cX6_copyFrom 37 = .ok (.aload_n 1, 1) := by decide +kernel
theorem dX6_copyFrom_38 : decode cX6_copyFrom 38 = .ok (.getfield 18, 3) := by decide +kernel
theorem dX6_copyFrom_41 : decode cX6_copyFrom 41 = .ok (.iload_n 2, 1) := by decide +kernel
theorem dX6_copyFrom_42 : decode cX6_copyFrom 42 = .ok (.baload, 1) := by decide +kernel
theorem dX6_copyFrom_43 : decode cX6_copyFrom 43 = .ok (.bastore, 1) := by decide +kernel
theorem dX6_copyFrom_44 : decode cX6_copyFrom 44 = .ok (.aload_n 0, 1) := by decide +kernel
theorem dX6_copyFrom_45 : decode cX6_copyFrom 45 = .ok (.getfield 22, 3) := by decide +kernel
theorem dX6_copyFrom_48 : decode cX6_copyFrom 48 = .ok (.iload_n 2, 1) := by decide +kernel
theorem dX6_copyFrom_49 : decode cX6_copyFrom 49 = .ok (.aload_n 1, 1) := by decide +kernel
theorem dX6_copyFrom_50 : decode cX6_copyFrom 50 = .ok (.getfield 22, 3) := by decide +kernel
theorem dX6_copyFrom_53 : decode cX6_copyFrom 53 = .ok (.iload_n 2, 1) := by decide +kernel
theorem dX6_copyFrom_54 : decode cX6_copyFrom 54 = .ok (.baload, 1) := by decide +kernel
theorem dX6_copyFrom_55 : decode cX6_copyFrom 55 = .ok (.bastore, 1) := by decide +kernel
theorem dX6_copyFrom_56 : decode cX6_copyFrom 56 = .ok (.iinc 2 1, 3) := by decide +kernel
theorem dX6_copyFrom_59 : decode cX6_copyFrom 59 = .ok (.goto (-57), 3) := by decide +kernel
theorem dX6_copyFrom_62 : decode cX6_copyFrom 62 = .ok (.aload_n 0, 1) := by decide +kernel
theorem dX6_copyFrom_63 : decode cX6_copyFrom 63 = .ok (.aload_n 1, 1) := by decide +kernel
theorem dX6_copyFrom_64 : decode cX6_copyFrom 64 = .ok (.getfield 28, 3) := by decide +kernel
theorem dX6_copyFrom_67 : decode cX6_copyFrom 67 = .ok (.putfield 28, 3) := by decide +kernel
theorem dX6_copyFrom_70 : decode cX6_copyFrom 70 = .ok (.aload_n 0, 1) := by decide +kernel
theorem dX6_copyFrom_71 : decode cX6_copyFrom 71 = .ok (.aload_n 1, 1) := by decide +kernel
theorem dX6_copyFrom_72 : decode cX6_copyFrom 72 = .ok (.getfield 32, 3) := by decide +kernel
theorem dX6_copyFrom_75 : decode cX6_copyFrom 75 = .ok (.putfield 32, 3) := by decide +kernel
theorem dX6_copyFrom_78 : decode cX6_copyFrom 78 = .ok (.aload_n 0, 1) := by decide +kernel
theorem dX6_copyFrom_79 : decode cX6_copyFrom 79 = .ok (.aload_n 1, 1) := by decide +kernel
theorem dX6_copyFrom_80 : decode cX6_copyFrom 80 = .ok (.getfield 35, 3) := by decide +kernel
theorem dX6_copyFrom_83 : decode cX6_copyFrom 83 = .ok (.putfield 35, 3) := by decide +kernel
theorem dX6_copyFrom_86 : decode cX6_copyFrom 86 = .ok (.aload_n 0, 1) := by decide +kernel
theorem dX6_copyFrom_87 : decode cX6_copyFrom 87 = .ok (.aload_n 1, 1) := by decide +kernel
theorem dX6_copyFrom_88 : decode cX6_copyFrom 88 = .ok (.getfield 39, 3) := by decide +kernel
theorem dX6_copyFrom_91 : decode cX6_copyFrom 91 = .ok (.putfield 39, 3) := by decide +kernel
theorem dX6_copyFrom_94 : decode cX6_copyFrom 94 = .ok (.return_, 1) := by decide +kernel
theorem dX6_lets_0 : decode cX6_lets 0 = .ok (.iload_n 1, 1) := by decide +kernel
theorem dX6_lets_1 : decode cX6_lets 1 = .ok (.invokestatic 42, 3) := by decide +kernel
theorem dX6_lets_4 : decode cX6_lets 4 = .ok (.ifCond .eq 16, 3) := by decide +kernel
theorem dX6_lets_7 : decode cX6_lets 7 = .ok (.aload_n 0, 1) := by decide +kernel
theorem dX6_lets_8 : decode cX6_lets 8 = .ok (.getfield 9, 3) := by decide +kernel
theorem dX6_lets_11 : decode cX6_lets 11 = .ok (.iload_n 1, 1) := by decide +kernel
theorem dX6_lets_12 : decode cX6_lets 12 = .ok (.iaload, 1) := by decide +kernel
theorem dX6_lets_13 : decode cX6_lets 13 = .ok (.ifCond .le 7, 3) := by decide +kernel
theorem dX6_lets_16 : decode cX6_lets 16 = .ok (.iconst 1, 1) := by decide +kernel
theorem dX6_lets_17 : decode cX6_lets 17 = .ok (.goto 4, 3) := by decide +kernel
theorem dX6_lets_20 : decode cX6_lets 20 = .ok (.iconst 0, 1) := by decide +kernel
theorem dX6_lets_21 : decode cX6_lets 21 = .ok (.ireturn, 1) := by decide +kernel
theorem dX6_rankOf_0 : decode cX6_rankOf 0 = .ok (.iload_n 1, 1) := by decide +kernel
theorem dX6_rankOf_1 : decode cX6_rankOf 1 = .ok (.invokestatic 42, 3) := by decide +kernel
theorem dX6_rankOf_4 : decode cX6_rankOf 4 = .ok (.ifCond .eq 12, 3) := by decide +kernel
theorem dX6_rankOf_7 : decode cX6_rankOf 7 = .ok (.aload_n 0, 1) := by decide +kernel
theorem dX6_rankOf_8 : decode cX6_rankOf 8 = .ok (.getfield 9, 3) := by decide +kernel
theorem dX6_rankOf_11 : decode cX6_rankOf 11 = .ok (.iload_n 1, 1) := by decide +kernel
theorem dX6_rankOf_12 : decode cX6_rankOf 12 = .ok (.iaload, 1) := by decide +kernel
theorem dX6_rankOf_13 : decode cX6_rankOf 13 = .ok (.goto 4, 3) := by decide +kernel
theorem dX6_rankOf_16 : decode cX6_rankOf 16 = .ok (.iconst 0, 1) := by decide +kernel
theorem dX6_rankOf_17 : decode cX6_rankOf 17 = .ok (.ireturn, 1) := by decide +kernel
theorem dX7_init_0 : decode cX7_init 0 = .ok (.aload_n 0, 1) := by decide +kernel
theorem dX7_init_1 : decode cX7_init 1 = .ok (.invokespecial 3, 3) := by decide +kernel
theorem dX7_init_4 : decode cX7_init 4 = .ok (.aload_n 0, 1) := by decide +kernel
theorem dX7_init_5 : decode cX7_init 5 = .ok (.sipush 300, 3) := by decide +kernel
theorem dX7_init_8 : decode cX7_init 8 = .ok (.newarray .int, 2) := by decide +kernel
theorem dX7_init_10 : decode cX7_init 10 = .ok (.putfield 9, 3) := by decide +kernel
theorem dX7_init_13 : decode cX7_init 13 = .ok (.aload_n 0, 1) := by decide +kernel
theorem dX7_init_14 : decode cX7_init 14 = .ok (.sipush 300, 3) := by decide +kernel
theorem dX7_init_17 : decode cX7_init 17 = .ok (.newarray .int, 2) := by decide +kernel
theorem dX7_init_19 : decode cX7_init 19 = .ok (.putfield 15, 3) := by decide +kernel
theorem dX7_init_22 : decode cX7_init 22 = .ok (.aload_n 0, 1) := by decide +kernel
theorem dX7_init_23 : decode cX7_init 23 = .ok (.sipush 300, 3) := by decide +kernel
theorem dX7_init_26 : decode cX7_init 26 = .ok (.newarray .boolean, 2) := by decide +kernel
theorem dX7_init_28 : decode cX7_init 28 = .ok (.putfield 18, 3) := by decide +kernel
theorem dX7_init_31 : decode cX7_init 31 = .ok (.aload_n 0, 1) := by decide +kernel
theorem dX7_init_32 : decode cX7_init 32 = .ok (.sipush 300, 3) := by decide +kernel
theorem dX7_init_35 : decode cX7_init 35 = .ok (.newarray .boolean, 2) := by decide +kernel
theorem dX7_init_37 : decode cX7_init 37 = .ok (.putfield 22, 3) := by decide +kernel
theorem dX7_init_40 : decode cX7_init 40 = .ok (.aload_n 0, 1) := by decide +kernel
theorem dX7_init_41 : decode cX7_init 41 = .ok (.aload_n 1, 1) := by decide +kernel
theorem dX7_init_42 : decode cX7_init 42 = .ok (.putfield 25, 3) := by decide +kernel
theorem dX7_init_45 : decode cX7_init 45 = .ok (.aload_n 0, 1) := by decide +kernel
theorem dX7_init_46 : decode cX7_init 46 = .ok (.aload_n 3, 1) := by decide +kernel
theorem dX7_init_47 : decode cX7_init 47 = .ok (.putfield 29, 3) := by decide +kernel
theorem dX7_init_50 : decode cX7_init 50 = .ok (.aload_n 0, 1) := by decide +kernel
