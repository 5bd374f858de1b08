theorem dX7_init_51 : decode cX7_init 51 = .ok (.new 33, 3) := by decide +kernel
theorem dX7_init_54 : decode cX7_init 54 = .ok (.dup, 1) := by decide +kernel
theorem dX7_init_55 : decode cX7_init 55 = .ok (.aload_n 1, 1) := by decide +kernel
theorem dX7_init_56 : decode cX7_init 56 = .ok (.aload_n 2, 1) := by decide +kernel
theorem dX7_init_57 : decode cX7_init 57 = .ok (.invokespecial 35, 3) := by decide +kernel
theorem dX7_init_60 : decode cX7_init 60 = .ok (.putfield 38, 3) := by decide +kernel
theorem dX7_init_63 : decode cX7_init 63 = .ok (.aload_n 0, 1) := by decide +kernel
theorem dX7_init_64 : decode cX7_init 64 = .ok (.new 42, 3) := by decide +kernel
theorem dX7_init_67 : decode cX7_init 67 = .ok (.dup, 1) := by decide +kernel
theorem dX7_init_68 : decode cX7_init 68 = .ok (.aload_n 1, 1) := by decide +kernel
theorem dX7_init_69 : decode cX7_init 69 = .ok (.invokespecial 44, 3) := by decide +kernel
theorem dX7_init_72 : decode cX7_init 72 = .ok (.putfield 47, 3) := by decide +kernel
theorem dX7_init_75 : decode cX7_init 75 = .ok (.aload_n 0, 1) := by decide +kernel
theorem dX7_init_76 : decode cX7_init 76 = .ok (.new 51, 3) := by decide +kernel
theorem dX7_init_79 : decode cX7_init 79 = .ok (.dup, 1) := by decide +kernel
theorem dX7_init_80 : decode cX7_init 80 = .ok (.invokespecial 53, 3) := by decide +kernel
theorem dX7_init_83 : decode cX7_init 83 = .ok (.putfield 54, 3) := by decide +kernel
theorem dX7_init_86 : decode cX7_init 86 = .ok (.aload_n 0, 1) := by decide +kernel
theorem dX7_init_87 : decode cX7_init 87 = .ok (.invokevirtual 58, 3) := by decide +kernel
theorem dX7_init_90 : decode cX7_init 90 = .ok (.return_, 1) := by decide +kernel
theorem dX7_startAnew_0 : decode cX7_startAnew 0 = .ok (.aload_n 0, 1) := by decide +kernel
theorem dX7_startAnew_1 : decode cX7_startAnew 1 = .ok (.getfield 38, 3) := by decide +kernel
theorem dX7_startAnew_4 : decode cX7_startAnew 4 = .ok (.invokevirtual 61, 3) := by decide +kernel
theorem dX7_startAnew_7 : decode cX7_startAnew 7 = .ok (.aload_n 0, 1) := by decide +kernel
theorem dX7_startAnew_8 : decode cX7_startAnew 8 = .ok (.getfield 47, 3) := by decide +kernel
theorem dX7_startAnew_11 : decode cX7_startAnew 11 = .ok (.iconst 0, 1) := by decide +kernel
theorem dX7_startAnew_12 : decode cX7_startAnew 12 = .ok (.putfield 64, 3) := by decide +kernel
theorem dX7_startAnew_15 : decode cX7_startAnew 15 = .ok (.aload_n 0, 1) := by decide +kernel
theorem dX7_startAnew_16 : decode cX7_startAnew 16 = .ok (.getfield 54, 3) := by decide +kernel
theorem dX7_startAnew_19 : decode cX7_startAnew 19 = .ok (.invokevirtual 68, 3) := by decide +kernel
theorem dX7_startAnew_22 : decode cX7_startAnew 22 = .ok (.aload_n 0, 1) := by decide +kernel
theorem dX7_startAnew_23 : decode cX7_startAnew 23 = .ok (.iconst 0, 1) := by decide +kernel
theorem dX7_startAnew_24 : decode cX7_startAnew 24 = .ok (.putfield 71, 3) := by decide +kernel
theorem dX7_startAnew_27 : decode cX7_startAnew 27 = .ok (.aload_n 0, 1) := by decide +kernel
theorem dX7_startAnew_28 : decode cX7_startAnew 28 = .ok (.iconst (-1), 1) := by decide +kernel
theorem dX7_startAnew_29 : decode cX7_startAnew 29 = .ok (.putfield 74, 3) := by decide +kernel
theorem dX7_startAnew_32 : decode cX7_startAnew 32 = .ok (.aload_n 0, 1) := by decide +kernel
theorem dX7_startAnew_33 : decode cX7_startAnew 33 = .ok (.iconst 0, 1) := by decide +kernel
theorem dX7_startAnew_34 : decode cX7_startAnew 34 = .ok (.putfield 77, 3) := by decide +kernel
theorem dX7_startAnew_37 : decode cX7_startAnew 37 = .ok (.aload_n 0, 1) := by decide +kernel
theorem dX7_startAnew_38 : decode cX7_startAnew 38 = .ok (.aload_n 0, 1) := by decide +kernel
theorem dX7_startAnew_39 : decode cX7_startAnew 39 = .ok (.getfield 25, 3) := by decide +kernel
theorem dX7_startAnew_42 : decode cX7_startAnew 42 = .ok (.getfield 80, 3) := by decide +kernel
theorem dX7_startAnew_45 : decode cX7_startAnew 45 = .ok (.putfield 85, 3) := by decide +kernel
theorem dX7_startAnew_48 : decode cX7_startAnew 48 = .ok (.aload_n 0, 1) := by decide +kernel
theorem dX7_startAnew_49 : decode cX7_startAnew 49 = .ok (.iconst 0, 1) := by decide +kernel
theorem dX7_startAnew_50 : decode cX7_startAnew 50 = .ok (.putfield 86, 3) := by decide +kernel
theorem dX7_startAnew_53 : decode cX7_startAnew 53 = .ok (.aload_n 0, 1) := by decide +kernel
theorem dX7_startAnew_54 : decode cX7_startAnew 54 = .ok (.iconst 0, 1) := by decide +kernel
theorem dX7_startAnew_55 : decode cX7_startAnew 55 = .ok (.putfield 89, 3) := by decide +kernel
theorem dX7_startAnew_58 : decode cX7_startAnew 58 = .ok (.aload_n 0, 1) := by decide +kernel
theorem dX7_startAnew_59 : decode cX7_startAnew 59 = .ok (.iconst 0, 1) := by decide +kernel
theorem dX7_startAnew_60 : decode cX7_startAnew 60 = .ok (.putfield 92, 3) := by decide +kernel
theorem dX7_startAnew_63 : decode cX7_startAnew 63 = .ok (.return_, 1) := by decide +kernel
theorem dX7_work_0 : decode cX7_work 0 = .ok (.iload_n 1, 1) := by decide +kernel
theorem dX7_work_1 : decode cX7_work 1 = .ok (.invokestatic 96, 3) := by decide +kernel
theorem dX7_work_4 : decode cX7_work 4 = .ok (.ifCond .ne 5, 3) := by decide +kernel
theorem dX7_work_7 : decode cX7_work 7 = .ok (.iconst 0, 1) := by decide +kernel
theorem dX7_work_8 : decode cX7_work 8 = .ok (.ireturn, 1) := by decide +kernel
theorem dX7_work_9 : decode cX7_work 9 = .ok (.aload_n 0, 1) := by decide +kernel
theorem dX7_work_10 : decode cX7_work 10 = .ok (.iload_n 1, 1) := by decide +kernel
theorem dX7_work_11 : decode cX7_work 11 = .ok (.invokevirtual 100, 3) := by decide +kernel
theorem dX7_work_14 : decode cX7_work 14 = .ok (.istore_n 3, 1) := by decide +kernel
theorem dX7_work_15 : decode cX7_work 15 = .ok (.iload_n 3, 1) := by decide +kernel
theorem dX7_work_16 : decode cX7_work 16 = .ok (.ifCond .ne 14, 3) := by decide +kernel
theorem dX7_work_19 : decode cX7_work 19 = .ok (.aload_n 0, 1) := by decide +kernel
theorem dX7_work_20 : decode cX7_work 20 = .ok (.iload_n 1, 1) := by decide +kernel
theorem dX7_work_21 : decode cX7_work 21 = .ok (.invokevirtual 104, 3) := by decide +kernel
theorem dX7_work_24 : decode cX7_work 24 = .ok (.ifCond .ne 6, 3) := by decide +kernel
theorem dX7_work_27 : decode cX7_work 27 = .ok (.bipush 6, 2) := by decide +kernel
theorem dX7_work_29 : decode cX7_work 29 = .ok (.istore_n 3, 1) := by decide +kernel
theorem dX7_work_30 : decode cX7_work 30 = .ok (.iload_n 2, 1) := by decide +kernel
theorem dX7_work_31 : decode cX7_work 31 = .ok (.ifCond .eq 25, 3) := by decide +kernel
theorem dX7_work_34 : decode cX7_work 34 = .ok (.aload_n 0, 1) := by decide +kernel
theorem dX7_work_35 : decode cX7_work 35 = .ok (.iload_n 1, 1) := by decide +kernel
theorem dX7_work_36 : decode cX7_work 36 = .ok (.iload_n 3, 1) := by decide +kernel
theorem dX7_work_37 : decode cX7_work 37 = .ok (.invokevirtual 107, 3) := by decide +kernel
theorem dX7_work_40 : decode cX7_work 40 = .ok (.ifCond .ne 5, 3) := by decide +kernel
theorem dX7_work_43 : decode cX7_work 43 = .ok (.iconst 0, 1) := by decide +kernel
theorem dX7_work_44 : decode cX7_work 44 = .ok (.ireturn, 1) := by decide +kernel
theorem dX7_work_45 : decode cX7_work 45 = .ok (.iload_n 3, 1) := by decide +kernel
theorem dX7_work_46 : decode cX7_work 46 = .ok (.ifCond .ne 8, 3) := by decide +kernel
theorem dX7_work_49 : decode cX7_work 49 = .ok (.bipush 6, 2) := by decide +kernel
theorem dX7_work_51 : decode cX7_work 51 = .ok (.goto 4, 3) := by decide +kernel
theorem dX7_work_54 : decode cX7_work 54 = .ok (.iconst 0, 1) := by decide +kernel
theorem dX7_work_55 : decode cX7_work 55 = .ok (.istore_n 3, 1) := by decide +kernel
theorem dX7_work_56 : decode cX7_work 56 = .ok (.aload_n 0, 1) := by decide +kernel
theorem dX7_work_57 : decode cX7_work 57 = .ok (.getfield 9, 3) := by decide +kernel
theorem dX7_work_60 : decode cX7_work 60 = .ok (.iload_n 1, 1) := by decide +kernel
theorem dX7_work_61 : decode cX7_work 61 = .ok (.iload_n 3, 1) := by decide +kernel
theorem dX7_work_62 : decode cX7_work 62 = .ok (.iastore, 1) := by decide +kernel
theorem dX7_work_63 : decode cX7_work 63 = .ok (.aload_n 0, 1) := by decide +kernel
theorem dX7_work_64 : decode cX7_work 64 = .ok (.getfield 15, 3) := by decide +kernel
theorem dX7_work_67 : decode cX7_work 67 = .ok (.iload_n 1, 1) := by decide +kernel
theorem dX7_work_68 : decode cX7_work 68 = .ok (.iconst (-1), 1) := by decide +kernel
theorem dX7_work_69 : decode cX7_work 69 = .ok (.iastore, 1) := by decide +kernel
theorem dX7_work_70 : decode cX7_work 70 = .ok (.aload_n 0, 1) := by decide +kernel
theorem dX7_work_71 : decode cX7_work 71 = .ok (.getfield 18, 3) := by decide +kernel
theorem dX7_work_74 : decode cX7_work 74 = .ok (.iload_n 1, 1) := by decide +kernel
theorem dX7_work_75 : decode cX7_work 75 = .ok (.iconst 0, 1) := by decide +kernel
theorem dX7_work_76 : decode cX7_work 76 = .ok (.bastore, 1) := by decide +kernel
theorem dX7_work_77 : decode cX7_work 77 = .ok (.aload_n 0, 1) := by decide +kernel
theorem dX7_work_78 : decode cX7_work 78 = .ok (.getfield 22, 3) := by decide +kernel
theorem dX7_work_81 : decode cX7_work 81 = .ok (.iload_n 1, 1) := by decide +kernel
theorem dX7_work_82 : decode cX7_work 82 = .ok (.iconst 0, 1) := by decide +kernel
theorem dX7_work_83 : decode cX7_work 83 = .ok (.bastore, 1) := by decide +kernel
theorem dX7_work_84 : decode cX7_work 84 = .ok (.aload_n 0, 1) := by decide +kernel
theorem dX7_work_85 : decode cX7_work 85 = .ok (.iload_n 1, 1) := by decide +kernel
theorem dX7_work_86 : decode cX7_work 86 = .ok (.iconst 1, 1) := by decide +kernel
theorem dX7_work_87 : decode cX7_work 87 = .ok (.iadd, 1) := by decide +kernel
theorem dX7_work_88 : decode cX7_work 88 = .ok (.putfield 71, 3) := by decide +kernel
theorem dX7_work_91 : decode cX7_work 91 = .ok (.iload_n 3, 1) := by decide +kernel
theorem dX7_work_92 : decode cX7_work 92 = .ok (.ifCond .ne 11, 3) := by decide +kernel
theorem dX7_work_95 : decode cX7_work 95 = .ok (.aload_n 0, 1) := by decide +kernel
theorem dX7_work_96 : decode cX7_work 96 = .ok (.iload_n 1, 1) := by decide +kernel
theorem dX7_work_97 : decode cX7_work 97 = .ok (.invokevirtual 111, 3) := by decide +kernel
theorem dX7_work_100 : decode cX7_work 100 = .ok (.goto 41, 3) := by decide +kernel
theorem dX7_work_103 : decode cX7_work 103 = .ok (.iload_n 3, 1) := by decide +kernel
theorem dX7_work_104 : decode cX7_work 104 = .ok (.bipush 6, 2) := by decide +kernel
theorem dX7_work_106 : decode cX7_work 106 = .ok (.if_icmp .ne 35, 3) := by decide +kernel
theorem dX7_work_109 : decode cX7_work 109 = .ok (.aload_n 0, 1) := by decide +kernel
theorem dX7_work_110 : decode cX7_work 110 = .ok (.getfield 29, 3) := by decide +kernel
theorem dX7_work_113 : decode cX7_work 113 = .ok (.getfield 115, 3) := by decide +kernel
theorem dX7_work_116 : decode cX7_work 116 = .ok (.iload_n 1, 1) := by decide +kernel
theorem dX7_work_117 : decode cX7_work 117 = .ok (.iaload, 1) := by decide +kernel
theorem dX7_work_118 : decode cX7_work 118 = .ok (.bipush 6, 2) := by decide +kernel
theorem dX7_work_120 : decode cX7_work 120 = .ok (.if_icmp .eq 16, 3) := by decide +kernel
theorem dX7_work_123 : decode cX7_work 123 = .ok (.aload_n 0, 1) := by decide +kernel
theorem dX7_work_124 : decode cX7_work 124 = .ok (.getfield 29, 3) := by decide +kernel
theorem dX7_work_127 : decode cX7_work 127 = .ok (.getfield 115, 3) := by decide +kernel
theorem dX7_work_130 : decode cX7_work 130 = .ok (.iload_n 1, 1) := by decide +kernel
theorem dX7_work_131 : decode cX7_work 131 = .ok (.iaload, 1) := by decide +kernel
theorem dX7_work_132 : decode cX7_work 132 = .ok (.iconst 5, 1) := by decide +kernel
theorem dX7_work_133 : decode cX7_work 133 = .ok (.if_icmp .ne 8, 3) := by decide +kernel
theorem dX7_work_136 : decode cX7_work 136 = .ok (.aload_n 0, 1) := by decide +kernel
theorem dX7_work_137 : decode cX7_work 137 = .ok (.iload_n 1, 1) := by decide +kernel
theorem dX7_work_138 : decode cX7_work 138 = .ok (.putfield 74, 3) := by decide +kernel
theorem dX7_work_141 : decode cX7_work 141 = .ok (.iconst 1, 1) := by decide +kernel
theorem dX7_work_142 : decode cX7_work 142 = .ok (.ireturn, 1) := by decide +kernel
theorem dX7_rulingOf_0 : decode cX7_rulingOf 0 = .ok (.aload_n 0, 1) := by decide +kernel
theorem dX7_rulingOf_1 : decode cX7_rulingOf 1 = .ok (.iload_n 1, 1) := by decide +kernel
theorem dX7_rulingOf_2 : decode cX7_rulingOf 2 = .ok (.invokevirtual 120, 3) := by decide +kernel
theorem dX7_rulingOf_5 : decode cX7_rulingOf 5 = .ok (.ifCond .eq 12, 3) := by decide +kernel
theorem dX7_rulingOf_8 : decode cX7_rulingOf 8 = .ok (.aload_n 0, 1) := by decide +kernel
theorem dX7_rulingOf_9 : decode cX7_rulingOf 9 = .ok (.getfield 9, 3) := by decide +kernel
theorem dX7_rulingOf_12 : decode cX7_rulingOf 12 = .ok (.iload_n 1, 1) := by decide +kernel
theorem dX7_rulingOf_13 : decode cX7_rulingOf 13 = .ok (.iaload, 1) := by decide +kernel
theorem dX7_rulingOf_14 : decode cX7_rulingOf 14 = .ok (.goto 4, 3) := by decide +kernel
theorem dX7_rulingOf_17 : decode cX7_rulingOf 17 = .ok (.iconst (-1), 1) := by decide +kernel
theorem dX7_rulingOf_18 : decode cX7_rulingOf 18 = .ok (.ireturn, 1) := by decide +kernel
theorem dX7_passedOf_0 : decode cX7_passedOf 0 = .ok (.aload_n 0, 1) := by decide +kernel
theorem dX7_passedOf_1 : decode cX7_passedOf 1 = .ok (.iload_n 1, 1) := by decide +kernel
theorem dX7_passedOf_2 : decode cX7_passedOf 2 = .ok (.invokevirtual 120, 3) := by decide +kernel
theorem dX7_passedOf_5 : decode cX7_passedOf 5 = .ok (.ifCond .eq 12, 3) := by decide +kernel
theorem dX7_passedOf_8 : decode cX7_passedOf 8 = .ok (.aload_n 0, 1) := by decide +kernel
theorem dX7_passedOf_9 : decode cX7_passedOf 9 = .ok (.getfield 15, 3) := by decide +kernel
theorem dX7_passedOf_12 : decode cX7_passedOf 12 = .ok (.iload_n 1, 1) := by decide +kernel
theorem dX7_passedOf_13 : decode cX7_passedOf 13 = .ok (.iaload, 1) := by decide +kernel
theorem dX7_passedOf_14 : decode cX7_passedOf 14 = .ok (.goto 4, 3) := by decide +kernel
theorem dX7_passedOf_17 : decode cX7_passedOf 17 = .ok (.iconst (-1), 1) := by decide +kernel
theorem dX7_passedOf_18 : decode cX7_passedOf 18 = .ok (.ireturn, 1) := by decide +kernel
theorem dX7_overturnedOf_0 : decode cX7_overturnedOf 0 = .ok (.aload_n 0, 1) := by decide +kernel
theorem dX7_overturnedOf_1 : decode cX7_overturnedOf 1 = .ok (.iload_n 1, 1) := by decide +kernel
theorem dX7_overturnedOf_2 : decode cX7_overturnedOf 2 = .ok (.invokevirtual 120, 3) := by decide +kernel
theorem dX7_overturnedOf_5 : decode cX7_overturnedOf 5 = .ok (.ifCond .ne 5, 3) := by decide +kernel
theorem dX7_overturnedOf_8 : decode cX7_overturnedOf 8 = .ok (.iconst (-1), 1) := by decide +kernel
theorem dX7_overturnedOf_9 : decode cX7_overturnedOf 9 = .ok (.ireturn, 1) := by decide +kernel
theorem dX7_overturnedOf_10 : decode cX7_overturnedOf 10 = .ok (.aload_n 0, 1) := by decide +kernel
theorem dX7_overturnedOf_11 : decode cX7_overturnedOf 11 = .ok (.getfield 18, 3) := by decide +kernel
theorem dX7_overturnedOf_14 : decode cX7_overturnedOf 14 = .ok (.iload_n 1, 1) := by decide +kernel
theorem dX7_overturnedOf_15 : decode cX7_overturnedOf 15 = .ok (.baload, 1) := by decide +kernel
theorem dX7_overturnedOf_16 : decode cX7_overturnedOf 16 = .ok (.ifCond .eq 7, 3) := by decide +kernel
theorem dX7_overturnedOf_19 : decode cX7_overturnedOf 19 = .ok (.iconst 1, 1) := by decide +kernel
theorem dX7_overturnedOf_20 : decode cX7_overturnedOf 20 = .ok (.goto 4, 3) := by decide +kernel
theorem dX7_overturnedOf_23 : decode cX7_overturnedOf 23 = .ok (.iconst 0, 1) := by decide +kernel
theorem dX7_overturnedOf_24 : decode cX7_overturnedOf 24 = .ok (.ireturn, 1) := by decide +kernel
theorem dX7_tell_0 : decode cX7_tell 0 = .ok (.iload_n 1, 1) := by decide +kernel
theorem dX7_tell_1 : decode cX7_tell 1 = .ok (.tableswitch 154 0 10 #[59, 67, 75, 83, 91, 96, 104, 109, 122, 144, 149], 59) := by decide +kernel
theorem dX7_tell_60 : decode cX7_tell 60 = .ok (.aload_n 0, 1) := by decide +kernel
theorem dX7_tell_61 : decode cX7_tell 61 = .ok (.getfield 77, 3) := by decide +kernel
theorem dX7_tell_64 : decode cX7_tell 64 = .ok (.invokestatic 123, 3) := by decide +kernel
theorem dX7_tell_67 : decode cX7_tell 67 = .ok (.ireturn, 1) := by decide +kernel
theorem dX7_tell_68 : decode cX7_tell 68 = .ok (.aload_n 0, 1) := by decide +kernel
theorem dX7_tell_69 : decode cX7_tell 69 = .ok (.getfield 38, 3) := by decide +kernel
theorem dX7_tell_72 : decode cX7_tell 72 = .ok (.getfield 128, 3) := by decide +kernel
theorem dX7_tell_75 : decode cX7_tell 75 = .ok (.ireturn, 1) := by decide +kernel
theorem dX7_tell_76 : decode cX7_tell 76 = .ok (.aload_n 0, 1) := by decide +kernel
theorem dX7_tell_77 : decode cX7_tell 77 = .ok (.getfield 38, 3) := by decide +kernel
theorem dX7_tell_80 : decode cX7_tell 80 = .ok (.getfield 131, 3) := by decide +kernel
theorem dX7_tell_83 : decode cX7_tell 83 = .ok (.ireturn, 1) := by decide +kernel
theorem dX7_tell_84 : decode cX7_tell 84 = .ok (.aload_n 0, 1) := by decide +kernel
theorem dX7_tell_85 : decode cX7_tell 85 = .ok (.getfield 38, 3) := by decide +kernel
theorem dX7_tell_88 : decode cX7_tell 88 = .ok (.getfield 134, 3) := by decide +kernel
theorem dX7_tell_91 : decode cX7_tell 91 = .ok (.ireturn, 1) := by decide +kernel
theorem dX7_tell_92 : decode cX7_tell 92 = .ok (.aload_n 0, 1) := by decide +kernel
theorem dX7_tell_93 : decode cX7_tell 93 = .ok (.getfield 85, 3) := by decide +kernel
theorem dX7_tell_96 : decode cX7_tell 96 = .ok (.ireturn, 1) := by decide +kernel
theorem dX7_tell_97 : decode cX7_tell 97 = .ok (.aload_n 0, 1) := by decide +kernel
theorem dX7_tell_98 : decode cX7_tell 98 = .ok (.getfield 47, 3) := by decide +kernel
theorem dX7_tell_101 : decode cX7_tell 101 = .ok (.getfield 64, 3) := by decide +kernel
theorem dX7_tell_104 : decode cX7_tell 104 = .ok (.ireturn, 1) := by decide +kernel
theorem dX7_tell_105 : decode cX7_tell 105 = .ok (.aload_n 0, 1) := by decide +kernel
theorem dX7_tell_106 : decode cX7_tell 106 = .ok (.getfield 86, 3) := by decide +kernel
theorem dX7_tell_109 : decode cX7_tell 109 = .ok (.ireturn, 1) := by decide +kernel
theorem dX7_tell_110 : decode cX7_tell 110 = .ok (.aload_n 0, 1) := by decide +kernel
theorem dX7_tell_111 : decode cX7_tell 111 = .ok (.getfield 92, 3) := by decide +kernel
theorem dX7_tell_114 : decode cX7_tell 114 = .ok (.ifCond .eq 7, 3) := by decide +kernel
theorem dX7_tell_117 : decode cX7_tell 117 = .ok (.iconst 1, 1) := by decide +kernel
theorem dX7_tell_118 : decode cX7_tell 118 = .ok (.goto 4, 3) := by decide +kernel
theorem dX7_tell_121 : decode cX7_tell 121 = .ok (.iconst 0, 1) := by decide +kernel
theorem dX7_tell_122 : decode cX7_tell 122 = .ok (.ireturn, 1) := by decide +kernel
theorem dX7_tell_123 : decode cX7_tell 123 = .ok (.aload_n 0, 1) := by decide +kernel
theorem dX7_tell_124 : decode cX7_tell 124 = .ok (.getfield 54, 3) := by decide +kernel
theorem dX7_tell_127 : decode cX7_tell 127 = .ok (.getfield 137, 3) := by decide +kernel
theorem dX7_tell_130 : decode cX7_tell 130 = .ok (.ifCond .eq 13, 3) := by decide +kernel
theorem dX7_tell_133 : decode cX7_tell 133 = .ok (.aload_n 0, 1) := by decide +kernel
theorem dX7_tell_134 : decode cX7_tell 134 = .ok (.getfield 54, 3) := by decide +kernel
theorem dX7_tell_137 : decode cX7_tell 137 = .ok (.getfield 140, 3) := by decide +kernel
theorem dX7_tell_140 : decode cX7_tell 140 = .ok (.goto 4, 3) := by decide +kernel
theorem dX7_tell_143 : decode cX7_tell 143 = .ok (.iconst (-1), 1) := by decide +kernel
theorem dX7_tell_144 : decode cX7_tell 144 = .ok (.ireturn, 1) := by decide +kernel
theorem dX7_tell_145 : decode cX7_tell 145 = .ok (.aload_n 0, 1) := by decide +kernel
theorem dX7_tell_146 : decode cX7_tell 146 = .ok (.getfield 89, 3) := by decide +kernel
theorem dX7_tell_149 : decode cX7_tell 149 = .ok (.ireturn, 1) := by decide +kernel
theorem dX7_tell_150 : decode cX7_tell 150 = .ok (.aload_n 0, 1) := by decide +kernel
theorem dX7_tell_151 : decode cX7_tell 151 = .ok (.getfield 71, 3) := by decide +kernel
theorem dX7_tell_154 : decode cX7_tell 154 = .ok (.ireturn, 1) := by decide +kernel
theorem dX7_tell_155 : decode cX7_tell 155 = .ok (.iconst (-1), 1) := by decide +kernel
theorem dX7_tell_156 : decode cX7_tell 156 = .ok (.ireturn, 1) := by decide +kernel
theorem dX7_isWorked_0 : decode cX7_isWorked 0 = .ok (.iload_n 1, 1) := by decide +kernel
theorem dX7_isWorked_1 : decode cX7_isWorked 1 = .ok (.invokestatic 96, 3) := by decide +kernel
theorem dX7_isWorked_4 : decode cX7_isWorked 4 = .ok (.ifCond .eq 15, 3) := by decide +kernel
theorem dX7_isWorked_7 : decode cX7_isWorked 7 = .ok (.iload_n 1, 1) := by decide +kernel
theorem dX7_isWorked_8 : decode cX7_isWorked 8 = .ok (.aload_n 0, 1) := by decide +kernel
theorem dX7_isWorked_9 : decode cX7_isWorked 9 = .ok (.getfield 71, 3) := by decide +kernel
theorem dX7_isWorked_12 : decode cX7_isWorked 12 = .ok (.if_icmp .ge 7, 3) := by decide +kernel
theorem dX7_isWorked_15 : decode cX7_isWorked 15 = .ok (.iconst 1, 1) := by decide +kernel
theorem dX7_isWorked_16 : decode cX7_isWorked 16 = .ok (.goto 4, 3) := by decide +kernel
theorem dX7_isWorked_19 : decode cX7_isWorked 19 = .ok (.iconst 0, 1) := by decide +kernel
theorem dX7_isWorked_20 : decode cX7_isWorked 20 = .ok (.ireturn, 1) := by decide +kernel
theorem dX7_isThere_0 : decode cX7_isThere 0 = .ok (.iload_n 1, 1) := by decide +kernel
theorem dX7_isThere_1 : decode cX7_isThere 1 = .ok (.invokestatic 141, 3) := by decide +kernel
theorem dX7_isThere_4 : decode cX7_isThere 4 = .ok (.ifCond .eq 19, 3) := by decide +kernel
theorem dX7_isThere_7 : decode cX7_isThere 7 = .ok (.aload_n 0, 1) := by decide +kernel
theorem dX7_isThere_8 : decode cX7_isThere 8 = .ok (.getfield 77, 3) := by decide +kernel
theorem dX7_isThere_11 : decode cX7_isThere 11 = .ok (.iload_n 1, 1) := by decide +kernel
theorem dX7_isThere_12 : decode cX7_isThere 12 = .ok (.iushr, 1) := by decide +kernel
theorem dX7_isThere_13 : decode cX7_isThere 13 = .ok (.iconst 1, 1) := by decide +kernel
theorem dX7_isThere_14 : decode cX7_isThere 14 = .ok (.iand, 1) := by decide +kernel
theorem dX7_isThere_15 : decode cX7_isThere 15 = .ok (.iconst 1, 1) := by decide +kernel
theorem dX7_isThere_16 : decode cX7_isThere 16 = .ok (.if_icmp .ne 7, 3) := by decide +kernel
theorem dX7_isThere_19 : decode cX7_isThere 19 = .ok (.iconst 1, 1) := by decide +kernel
theorem dX7_isThere_20 : decode cX7_isThere 20 = .ok (.goto 4, 3) := by decide +kernel
theorem dX7_isThere_23 : decode cX7_isThere 23 = .ok (.iconst 0, 1) := by decide +kernel
theorem dX7_isThere_24 : decode cX7_isThere 24 = .ok (.ireturn, 1) := by decide +kernel
theorem dX7_refusalAtLarge_0 : decode cX7_refusalAtLarge 0 = .ok (.aload_n 0, 1) := by decide +kernel
theorem dX7_refusalAtLarge_1 : decode cX7_refusalAtLarge 1 = .ok (.getfield 29, 3) := by decide +kernel
theorem dX7_refusalAtLarge_4 : decode cX7_refusalAtLarge 4 = .ok (.getfield 115, 3) := by decide +kernel
theorem dX7_refusalAtLarge_7 : decode cX7_refusalAtLarge 7 = .ok (.iload_n 1, 1) := by decide +kernel
theorem dX7_refusalAtLarge_8 : decode cX7_refusalAtLarge 8 = .ok (.iaload, 1) := by decide +kernel
theorem dX7_refusalAtLarge_9 : decode cX7_refusalAtLarge 9 = .ok (.istore_n 2, 1) := by decide +kernel
theorem dX7_refusalAtLarge_10 : decode cX7_refusalAtLarge 10 = .ok (.aload_n 0, 1) := by decide +kernel
theorem dX7_refusalAtLarge_11 : decode cX7_refusalAtLarge 11 = .ok (.iload_n 1, 1) := by decide +kernel
theorem dX7_refusalAtLarge_12 : decode cX7_refusalAtLarge 12 = .ok (.invokevirtual 144, 3) := by decide +kernel
theorem dX7_refusalAtLarge_15 : decode cX7_refusalAtLarge 15 = .ok (.ifCond .ne 5, 3) := by decide +kernel
theorem dX7_refusalAtLarge_18 : decode cX7_refusalAtLarge 18 = .ok (.iconst 1, 1) := by decide +kernel
theorem dX7_refusalAtLarge_19 : decode cX7_refusalAtLarge 19 = .ok (.ireturn, 1) := by decide +kernel
theorem dX7_refusalAtLarge_20 : decode cX7_refusalAtLarge 20 = .ok (.iload_n 2, 1) := by decide +kernel
theorem dX7_refusalAtLarge_21 : decode cX7_refusalAtLarge 21 = .ok (.invokestatic 147, 3) := by decide +kernel
theorem dX7_refusalAtLarge_24 : decode cX7_refusalAtLarge 24 = .ok (.ifCond .eq 30, 3) := by decide +kernel
theorem dX7_refusalAtLarge_27 : decode cX7_refusalAtLarge 27 = .ok (.aload_n 0, 1) := by decide +kernel
theorem dX7_refusalAtLarge_28 : decode cX7_refusalAtLarge 28 = .ok (.aload_n 0, 1) := by decide +kernel
theorem dX7_refusalAtLarge_29 : decode cX7_refusalAtLarge 29 = .ok (.getfield 29, 3) := by decide +kernel
theorem dX7_refusalAtLarge_32 : decode cX7_refusalAtLarge 32 = .ok (.getfield 150, 3) := by decide +kernel
theorem dX7_refusalAtLarge_35 : decode cX7_refusalAtLarge 35 = .ok (.iload_n 1, 1) := by decide +kernel
theorem dX7_refusalAtLarge_36 : decode cX7_refusalAtLarge 36 = .ok (.iaload, 1) := by decide +kernel
theorem dX7_refusalAtLarge_37 : decode cX7_refusalAtLarge 37 = .ok (.invokevirtual 153, 3) := by decide +kernel
theorem dX7_refusalAtLarge_40 : decode cX7_refusalAtLarge 40 = .ok (.iload_n 2, 1) := by decide +kernel
theorem dX7_refusalAtLarge_41 : decode cX7_refusalAtLarge 41 = .ok (.ifCond .ne 7, 3) := by decide +kernel
theorem dX7_refusalAtLarge_44 : decode cX7_refusalAtLarge 44 = .ok (.iconst 1, 1) := by decide +kernel
theorem dX7_refusalAtLarge_45 : decode cX7_refusalAtLarge 45 = .ok (.goto 4, 3) := by decide +kernel
theorem dX7_refusalAtLarge_48 : decode cX7_refusalAtLarge 48 = .ok (.iconst 0, 1) := by decide +kernel
theorem dX7_refusalAtLarge_49 : decode cX7_refusalAtLarge 49 = .ok (.if_icmp .ne 5, 3) := by decide +kernel
theorem dX7_refusalAtLarge_52 : decode cX7_refusalAtLarge 52 = .ok (.iconst 2, 1) := by decide +kernel
theorem dX7_refusalAtLarge_53 : decode cX7_refusalAtLarge 53 = .ok (.ireturn, 1) := by decide +kernel
theorem dX7_refusalAtLarge_54 : decode cX7_refusalAtLarge 54 = .ok (.iload_n 2, 1) := by decide +kernel
theorem dX7_refusalAtLarge_55 : decode cX7_refusalAtLarge 55 = .ok (.ifCond .eq 8, 3) := by decide +kernel
theorem dX7_refusalAtLarge_58 : decode cX7_refusalAtLarge 58 = .ok (.iload_n 2, 1) := by decide +kernel
theorem dX7_refusalAtLarge_59 : decode cX7_refusalAtLarge 59 = .ok (.iconst 1, 1) := by decide +kernel
theorem dX7_refusalAtLarge_60 : decode cX7_refusalAtLarge 60 = .ok (.if_icmp .ne 5, 3) := by decide +kernel
theorem dX7_refusalAtLarge_63 : decode cX7_refusalAtLarge 63 = .ok (.iconst 0, 1) := by decide +kernel
theorem dX7_refusalAtLarge_64 : decode cX7_refusalAtLarge 64 = .ok (.ireturn, 1) := by decide +kernel
theorem dX7_refusalAtLarge_65 : decode cX7_refusalAtLarge 65 = .ok (.aload_n 0, 1) := by decide +kernel
theorem dX7_refusalAtLarge_66 : decode cX7_refusalAtLarge 66 = .ok (.getfield 92, 3) := by decide +kernel
theorem dX7_refusalAtLarge_69 : decode cX7_refusalAtLarge 69 = .ok (.ifCond .eq 5, 3) := by decide +kernel
theorem dX7_refusalAtLarge_72 : decode cX7_refusalAtLarge 72 = .ok (.iconst 3, 1) := by decide +kernel
theorem dX7_refusalAtLarge_73 : decode cX7_refusalAtLarge 73 = .ok (.ireturn, 1) := by decide +kernel
theorem dX7_refusalAtLarge_74 : decode cX7_refusalAtLarge 74 = .ok (.aload_n 0, 1) := by decide +kernel
theorem dX7_refusalAtLarge_75 : decode cX7_refusalAtLarge 75 = .ok (.getfield 77, 3) := by decide +kernel
theorem dX7_refusalAtLarge_78 : decode cX7_refusalAtLarge 78 = .ok (.invokestatic 123, 3) := by decide +kernel
theorem dX7_refusalAtLarge_81 : decode cX7_refusalAtLarge 81 = .ok (.aload_n 0, 1) := by decide +kernel
theorem dX7_refusalAtLarge_82 : decode cX7_refusalAtLarge 82 = .ok (.getfield 25, 3) := by decide +kernel
theorem dX7_refusalAtLarge_85 : decode cX7_refusalAtLarge 85 = .ok (.getfield 156, 3) := by decide +kernel
theorem dX7_refusalAtLarge_88 : decode cX7_refusalAtLarge 88 = .ok (.if_icmp .ge 5, 3) := by decide +kernel
theorem dX7_refusalAtLarge_91 : decode cX7_refusalAtLarge 91 = .ok (.iconst 4, 1) := by decide +kernel
theorem dX7_refusalAtLarge_92 : decode cX7_refusalAtLarge 92 = .ok (.ireturn, 1) := by decide +kernel
theorem dX7_refusalAtLarge_93 : decode cX7_refusalAtLarge 93 = .ok (.aload_n 0, 1) := by decide +kernel
theorem dX7_refusalAtLarge_94 : decode cX7_refusalAtLarge 94 = .ok (.getfield 86, 3) := by decide +kernel
theorem dX7_refusalAtLarge_97 : decode cX7_refusalAtLarge 97 = .ok (.ifCond .le 12, 3) := by decide +kernel
theorem dX7_refusalAtLarge_100 : decode cX7_refusalAtLarge 100 = .ok (.iload_n 2, 1) := by decide +kernel
theorem dX7_refusalAtLarge_101 : decode cX7_refusalAtLarge 101 = .ok (.iconst 4, 1) := by decide +kernel
theorem dX7_refusalAtLarge_102 : decode cX7_refusalAtLarge 102 = .ok (.if_icmp .eq 7, 3) := by decide +kernel
theorem dX7_refusalAtLarge_105 : decode cX7_refusalAtLarge 105 = .ok (.iconst 5, 1) := by decide +kernel
theorem dX7_refusalAtLarge_106 : decode cX7_refusalAtLarge 106 = .ok (.goto 4, 3) := by decide +kernel
theorem dX7_refusalAtLarge_109 : decode cX7_refusalAtLarge 109 = .ok (.iconst 0, 1) := by decide +kernel
theorem dX7_refusalAtLarge_110 : decode cX7_refusalAtLarge 110 = .ok (.ireturn, 1) := by decide +kernel
theorem dX7_isOfMember_0 : decode cX7_isOfMember 0 = .ok (.iload_n 0, 1) := by decide +kernel
theorem dX7_isOfMember_1 : decode cX7_isOfMember 1 = .ok (.iconst 3, 1) := by decide +kernel
theorem dX7_isOfMember_2 : decode cX7_isOfMember 2 = .ok (.if_icmp .eq 24, 3) := by decide +kernel
theorem dX7_isOfMember_5 : decode cX7_isOfMember 5 = .ok (.iload_n 0, 1) := by decide +kernel
theorem dX7_isOfMember_6 : decode cX7_isOfMember 6 = .ok (.iconst 4, 1) := by decide +kernel
theorem dX7_isOfMember_7 : decode cX7_isOfMember 7 = .ok (.if_icmp .eq 19, 3) := by decide +kernel
theorem dX7_isOfMember_10 : decode cX7_isOfMember 10 = .ok (.iload_n 0, 1) := by decide +kernel
theorem dX7_isOfMember_11 : decode cX7_isOfMember 11 = .ok (.bipush 8, 2) := by decide +kernel
theorem dX7_isOfMember_13 : decode cX7_isOfMember 13 = .ok (.if_icmp .eq 13, 3) := by decide +kernel
theorem dX7_isOfMember_16 : decode cX7_isOfMember 16 = .ok (.iload_n 0, 1) := by decide +kernel
theorem dX7_isOfMember_17 : decode cX7_isOfMember 17 = .ok (.bipush 9, 2) := by decide +kernel
theorem dX7_isOfMember_19 : decode cX7_isOfMember 19 = .ok (.if_icmp .eq 7, 3) := by decide +kernel
theorem dX7_isOfMember_22 : decode cX7_isOfMember 22 = .ok (.iconst 1, 1) := by decide +kernel
theorem dX7_isOfMember_23 : decode cX7_isOfMember 23 = .ok (.goto 4, 3) := by decide +kernel
theorem dX7_isOfMember_26 : decode cX7_isOfMember 26 = .ok (.iconst 0, 1) := by decide +kernel
theorem dX7_isOfMember_27 : decode cX7_isOfMember 27 = .ok (.ireturn, 1) := by decide +kernel
theorem dX7_numbersAreAsTold_0 : decode cX7_numbersAreAsTold 0 = .ok (.aload_n 0, 1) := by decide +kernel
theorem dX7_numbersAreAsTold_1 : decode cX7_numbersAreAsTold 1 = .ok (.getfield 29, 3) := by decide +kernel
theorem dX7_numbersAreAsTold_4 : decode cX7_numbersAreAsTold 4 = .ok (.getfield 159, 3) := by decide +kernel
theorem dX7_numbersAreAsTold_7 : decode cX7_numbersAreAsTold 7 = .ok (.iload_n 1, 1) := by decide +kernel
theorem dX7_numbersAreAsTold_8 : decode cX7_numbersAreAsTold 8 = .ok (.iaload, 1) := by decide +kernel
theorem dX7_numbersAreAsTold_9 : decode cX7_numbersAreAsTold 9 = .ok (.istore_n 2, 1) := by decide +kernel
theorem dX7_numbersAreAsTold_10 : decode cX7_numbersAreAsTold 10 = .ok (.aload_n 0, 1) := by decide +kernel
theorem dX7_numbersAreAsTold_11 : decode cX7_numbersAreAsTold 11 = .ok (.getfield 29, 3) := by decide +kernel
theorem dX7_numbersAreAsTold_14 : decode cX7_numbersAreAsTold 14 = .ok (.getfield 162, 3) := by decide +kernel
theorem dX7_numbersAreAsTold_17 : decode cX7_numbersAreAsTold 17 = .ok (.iload_n 1, 1) := by decide +kernel
theorem dX7_numbersAreAsTold_18 : decode cX7_numbersAreAsTold 18 = .ok (.iaload, 1) := by decide +kernel
theorem dX7_numbersAreAsTold_19 : decode cX7_numbersAreAsTold 19 = .ok (.istore_n 3, 1) := by decide +kernel
theorem dX7_numbersAreAsTold_20 : decode cX7_numbersAreAsTold 20 = .ok (.aload_n 0, 1) := by decide +kernel
theorem dX7_numbersAreAsTold_21 : decode cX7_numbersAreAsTold 21 = .ok (.getfield 29, 3) := by decide +kernel
theorem dX7_numbersAreAsTold_24 : decode cX7_numbersAreAsTold 24 = .ok (.getfield 115, 3) := by decide +kernel
theorem dX7_numbersAreAsTold_27 : decode cX7_numbersAreAsTold 27 = .ok (.iload_n 1, 1) := by decide +kernel
theorem dX7_numbersAreAsTold_28 : decode cX7_numbersAreAsTold 28 = .ok (.iaload, 1) := by decide +kernel
theorem dX7_numbersAreAsTold_29 : decode cX7_numbersAreAsTold 29 = .ok (.tableswitch 161 3 9 #[43, 45, 161, 63, 161, 121, 146], 43) := by decide +kernel
theorem dX7_numbersAreAsTold_72 : decode cX7_numbersAreAsTold 72 = .ok (.iconst 1, 1) := by decide +kernel
theorem dX7_numbersAreAsTold_73 : decode cX7_numbersAreAsTold 73 = .ok (.ireturn, 1) := by decide +kernel
theorem dX7_numbersAreAsTold_74 : decode cX7_numbersAreAsTold 74 = .ok (.iload_n 2, 1) := by decide +kernel
theorem dX7_numbersAreAsTold_75 : decode cX7_numbersAreAsTold 75 = .ok (.iconst 1, 1) := by decide +kernel
theorem dX7_numbersAreAsTold_76 : decode cX7_numbersAreAsTold 76 = .ok (.if_icmp .lt 14, 3) := by decide +kernel
theorem dX7_numbersAreAsTold_79 : decode cX7_numbersAreAsTold 79 = .ok (.iload_n 2, 1) := by decide +kernel
theorem dX7_numbersAreAsTold_80 : decode cX7_numbersAreAsTold 80 = .ok (.sipush 9999, 3) := by decide +kernel
theorem dX7_numbersAreAsTold_83 : decode cX7_numbersAreAsTold 83 = .ok (.if_icmp .gt 7, 3) := by decide +kernel
theorem dX7_numbersAreAsTold_86 : decode cX7_numbersAreAsTold 86 = .ok (.iconst 1, 1) := by decide +kernel
theorem dX7_numbersAreAsTold_87 : decode cX7_numbersAreAsTold 87 = .ok (.goto 4, 3) := by decide +kernel
theorem dX7_numbersAreAsTold_90 : decode cX7_numbersAreAsTold 90 = .ok (.iconst 0, 1) := by decide +kernel
theorem dX7_numbersAreAsTold_91 : decode cX7_numbersAreAsTold 91 = .ok (.ireturn, 1) := by decide +kernel
theorem dX7_numbersAreAsTold_92 : decode cX7_numbersAreAsTold 92 = .ok (.aload_n 0, 1) := by decide +kernel
theorem dX7_numbersAreAsTold_93 : decode cX7_numbersAreAsTold 93 = .ok (.getfield 29, 3) := by decide +kernel
theorem dX7_numbersAreAsTold_96 : decode cX7_numbersAreAsTold 96 = .ok (.getfield 150, 3) := by decide +kernel
theorem dX7_numbersAreAsTold_99 : decode cX7_numbersAreAsTold 99 = .ok (.iload_n 1, 1) := by decide +kernel
theorem dX7_numbersAreAsTold_100 : decode cX7_numbersAreAsTold 100 = .ok (.iaload, 1) := by decide +kernel
theorem dX7_numbersAreAsTold_101 : decode cX7_numbersAreAsTold 101 = .ok (.invokestatic 141, 3) := by decide +kernel
theorem dX7_numbersAreAsTold_104 : decode cX7_numbersAreAsTold 104 = .ok (.ifCond .eq 44, 3) := by decide +kernel
theorem dX7_numbersAreAsTold_107 : decode cX7_numbersAreAsTold 107 = .ok (.aload_n 0, 1) := by decide +kernel
theorem dX7_numbersAreAsTold_108 : decode cX7_numbersAreAsTold 108 = .ok (.getfield 29, 3) := by decide +kernel
theorem dX7_numbersAreAsTold_111 : decode cX7_numbersAreAsTold 111 = .ok (.getfield 165, 3) := by decide +kernel
theorem dX7_numbersAreAsTold_114 : decode cX7_numbersAreAsTold 114 = .ok (.iload_n 1, 1) := by decide +kernel
theorem dX7_numbersAreAsTold_115 : decode cX7_numbersAreAsTold 115 = .ok (.iaload, 1) := by decide +kernel
theorem dX7_numbersAreAsTold_116 : decode cX7_numbersAreAsTold 116 = .ok (.invokestatic 168, 3) := by decide +kernel
theorem dX7_numbersAreAsTold_119 : decode cX7_numbersAreAsTold 119 = .ok (.ifCond .eq 29, 3) := by decide +kernel
theorem dX7_numbersAreAsTold_122 : decode cX7_numbersAreAsTold 122 = .ok (.iload_n 2, 1) := by decide +kernel
theorem dX7_numbersAreAsTold_123 : decode cX7_numbersAreAsTold 123 = .ok (.ifCond .lt 25, 3) := by decide +kernel
theorem dX7_numbersAreAsTold_126 : decode cX7_numbersAreAsTold 126 = .ok (.iload_n 2, 1) := by decide +kernel
theorem dX7_numbersAreAsTold_127 : decode cX7_numbersAreAsTold 127 = .ok (.sipush 999, 3) := by decide +kernel
theorem dX7_numbersAreAsTold_130 : decode cX7_numbersAreAsTold 130 = .ok (.if_icmp .gt 18, 3) := by decide +kernel
theorem dX7_numbersAreAsTold_133 : decode cX7_numbersAreAsTold 133 = .ok (.iload_n 3, 1) := by decide +kernel
theorem dX7_numbersAreAsTold_134 : decode cX7_numbersAreAsTold 134 = .ok (.ifCond .lt 14, 3) := by decide +kernel
theorem dX7_numbersAreAsTold_137 : decode cX7_numbersAreAsTold 137 = .ok (.iload_n 3, 1) := by decide +kernel
theorem dX7_numbersAreAsTold_138 : decode cX7_numbersAreAsTold 138 = .ok (.sipush 999, 3) := by decide +kernel
theorem dX7_numbersAreAsTold_141 : decode cX7_numbersAreAsTold 141 = .ok (.if_icmp .gt 7, 3) := by decide +kernel
theorem dX7_numbersAreAsTold_144 : decode cX7_numbersAreAsTold 144 = .ok (.iconst 1, 1) := by decide +kernel
theorem dX7_numbersAreAsTold_145 : decode cX7_numbersAreAsTold 145 = .ok (.goto 4, 3) := by decide +kernel
theorem dX7_numbersAreAsTold_148 : decode cX7_numbersAreAsTold 148 = .ok (.iconst 0, 1) := by decide +kernel
theorem dX7_numbersAreAsTold_149 : decode cX7_numbersAreAsTold 149 = .ok (.ireturn, 1) := by decide +kernel
theorem dX7_numbersAreAsTold_150 : decode cX7_numbersAreAsTold 150 = .ok (.iload_n 2, 1) := by decide +kernel
theorem dX7_numbersAreAsTold_151 : decode cX7_numbersAreAsTold 151 = .ok (.iload_n 3, 1) := by decide +kernel
theorem dX7_numbersAreAsTold_152 : decode cX7_numbersAreAsTold 152 = .ok (.iand, 1) := by decide +kernel
theorem dX7_numbersAreAsTold_153 : decode cX7_numbersAreAsTold 153 = .ok (.ifCond .ne 20, 3) := by decide +kernel
theorem dX7_numbersAreAsTold_156 : decode cX7_numbersAreAsTold 156 = .ok (.iload_n 2, 1) := by decide +kernel
theorem dX7_numbersAreAsTold_157 : decode cX7_numbersAreAsTold 157 = .ok (.iload_n 3, 1) := by decide +kernel
theorem dX7_numbersAreAsTold_158 : decode cX7_numbersAreAsTold 158 = .ok (.ior, 1) := by decide +kernel
theorem dX7_numbersAreAsTold_159 : decode cX7_numbersAreAsTold 159 = .ok (.aload_n 0, 1) := by decide +kernel
theorem dX7_numbersAreAsTold_160 : decode cX7_numbersAreAsTold 160 = .ok (.getfield 77, 3) := by decide +kernel
theorem dX7_numbersAreAsTold_163 : decode cX7_numbersAreAsTold 163 = .ok (.iconst (-1), 1) := by decide +kernel
theorem dX7_numbersAreAsTold_164 : decode cX7_numbersAreAsTold 164 = .ok (.ixor, 1) := by decide +kernel
theorem dX7_numbersAreAsTold_165 : decode cX7_numbersAreAsTold 165 = .ok (.iand, 1) := by decide +kernel
theorem dX7_numbersAreAsTold_166 : decode cX7_numbersAreAsTold 166 = .ok (.ifCond .ne 7, 3) := by decide +kernel
theorem dX7_numbersAreAsTold_169 : decode cX7_numbersAreAsTold 169 = .ok (.iconst 1, 1) := by decide +kernel
theorem dX7_numbersAreAsTold_170 : decode cX7_numbersAreAsTold 170 = .ok (.goto 4, 3) := by decide +kernel
theorem dX7_numbersAreAsTold_173 : decode cX7_numbersAreAsTold 173 = .ok (.iconst 0, 1) := by decide +kernel
theorem dX7_numbersAreAsTold_174 : decode cX7_numbersAreAsTold 174 = .ok (.ireturn, 1) := by decide +kernel
theorem dX7_numbersAreAsTold_175 : decode cX7_numbersAreAsTold 175 = .ok (.iload_n 2, 1) := by decide +kernel
theorem dX7_numbersAreAsTold_176 : decode cX7_numbersAreAsTold 176 = .ok (.ifCond .eq 8, 3) := by decide +kernel
theorem dX7_numbersAreAsTold_179 : decode cX7_numbersAreAsTold 179 = .ok (.iload_n 2, 1) := by decide +kernel
theorem dX7_numbersAreAsTold_180 : decode cX7_numbersAreAsTold 180 = .ok (.iconst 1, 1) := by decide +kernel
theorem dX7_numbersAreAsTold_181 : decode cX7_numbersAreAsTold 181 = .ok (.if_icmp .ne 7, 3) := by decide +kernel
theorem dX7_numbersAreAsTold_184 : decode cX7_numbersAreAsTold 184 = .ok (.iconst 1, 1) := by decide +kernel
theorem dX7_numbersAreAsTold_185 : decode cX7_numbersAreAsTold 185 = .ok (.goto 4, 3) := by decide +kernel
theorem dX7_numbersAreAsTold_188 : decode cX7_numbersAreAsTold 188 = .ok (.iconst 0, 1) := by decide +kernel
theorem dX7_numbersAreAsTold_189 : decode cX7_numbersAreAsTold 189 = .ok (.ireturn, 1) := by decide +kernel
theorem dX7_numbersAreAsTold_190 : decode cX7_numbersAreAsTold 190 = .ok (.aload_n 0, 1) := by decide +kernel
theorem dX7_numbersAreAsTold_191 : decode cX7_numbersAreAsTold 191 = .ok (.getfield 29, 3) := by decide +kernel
theorem dX7_numbersAreAsTold_194 : decode cX7_numbersAreAsTold 194 = .ok (.getfield 150, 3) := by decide +kernel
theorem dX7_numbersAreAsTold_197 : decode cX7_numbersAreAsTold 197 = .ok (.iload_n 1, 1) := by decide +kernel
theorem dX7_numbersAreAsTold_198 : decode cX7_numbersAreAsTold 198 = .ok (.iaload, 1) := by decide +kernel
theorem dX7_numbersAreAsTold_199 : decode cX7_numbersAreAsTold 199 = .ok (.invokestatic 141, 3) := by decide +kernel
theorem dX7_numbersAreAsTold_202 : decode cX7_numbersAreAsTold 202 = .ok (.ireturn, 1) := by decide +kernel
theorem dX7_isInOrder_0 : decode cX7_isInOrder 0 = .ok (.aload_n 0, 1) := by decide +kernel
theorem dX7_isInOrder_1 : decode cX7_isInOrder 1 = .ok (.getfield 29, 3) := by decide +kernel
theorem dX7_isInOrder_4 : decode cX7_isInOrder 4 = .ok (.getfield 150, 3) := by decide +kernel
theorem dX7_isInOrder_7 : decode cX7_isInOrder 7 = .ok (.iload_n 1, 1) := by decide +kernel
theorem dX7_isInOrder_8 : decode cX7_isInOrder 8 = .ok (.iaload, 1) := by decide +kernel
theorem dX7_isInOrder_9 : decode cX7_isInOrder 9 = .ok (.istore_n 2, 1) := by decide +kernel
theorem dX7_isInOrder_10 : decode cX7_isInOrder 10 = .ok (.aload_n 0, 1) := by decide +kernel
theorem dX7_isInOrder_11 : decode cX7_isInOrder 11 = .ok (.getfield 29, 3) := by decide +kernel
theorem dX7_isInOrder_14 : decode cX7_isInOrder 14 = .ok (.getfield 115, 3) := by decide +kernel
theorem dX7_isInOrder_17 : decode cX7_isInOrder 17 = .ok (.iload_n 1, 1) := by decide +kernel
theorem dX7_isInOrder_18 : decode cX7_isInOrder 18 = .ok (.iaload, 1) := by decide +kernel
theorem dX7_isInOrder_19 : decode cX7_isInOrder 19 = .ok (.tableswitch 123 2 9 #[45, 54, 123, 81, 90, 96, 105, 114], 45) := by decide +kernel
theorem dX7_isInOrder_64 : decode cX7_isInOrder 64 = .ok (.aload_n 0, 1) := by decide +kernel
theorem dX7_isInOrder_65 : decode cX7_isInOrder 65 = .ok (.getfield 38, 3) := by decide +kernel
theorem dX7_isInOrder_68 : decode cX7_isInOrder 68 = .ok (.iload_n 2, 1) := by decide +kernel
theorem dX7_isInOrder_69 : decode cX7_isInOrder 69 = .ok (.invokevirtual 171, 3) := by decide +kernel
theorem dX7_isInOrder_72 : decode cX7_isInOrder 72 = .ok (.ireturn, 1) := by decide +kernel
theorem dX7_isInOrder_73 : decode cX7_isInOrder 73 = .ok (.aload_n 0, 1) := by decide +kernel
theorem dX7_isInOrder_74 : decode cX7_isInOrder 74 = .ok (.getfield 38, 3) := by decide +kernel
theorem dX7_isInOrder_77 : decode cX7_isInOrder 77 = .ok (.getfield 128, 3) := by decide +kernel
theorem dX7_isInOrder_80 : decode cX7_isInOrder 80 = .ok (.ifCond .le 18, 3) := by decide +kernel
theorem dX7_isInOrder_83 : decode cX7_isInOrder 83 = .ok (.aload_n 0, 1) := by decide +kernel
theorem dX7_isInOrder_84 : decode cX7_isInOrder 84 = .ok (.getfield 38, 3) := by decide +kernel
theorem dX7_isInOrder_87 : decode cX7_isInOrder 87 = .ok (.getfield 131, 3) := by decide +kernel
theorem dX7_isInOrder_90 : decode cX7_isInOrder 90 = .ok (.iconst (-1), 1) := by decide +kernel
theorem dX7_isInOrder_91 : decode cX7_isInOrder 91 = .ok (.if_icmp .ne 7, 3) := by decide +kernel
theorem dX7_isInOrder_94 : decode cX7_isInOrder 94 = .ok (.iconst 1, 1) := by decide +kernel
theorem dX7_isInOrder_95 : decode cX7_isInOrder 95 = .ok (.goto 4, 3) := by decide +kernel
theorem dX7_isInOrder_98 : decode cX7_isInOrder 98 = .ok (.iconst 0, 1) := by decide +kernel
theorem dX7_isInOrder_99 : decode cX7_isInOrder 99 = .ok (.ireturn, 1) := by decide +kernel
theorem dX7_isInOrder_100 : decode cX7_isInOrder 100 = .ok (.aload_n 0, 1) := by decide +kernel
theorem dX7_isInOrder_101 : decode cX7_isInOrder 101 = .ok (.getfield 38, 3) := by decide +kernel
theorem dX7_isInOrder_104 : decode cX7_isInOrder 104 = .ok (.iload_n 2, 1) := by decide +kernel
theorem dX7_isInOrder_105 : decode cX7_isInOrder 105 = .ok (.invokevirtual 174, 3) := by decide +kernel
theorem dX7_isInOrder_108 : decode cX7_isInOrder 108 = .ok (.ireturn, 1) := by decide +kernel
theorem dX7_isInOrder_109 : decode cX7_isInOrder 109 = .ok (.aload_n 0, 1) := by decide +kernel
theorem dX7_isInOrder_110 : decode cX7_isInOrder 110 = .ok (.iload_n 1, 1) := by decide +kernel
theorem dX7_isInOrder_111 : decode cX7_isInOrder 111 = .ok (.invokevirtual 177, 3) := by decide +kernel
theorem dX7_isInOrder_114 : decode cX7_isInOrder 114 = .ok (.ireturn, 1) := by decide +kernel
theorem dX7_isInOrder_115 : decode cX7_isInOrder 115 = .ok (.aload_n 0, 1) := by decide +kernel
theorem dX7_isInOrder_116 : decode cX7_isInOrder 116 = .ok (.getfield 47, 3) := by decide +kernel
theorem dX7_isInOrder_119 : decode cX7_isInOrder 119 = .ok (.iload_n 2, 1) := by decide +kernel
theorem dX7_isInOrder_120 : decode cX7_isInOrder 120 = .ok (.invokevirtual 180, 3) := by decide +kernel
theorem dX7_isInOrder_123 : decode cX7_isInOrder 123 = .ok (.ireturn, 1) := by decide +kernel
theorem dX7_isInOrder_124 : decode cX7_isInOrder 124 = .ok (.aload_n 0, 1) := by decide +kernel
theorem dX7_isInOrder_125 : decode cX7_isInOrder 125 = .ok (.getfield 47, 3) := by decide +kernel
theorem dX7_isInOrder_128 : decode cX7_isInOrder 128 = .ok (.iconst 0, 1) := by decide +kernel
theorem dX7_isInOrder_129 : decode cX7_isInOrder 129 = .ok (.invokevirtual 183, 3) := by decide +kernel
theorem dX7_isInOrder_132 : decode cX7_isInOrder 132 = .ok (.ireturn, 1) := by decide +kernel
theorem dX7_isInOrder_133 : decode cX7_isInOrder 133 = .ok (.aload_n 0, 1) := by decide +kernel
theorem dX7_isInOrder_134 : decode cX7_isInOrder 134 = .ok (.getfield 47, 3) := by decide +kernel
theorem dX7_isInOrder_137 : decode cX7_isInOrder 137 = .ok (.iconst 1, 1) := by decide +kernel
theorem dX7_isInOrder_138 : decode cX7_isInOrder 138 = .ok (.invokevirtual 183, 3) := by decide +kernel
theorem dX7_isInOrder_141 : decode cX7_isInOrder 141 = .ok (.ireturn, 1) := by decide +kernel
theorem dX7_isInOrder_142 : decode cX7_isInOrder 142 = .ok (.iconst 1, 1) := by decide +kernel
theorem dX7_isInOrder_143 : decode cX7_isInOrder 143 = .ok (.ireturn, 1) := by decide +kernel
theorem dX7_mayMove_0 : decode cX7_mayMove 0 = .ok (.aload_n 0, 1) := by decide +kernel
theorem dX7_mayMove_1 : decode cX7_mayMove 1 = .ok (.getfield 29, 3) := by decide +kernel
theorem dX7_mayMove_4 : decode cX7_mayMove 4 = .ok (.getfield 165, 3) := by decide +kernel
theorem dX7_mayMove_7 : decode cX7_mayMove 7 = .ok (.iload_n 1, 1) := by decide +kernel
theorem dX7_mayMove_8 : decode cX7_mayMove 8 = .ok (.iaload, 1) := by decide +kernel
theorem dX7_mayMove_9 : decode cX7_mayMove 9 = .ok (.istore_n 2, 1) := by decide +kernel
theorem dX7_mayMove_10 : decode cX7_mayMove 10 = .ok (.aload_n 0, 1) := by decide +kernel
theorem dX7_mayMove_11 : decode cX7_mayMove 11 = .ok (.getfield 25, 3) := by decide +kernel
theorem dX7_mayMove_14 : decode cX7_mayMove 14 = .ok (.iload_n 2, 1) := by decide +kernel
theorem dX7_mayMove_15 : decode cX7_mayMove 15 = .ok (.invokevirtual 187, 3) := by decide +kernel
theorem dX7_mayMove_18 : decode cX7_mayMove 18 = .ok (.ifCond .eq 13, 3) := by decide +kernel
theorem dX7_mayMove_21 : decode cX7_mayMove 21 = .ok (.aload_n 0, 1) := by decide +kernel
theorem dX7_mayMove_22 : decode cX7_mayMove 22 = .ok (.getfield 47, 3) := by decide +kernel
theorem dX7_mayMove_25 : decode cX7_mayMove 25 = .ok (.invokevirtual 190, 3) := by decide +kernel
theorem dX7_mayMove_28 : decode cX7_mayMove 28 = .ok (.ifCond .eq 5, 3) := by decide +kernel
theorem dX7_mayMove_31 : decode cX7_mayMove 31 = .ok (.iconst 0, 1) := by decide +kernel
theorem dX7_mayMove_32 : decode cX7_mayMove 32 = .ok (.ireturn, 1) := by decide +kernel
theorem dX7_mayMove_33 : decode cX7_mayMove 33 = .ok (.iload_n 2, 1) := by decide +kernel
theorem dX7_mayMove_34 : decode cX7_mayMove 34 = .ok (.bipush 7, 2) := by decide +kernel
theorem dX7_mayMove_36 : decode cX7_mayMove 36 = .ok (.if_icmp .ne 28, 3) := by decide +kernel
theorem dX7_mayMove_39 : decode cX7_mayMove 39 = .ok (.aload_n 0, 1) := by decide +kernel
theorem dX7_mayMove_40 : decode cX7_mayMove 40 = .ok (.getfield 47, 3) := by decide +kernel
theorem dX7_mayMove_43 : decode cX7_mayMove 43 = .ok (.bipush 7, 2) := by decide +kernel
theorem dX7_mayMove_45 : decode cX7_mayMove 45 = .ok (.invokevirtual 194, 3) := by decide +kernel
theorem dX7_mayMove_48 : decode cX7_mayMove 48 = .ok (.ifCond .ne 14, 3) := by decide +kernel
theorem dX7_mayMove_51 : decode cX7_mayMove 51 = .ok (.aload_n 0, 1) := by decide +kernel
theorem dX7_mayMove_52 : decode cX7_mayMove 52 = .ok (.invokevirtual 197, 3) := by decide +kernel
theorem dX7_mayMove_55 : decode cX7_mayMove 55 = .ok (.ifCond .eq 7, 3) := by decide +kernel
theorem dX7_mayMove_58 : decode cX7_mayMove 58 = .ok (.iconst 1, 1) := by decide +kernel
theorem dX7_mayMove_59 : decode cX7_mayMove 59 = .ok (.goto 4, 3) := by decide +kernel
theorem dX7_mayMove_62 : decode cX7_mayMove 62 = .ok (.iconst 0, 1) := by decide +kernel
theorem dX7_mayMove_63 : decode cX7_mayMove 63 = .ok (.ireturn, 1) := by decide +kernel
theorem dX7_mayMove_64 : decode cX7_mayMove 64 = .ok (.aload_n 0, 1) := by decide +kernel
theorem dX7_mayMove_65 : decode cX7_mayMove 65 = .ok (.getfield 38, 3) := by decide +kernel
theorem dX7_mayMove_68 : decode cX7_mayMove 68 = .ok (.getfield 131, 3) := by decide +kernel
theorem dX7_mayMove_71 : decode cX7_mayMove 71 = .ok (.iconst (-1), 1) := by decide +kernel
theorem dX7_mayMove_72 : decode cX7_mayMove 72 = .ok (.if_icmp .eq 24, 3) := by decide +kernel
theorem dX7_mayMove_75 : decode cX7_mayMove 75 = .ok (.aload_n 0, 1) := by decide +kernel
theorem dX7_mayMove_76 : decode cX7_mayMove 76 = .ok (.getfield 38, 3) := by decide +kernel
theorem dX7_mayMove_79 : decode cX7_mayMove 79 = .ok (.getfield 131, 3) := by decide +kernel
theorem dX7_mayMove_82 : decode cX7_mayMove 82 = .ok (.aload_n 0, 1) := by decide +kernel
theorem dX7_mayMove_83 : decode cX7_mayMove 83 = .ok (.getfield 29, 3) := by decide +kernel
theorem dX7_mayMove_86 : decode cX7_mayMove 86 = .ok (.getfield 150, 3) := by decide +kernel
theorem dX7_mayMove_89 : decode cX7_mayMove 89 = .ok (.iload_n 1, 1) := by decide +kernel
theorem dX7_mayMove_90 : decode cX7_mayMove 90 = .ok (.iaload, 1) := by decide +kernel
theorem dX7_mayMove_91 : decode cX7_mayMove 91 = .ok (.if_icmp .eq 5, 3) := by decide +kernel
theorem dX7_mayMove_94 : decode cX7_mayMove 94 = .ok (.iconst 0, 1) := by decide +kernel
theorem dX7_mayMove_95 : decode cX7_mayMove 95 = .ok (.ireturn, 1) := by decide +kernel
theorem dX7_mayMove_96 : decode cX7_mayMove 96 = .ok (.aload_n 0, 1) := by decide +kernel
theorem dX7_mayMove_97 : decode cX7_mayMove 97 = .ok (.getfield 47, 3) := by decide +kernel
theorem dX7_mayMove_100 : decode cX7_mayMove 100 = .ok (.iload_n 2, 1) := by decide +kernel
theorem dX7_mayMove_101 : decode cX7_mayMove 101 = .ok (.invokevirtual 200, 3) := by decide +kernel
theorem dX7_mayMove_104 : decode cX7_mayMove 104 = .ok (.ifCond .eq 24, 3) := by decide +kernel
theorem dX7_mayMove_107 : decode cX7_mayMove 107 = .ok (.aload_n 0, 1) := by decide +kernel
theorem dX7_mayMove_108 : decode cX7_mayMove 108 = .ok (.iload_n 2, 1) := by decide +kernel
theorem dX7_mayMove_109 : decode cX7_mayMove 109 = .ok (.aload_n 0, 1) := by decide +kernel
theorem dX7_mayMove_110 : decode cX7_mayMove 110 = .ok (.getfield 29, 3) := by decide +kernel
theorem dX7_mayMove_113 : decode cX7_mayMove 113 = .ok (.getfield 159, 3) := by decide +kernel
theorem dX7_mayMove_116 : decode cX7_mayMove 116 = .ok (.iload_n 1, 1) := by decide +kernel
theorem dX7_mayMove_117 : decode cX7_mayMove 117 = .ok (.iaload, 1) := by decide +kernel
theorem dX7_mayMove_118 : decode cX7_mayMove 118 = .ok (.invokevirtual 203, 3) := by decide +kernel
theorem dX7_mayMove_121 : decode cX7_mayMove 121 = .ok (.ifCond .eq 7, 3) := by decide +kernel
theorem dX7_mayMove_124 : decode cX7_mayMove 124 = .ok (.iconst 1, 1) := by decide +kernel
theorem dX7_mayMove_125 : decode cX7_mayMove 125 = .ok (.goto 4, 3) := by decide +kernel
theorem dX7_mayMove_128 : decode cX7_mayMove 128 = .ok (.iconst 0, 1) := by decide +kernel
theorem dX7_mayMove_129 : decode cX7_mayMove 129 = .ok (.ireturn, 1) := by decide +kernel
theorem dX7_mayMoveKind_0 : decode cX7_mayMoveKind 0 = .ok (.iload_n 1, 1) := by decide +kernel
theorem dX7_mayMoveKind_1 : decode cX7_mayMoveKind 1 = .ok (.tableswitch 137 0 5 #[39, 66, 93, 127, 119, 127], 39) := by decide +kernel
theorem dX7_mayMoveKind_40 : decode cX7_mayMoveKind 40 = .ok (.aload_n 0, 1) := by decide +kernel
theorem dX7_mayMoveKind_41 : decode cX7_mayMoveKind 41 = .ok (.getfield 54, 3) := by decide +kernel
theorem dX7_mayMoveKind_44 : decode cX7_mayMoveKind 44 = .ok (.getfield 137, 3) := by decide +kernel
theorem dX7_mayMoveKind_47 : decode cX7_mayMoveKind 47 = .ok (.ifCond .ne 18, 3) := by decide +kernel
theorem dX7_mayMoveKind_50 : decode cX7_mayMoveKind 50 = .ok (.iload_n 2, 1) := by decide +kernel
theorem dX7_mayMoveKind_51 : decode cX7_mayMoveKind 51 = .ok (.iconst 1, 1) := by decide +kernel
theorem dX7_mayMoveKind_52 : decode cX7_mayMoveKind 52 = .ok (.if_icmp .lt 13, 3) := by decide +kernel
theorem dX7_mayMoveKind_55 : decode cX7_mayMoveKind 55 = .ok (.iload_n 2, 1) := by decide +kernel
theorem dX7_mayMoveKind_56 : decode cX7_mayMoveKind 56 = .ok (.bipush 20, 2) := by decide +kernel
theorem dX7_mayMoveKind_58 : decode cX7_mayMoveKind 58 = .ok (.if_icmp .gt 7, 3) := by decide +kernel
theorem dX7_mayMoveKind_61 : decode cX7_mayMoveKind 61 = .ok (.iconst 1, 1) := by decide +kernel
theorem dX7_mayMoveKind_62 : decode cX7_mayMoveKind 62 = .ok (.goto 4, 3) := by decide +kernel
theorem dX7_mayMoveKind_65 : decode cX7_mayMoveKind 65 = .ok (.iconst 0, 1) := by decide +kernel
theorem dX7_mayMoveKind_66 : decode cX7_mayMoveKind 66 = .ok (.ireturn, 1) := by decide +kernel
theorem dX7_mayMoveKind_67 : decode cX7_mayMoveKind 67 = .ok (.aload_n 0, 1) := by decide +kernel
theorem dX7_mayMoveKind_68 : decode cX7_mayMoveKind 68 = .ok (.getfield 54, 3) := by decide +kernel
theorem dX7_mayMoveKind_71 : decode cX7_mayMoveKind 71 = .ok (.getfield 137, 3) := by decide +kernel
theorem dX7_mayMoveKind_74 : decode cX7_mayMoveKind 74 = .ok (.ifCond .eq 18, 3) := by decide +kernel
theorem dX7_mayMoveKind_77 : decode cX7_mayMoveKind 77 = .ok (.aload_n 0, 1) := by decide +kernel
theorem dX7_mayMoveKind_78 : decode cX7_mayMoveKind 78 = .ok (.getfield 54, 3) := by decide +kernel
theorem dX7_mayMoveKind_81 : decode cX7_mayMoveKind 81 = .ok (.iload_n 2, 1) := by decide +kernel
theorem dX7_mayMoveKind_82 : decode cX7_mayMoveKind 82 = .ok (.invokevirtual 206, 3) := by decide +kernel
theorem dX7_mayMoveKind_85 : decode cX7_mayMoveKind 85 = .ok (.ifCond .eq 7, 3) := by decide +kernel
theorem dX7_mayMoveKind_88 : decode cX7_mayMoveKind 88 = .ok (.iconst 1, 1) := by decide +kernel
theorem dX7_mayMoveKind_89 : decode cX7_mayMoveKind 89 = .ok (.goto 4, 3) := by decide +kernel
theorem dX7_mayMoveKind_92 : decode cX7_mayMoveKind 92 = .ok (.iconst 0, 1) := by decide +kernel
theorem dX7_mayMoveKind_93 : decode cX7_mayMoveKind 93 = .ok (.ireturn, 1) := by decide +kernel
theorem dX7_mayMoveKind_94 : decode cX7_mayMoveKind 94 = .ok (.aload_n 0, 1) := by decide +kernel
theorem dX7_mayMoveKind_95 : decode cX7_mayMoveKind 95 = .ok (.getfield 54, 3) := by decide +kernel
theorem dX7_mayMoveKind_98 : decode cX7_mayMoveKind 98 = .ok (.getfield 137, 3) := by decide +kernel
theorem dX7_mayMoveKind_101 : decode cX7_mayMoveKind 101 = .ok (.ifCond .eq 17, 3) := by decide +kernel
theorem dX7_mayMoveKind_104 : decode cX7_mayMoveKind 104 = .ok (.aload_n 0, 1) := by decide +kernel
theorem dX7_mayMoveKind_105 : decode cX7_mayMoveKind 105 = .ok (.getfield 47, 3) := by decide +kernel
theorem dX7_mayMoveKind_108 : decode cX7_mayMoveKind 108 = .ok (.getfield 64, 3) := by decide +kernel
theorem dX7_mayMoveKind_111 : decode cX7_mayMoveKind 111 = .ok (.ifCond .le 7, 3) := by decide +kernel
theorem dX7_mayMoveKind_114 : decode cX7_mayMoveKind 114 = .ok (.iconst 1, 1) := by decide +kernel
theorem dX7_mayMoveKind_115 : decode cX7_mayMoveKind 115 = .ok (.goto 4, 3) := by decide +kernel
theorem dX7_mayMoveKind_118 : decode cX7_mayMoveKind 118 = .ok (.iconst 0, 1) := by decide +kernel
theorem dX7_mayMoveKind_119 : decode cX7_mayMoveKind 119 = .ok (.ireturn, 1) := by decide +kernel
theorem dX7_mayMoveKind_120 : decode cX7_mayMoveKind 120 = .ok (.aload_n 0, 1) := by decide +kernel
theorem dX7_mayMoveKind_121 : decode cX7_mayMoveKind 121 = .ok (.getfield 54, 3) := by decide +kernel
theorem dX7_mayMoveKind_124 : decode cX7_mayMoveKind 124 = .ok (.getfield 137, 3) := by decide +kernel
theorem dX7_mayMoveKind_127 : decode cX7_mayMoveKind 127 = .ok (.ireturn, 1) := by decide +kernel
theorem dX7_mayMoveKind_128 : decode cX7_mayMoveKind 128 = .ok (.iload_n 2, 1) := by decide +kernel
theorem dX7_mayMoveKind_129 : decode cX7_mayMoveKind 129 = .ok (.ifCond .le 7, 3) := by decide +kernel
theorem dX7_mayMoveKind_132 : decode cX7_mayMoveKind 132 = .ok (.iconst 1, 1) := by decide +kernel
theorem dX7_mayMoveKind_133 : decode cX7_mayMoveKind 133 = .ok (.goto 4, 3) := by decide +kernel
theorem dX7_mayMoveKind_136 : decode cX7_mayMoveKind 136 = .ok (.iconst 0, 1) := by decide +kernel
theorem dX7_mayMoveKind_137 : decode cX7_mayMoveKind 137 = .ok (.ireturn, 1) := by decide +kernel
theorem dX7_mayMoveKind_138 : decode cX7_mayMoveKind 138 = .ok (.iconst 1, 1) := by decide +kernel
theorem dX7_mayMoveKind_139 : decode cX7_mayMoveKind 139 = .ok (.ireturn, 1) := by decide +kernel
theorem dX7_mayAppeal_0 : decode cX7_mayAppeal 0 = .ok (.aload_n 0, 1) := by decide +kernel
theorem dX7_mayAppeal_1 : decode cX7_mayAppeal 1 = .ok (.aload_n 0, 1) := by decide +kernel
theorem dX7_mayAppeal_2 : decode cX7_mayAppeal 2 = .ok (.getfield 74, 3) := by decide +kernel
theorem dX7_mayAppeal_5 : decode cX7_mayAppeal 5 = .ok (.invokevirtual 120, 3) := by decide +kernel
theorem dX7_mayAppeal_8 : decode cX7_mayAppeal 8 = .ok (.ifCond .eq 19, 3) := by decide +kernel
theorem dX7_mayAppeal_11 : decode cX7_mayAppeal 11 = .ok (.aload_n 0, 1) := by decide +kernel
theorem dX7_mayAppeal_12 : decode cX7_mayAppeal 12 = .ok (.getfield 22, 3) := by decide +kernel
theorem dX7_mayAppeal_15 : decode cX7_mayAppeal 15 = .ok (.aload_n 0, 1) := by decide +kernel
theorem dX7_mayAppeal_16 : decode cX7_mayAppeal 16 = .ok (.getfield 74, 3) := by decide +kernel
theorem dX7_mayAppeal_19 : decode cX7_mayAppeal 19 = .ok (.baload, 1) := by decide +kernel
theorem dX7_mayAppeal_20 : decode cX7_mayAppeal 20 = .ok (.ifCond .ne 7, 3) := by decide +kernel
theorem dX7_mayAppeal_23 : decode cX7_mayAppeal 23 = .ok (.iconst 1, 1) := by decide +kernel
theorem dX7_mayAppeal_24 : decode cX7_mayAppeal 24 = .ok (.goto 4, 3) := by decide +kernel
theorem dX7_mayAppeal_27 : decode cX7_mayAppeal 27 = .ok (.iconst 0, 1) := by decide +kernel
theorem dX7_mayAppeal_28 : decode cX7_mayAppeal 28 = .ok (.ireturn, 1) := by decide +kernel
theorem dX7_hasOther_0 : decode cX7_hasOther 0 = .ok (.iload_n 2, 1) := by decide +kernel
theorem dX7_hasOther_1 : decode cX7_hasOther 1 = .ok (.ifCond .ne 5, 3) := by decide +kernel
theorem dX7_hasOther_4 : decode cX7_hasOther 4 = .ok (.iconst 1, 1) := by decide +kernel
theorem dX7_hasOther_5 : decode cX7_hasOther 5 = .ok (.ireturn, 1) := by decide +kernel
theorem dX7_hasOther_6 : decode cX7_hasOther 6 = .ok (.iload_n 2, 1) := by decide +kernel
theorem dX7_hasOther_7 : decode cX7_hasOther 7 = .ok (.bipush 6, 2) := by decide +kernel
theorem dX7_hasOther_9 : decode cX7_hasOther 9 = .ok (.if_icmp .eq 5, 3) := by decide +kernel
theorem dX7_hasOther_12 : decode cX7_hasOther 12 = .ok (.iconst 0, 1) := by decide +kernel
theorem dX7_hasOther_13 : decode cX7_hasOther 13 = .ok (.ireturn, 1) := by decide +kernel
theorem dX7_hasOther_14 : decode cX7_hasOther 14 = .ok (.aload_n 0, 1) := by decide +kernel
theorem dX7_hasOther_15 : decode cX7_hasOther 15 = .ok (.getfield 29, 3) := by decide +kernel
theorem dX7_hasOther_18 : decode cX7_hasOther 18 = .ok (.getfield 115, 3) := by decide +kernel
theorem dX7_hasOther_21 : decode cX7_hasOther 21 = .ok (.iload_n 1, 1) := by decide +kernel
theorem dX7_hasOther_22 : decode cX7_hasOther 22 = .ok (.iaload, 1) := by decide +kernel
theorem dX7_hasOther_23 : decode cX7_hasOther 23 = .ok (.bipush 6, 2) := by decide +kernel
theorem dX7_hasOther_25 : decode cX7_hasOther 25 = .ok (.if_icmp .ne 38, 3) := by decide +kernel
theorem dX7_hasOther_28 : decode cX7_hasOther 28 = .ok (.aload_n 0, 1) := by decide +kernel
theorem dX7_hasOther_29 : decode cX7_hasOther 29 = .ok (.getfield 25, 3) := by decide +kernel
theorem dX7_hasOther_32 : decode cX7_hasOther 32 = .ok (.aload_n 0, 1) := by decide +kernel
theorem dX7_hasOther_33 : decode cX7_hasOther 33 = .ok (.getfield 29, 3) := by decide +kernel
theorem dX7_hasOther_36 : decode cX7_hasOther 36 = .ok (.getfield 165, 3) := by decide +kernel
theorem dX7_hasOther_39 : decode cX7_hasOther 39 = .ok (.iload_n 1, 1) := by decide +kernel
theorem dX7_hasOther_40 : decode cX7_hasOther 40 = .ok (.iaload, 1) := by decide +kernel
theorem dX7_hasOther_41 : decode cX7_hasOther 41 = .ok (.invokevirtual 187, 3) := by decide +kernel
theorem dX7_hasOther_44 : decode cX7_hasOther 44 = .ok (.ifCond .eq 17, 3) := by decide +kernel
theorem dX7_hasOther_47 : decode cX7_hasOther 47 = .ok (.aload_n 0, 1) := by decide +kernel
theorem dX7_hasOther_48 : decode cX7_hasOther 48 = .ok (.getfield 47, 3) := by decide +kernel
theorem dX7_hasOther_51 : decode cX7_hasOther 51 = .ok (.invokevirtual 190, 3) := by decide +kernel
theorem dX7_hasOther_54 : decode cX7_hasOther 54 = .ok (.ifCond .ne 7, 3) := by decide +kernel
theorem dX7_hasOther_57 : decode cX7_hasOther 57 = .ok (.iconst 1, 1) := by decide +kernel
theorem dX7_hasOther_58 : decode cX7_hasOther 58 = .ok (.goto 4, 3) := by decide +kernel
theorem dX7_hasOther_61 : decode cX7_hasOther 61 = .ok (.iconst 0, 1) := by decide +kernel
theorem dX7_hasOther_62 : decode cX7_hasOther 62 = .ok (.ireturn, 1) := by decide +kernel
theorem dX7_hasOther_63 : decode cX7_hasOther 63 = .ok (.aload_n 0, 1) := by decide +kernel
theorem dX7_hasOther_64 : decode cX7_hasOther 64 = .ok (.getfield 29, 3) := by decide +kernel
theorem dX7_hasOther_67 : decode cX7_hasOther 67 = .ok (.getfield 115, 3) := by decide +kernel
theorem dX7_hasOther_70 : decode cX7_hasOther 70 = .ok (.iload_n 1, 1) := by decide +kernel
theorem dX7_hasOther_71 : decode cX7_hasOther 71 = .ok (.iaload, 1) := by decide +kernel
theorem dX7_hasOther_72 : decode cX7_hasOther 72 = .ok (.iconst 5, 1) := by decide +kernel
theorem dX7_hasOther_73 : decode cX7_hasOther 73 = .ok (.if_icmp .ne 18, 3) := by decide +kernel
theorem dX7_hasOther_76 : decode cX7_hasOther 76 = .ok (.aload_n 0, 1) := by decide +kernel
theorem dX7_hasOther_77 : decode cX7_hasOther 77 = .ok (.getfield 38, 3) := by decide +kernel
theorem dX7_hasOther_80 : decode cX7_hasOther 80 = .ok (.getfield 131, 3) := by decide +kernel
theorem dX7_hasOther_83 : decode cX7_hasOther 83 = .ok (.iconst (-1), 1) := by decide +kernel
theorem dX7_hasOther_84 : decode cX7_hasOther 84 = .ok (.if_icmp .eq 7, 3) := by decide +kernel
theorem dX7_hasOther_87 : decode cX7_hasOther 87 = .ok (.iconst 1, 1) := by decide +kernel
theorem dX7_hasOther_88 : decode cX7_hasOther 88 = .ok (.goto 4, 3) := by decide +kernel
theorem dX7_hasOther_91 : decode cX7_hasOther 91 = .ok (.iconst 0, 1) := by decide +kernel
theorem dX7_hasOther_92 : decode cX7_hasOther 92 = .ok (.ireturn, 1) := by decide +kernel
theorem dX7_perform_0 : decode cX7_perform 0 = .ok (.aload_n 0, 1) := by decide +kernel
theorem dX7_perform_1 : decode cX7_perform 1 = .ok (.getfield 29, 3) := by decide +kernel
theorem dX7_perform_4 : decode cX7_perform 4 = .ok (.getfield 150, 3) := by decide +kernel
theorem dX7_perform_7 : decode cX7_perform 7 = .ok (.iload_n 1, 1) := by decide +kernel
theorem dX7_perform_8 : decode cX7_perform 8 = .ok (.iaload, 1) := by decide +kernel
theorem dX7_perform_9 : decode cX7_perform 9 = .ok (.istore_n 2, 1) := by decide +kernel
theorem dX7_perform_10 : decode cX7_perform 10 = .ok (.aload_n 0, 1) := by decide +kernel
theorem dX7_perform_11 : decode cX7_perform 11 = .ok (.getfield 29, 3) := by decide +kernel
theorem dX7_perform_14 : decode cX7_perform 14 = .ok (.getfield 115, 3) := by decide +kernel
theorem dX7_perform_17 : decode cX7_perform 17 = .ok (.iload_n 1, 1) := by decide +kernel
theorem dX7_perform_18 : decode cX7_perform 18 = .ok (.iaload, 1) := by decide +kernel
theorem dX7_perform_19 : decode cX7_perform 19 = .ok (.tableswitch 196 0 7 #[45, 60, 85, 96, 117, 133, 144, 186], 45) := by decide +kernel
theorem dX7_perform_64 : decode cX7_perform 64 = .ok (.aload_n 0, 1) := by decide +kernel
theorem dX7_perform_65 : decode cX7_perform 65 = .ok (.dup, 1) := by decide +kernel
theorem dX7_perform_66 : decode cX7_perform 66 = .ok (.getfield 77, 3) := by decide +kernel
theorem dX7_perform_69 : decode cX7_perform 69 = .ok (.iconst 1, 1) := by decide +kernel
theorem dX7_perform_70 : decode cX7_perform 70 = .ok (.iload_n 2, 1) := by decide +kernel
theorem dX7_perform_71 : decode cX7_perform 71 = .ok (.ishl, 1) := by decide +kernel
theorem dX7_perform_72 : decode cX7_perform 72 = .ok (.ior, 1) := by decide +kernel
theorem dX7_perform_73 : decode cX7_perform 73 = .ok (.putfield 77, 3) := by decide +kernel
theorem dX7_perform_76 : decode cX7_perform 76 = .ok (.goto 144, 3) := by decide +kernel
theorem dX7_perform_79 : decode cX7_perform 79 = .ok (.aload_n 0, 1) := by decide +kernel
theorem dX7_perform_80 : decode cX7_perform 80 = .ok (.dup, 1) := by decide +kernel
theorem dX7_perform_81 : decode cX7_perform 81 = .ok (.getfield 77, 3) := by decide +kernel
theorem dX7_perform_84 : decode cX7_perform 84 = .ok (.iconst 1, 1) := by decide +kernel
theorem dX7_perform_85 : decode cX7_perform 85 = .ok (.iload_n 2, 1) := by decide +kernel
theorem dX7_perform_86 : decode cX7_perform 86 = .ok (.ishl, 1) := by decide +kernel
theorem dX7_perform_87 : decode cX7_perform 87 = .ok (.iconst (-1), 1) := by decide +kernel
theorem dX7_perform_88 : decode cX7_perform 88 = .ok (.ixor, 1) := by decide +kernel
theorem dX7_perform_89 : decode cX7_perform 89 = .ok (.iand, 1) := by decide +kernel
theorem dX7_perform_90 : decode cX7_perform 90 = .ok (.putfield 77, 3) := by decide +kernel
theorem dX7_perform_93 : decode cX7_perform 93 = .ok (.aload_n 0, 1) := by decide +kernel
theorem dX7_perform_94 : decode cX7_perform 94 = .ok (.getfield 38, 3) := by decide +kernel
theorem dX7_perform_97 : decode cX7_perform 97 = .ok (.iload_n 2, 1) := by decide +kernel
theorem dX7_perform_98 : decode cX7_perform 98 = .ok (.invokevirtual 209, 3) := by decide +kernel
theorem dX7_perform_101 : decode cX7_perform 101 = .ok (.goto 119, 3) := by decide +kernel
theorem dX7_perform_104 : decode cX7_perform 104 = .ok (.aload_n 0, 1) := by decide +kernel
theorem dX7_perform_105 : decode cX7_perform 105 = .ok (.getfield 38, 3) := by decide +kernel
