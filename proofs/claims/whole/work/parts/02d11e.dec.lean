theorem dX10_beside_44 : decode cX10_beside 44 = .ok (.iload_n 2, 1) := by decide +kernel
theorem dX10_beside_45 : decode cX10_beside 45 = .ok (.invokevirtual 389, 3) := by decide +kernel
theorem dX10_beside_48 : decode cX10_beside 48 = .ok (.goto 65, 3) := by decide +kernel
theorem dX10_beside_51 : decode cX10_beside 51 = .ok (.iload_n 2, 1) := by decide +kernel
theorem dX10_beside_52 : decode cX10_beside 52 = .ok (.bipush 11, 2) := by decide +kernel
theorem dX10_beside_54 : decode cX10_beside 54 = .ok (.bipush 10, 2) := by decide +kernel
theorem dX10_beside_56 : decode cX10_beside 56 = .ok (.aload_n 0, 1) := by decide +kernel
theorem dX10_beside_57 : decode cX10_beside 57 = .ok (.getfield 259, 3) := by decide +kernel
theorem dX10_beside_60 : decode cX10_beside 60 = .ok (.iadd, 1) := by decide +kernel
theorem dX10_beside_61 : decode cX10_beside 61 = .ok (.invokestatic 184, 3) := by decide +kernel
theorem dX10_beside_64 : decode cX10_beside 64 = .ok (.ifCond .eq 17, 3) := by decide +kernel
theorem dX10_beside_67 : decode cX10_beside 67 = .ok (.aload_n 0, 1) := by decide +kernel
theorem dX10_beside_68 : decode cX10_beside 68 = .ok (.getfield 64, 3) := by decide +kernel
theorem dX10_beside_71 : decode cX10_beside 71 = .ok (.iconst 1, 1) := by decide +kernel
theorem dX10_beside_72 : decode cX10_beside 72 = .ok (.aaload, 1) := by decide +kernel
theorem dX10_beside_73 : decode cX10_beside 73 = .ok (.iload_n 2, 1) := by decide +kernel
theorem dX10_beside_74 : decode cX10_beside 74 = .ok (.bipush 11, 2) := by decide +kernel
theorem dX10_beside_76 : decode cX10_beside 76 = .ok (.isub, 1) := by decide +kernel
theorem dX10_beside_77 : decode cX10_beside 77 = .ok (.iaload, 1) := by decide +kernel
theorem dX10_beside_78 : decode cX10_beside 78 = .ok (.goto 35, 3) := by decide +kernel
theorem dX10_beside_81 : decode cX10_beside 81 = .ok (.iload_n 2, 1) := by decide +kernel
theorem dX10_beside_82 : decode cX10_beside 82 = .ok (.sipush 400, 3) := by decide +kernel
theorem dX10_beside_85 : decode cX10_beside 85 = .ok (.sipush 399, 3) := by decide +kernel
theorem dX10_beside_88 : decode cX10_beside 88 = .ok (.aload_n 0, 1) := by decide +kernel
theorem dX10_beside_89 : decode cX10_beside 89 = .ok (.getfield 299, 3) := by decide +kernel
theorem dX10_beside_92 : decode cX10_beside 92 = .ok (.iadd, 1) := by decide +kernel
theorem dX10_beside_93 : decode cX10_beside 93 = .ok (.invokestatic 184, 3) := by decide +kernel
theorem dX10_beside_96 : decode cX10_beside 96 = .ok (.ifCond .eq 16, 3) := by decide +kernel
theorem dX10_beside_99 : decode cX10_beside 99 = .ok (.aload_n 0, 1) := by decide +kernel
theorem dX10_beside_100 : decode cX10_beside 100 = .ok (.getfield 113, 3) := by decide +kernel
theorem dX10_beside_103 : decode cX10_beside 103 = .ok (.iload_n 2, 1) := by decide +kernel
theorem dX10_beside_104 : decode cX10_beside 104 = .ok (.sipush 400, 3) := by decide +kernel
theorem dX10_beside_107 : decode cX10_beside 107 = .ok (.isub, 1) := by decide +kernel
theorem dX10_beside_108 : decode cX10_beside 108 = .ok (.iaload, 1) := by decide +kernel
theorem dX10_beside_109 : decode cX10_beside 109 = .ok (.goto 4, 3) := by decide +kernel
theorem dX10_beside_112 : decode cX10_beside 112 = .ok (.iconst (-1), 1) := by decide +kernel
theorem dX10_beside_113 : decode cX10_beside 113 = .ok (.istore_n 3, 1) := by decide +kernel
theorem dX10_beside_114 : decode cX10_beside 114 = .ok (.aload_n 0, 1) := by decide +kernel
theorem dX10_beside_115 : decode cX10_beside 115 = .ok (.iconst 0, 1) := by decide +kernel
theorem dX10_beside_116 : decode cX10_beside 116 = .ok (.iconst (-1), 1) := by decide +kernel
theorem dX10_beside_117 : decode cX10_beside 117 = .ok (.invokevirtual 386, 3) := by decide +kernel
theorem dX10_beside_120 : decode cX10_beside 120 = .ok (.iload_n 3, 1) := by decide +kernel
theorem dX10_beside_121 : decode cX10_beside 121 = .ok (.ireturn, 1) := by decide +kernel
theorem dX10_ruling_0 : decode cX10_ruling 0 = .ok (.iload_n 1, 1) := by decide +kernel
theorem dX10_ruling_1 : decode cX10_ruling 1 = .ok (.iconst 0, 1) := by decide +kernel
theorem dX10_ruling_2 : decode cX10_ruling 2 = .ok (.aload_n 0, 1) := by decide +kernel
theorem dX10_ruling_3 : decode cX10_ruling 3 = .ok (.getfield 259, 3) := by decide +kernel
theorem dX10_ruling_6 : decode cX10_ruling 6 = .ok (.iconst 1, 1) := by decide +kernel
theorem dX10_ruling_7 : decode cX10_ruling 7 = .ok (.isub, 1) := by decide +kernel
theorem dX10_ruling_8 : decode cX10_ruling 8 = .ok (.invokestatic 184, 3) := by decide +kernel
theorem dX10_ruling_11 : decode cX10_ruling 11 = .ok (.ifCond .eq 14, 3) := by decide +kernel
theorem dX10_ruling_14 : decode cX10_ruling 14 = .ok (.aload_n 0, 1) := by decide +kernel
theorem dX10_ruling_15 : decode cX10_ruling 15 = .ok (.getfield 64, 3) := by decide +kernel
theorem dX10_ruling_18 : decode cX10_ruling 18 = .ok (.iconst 0, 1) := by decide +kernel
theorem dX10_ruling_19 : decode cX10_ruling 19 = .ok (.aaload, 1) := by decide +kernel
theorem dX10_ruling_20 : decode cX10_ruling 20 = .ok (.iload_n 1, 1) := by decide +kernel
theorem dX10_ruling_21 : decode cX10_ruling 21 = .ok (.iaload, 1) := by decide +kernel
theorem dX10_ruling_22 : decode cX10_ruling 22 = .ok (.goto 4, 3) := by decide +kernel
theorem dX10_ruling_25 : decode cX10_ruling 25 = .ok (.iconst (-1), 1) := by decide +kernel
theorem dX10_ruling_26 : decode cX10_ruling 26 = .ok (.ireturn, 1) := by decide +kernel
theorem dX10_passed_0 : decode cX10_passed 0 = .ok (.iload_n 1, 1) := by decide +kernel
theorem dX10_passed_1 : decode cX10_passed 1 = .ok (.iconst 0, 1) := by decide +kernel
theorem dX10_passed_2 : decode cX10_passed 2 = .ok (.aload_n 0, 1) := by decide +kernel
theorem dX10_passed_3 : decode cX10_passed 3 = .ok (.getfield 259, 3) := by decide +kernel
theorem dX10_passed_6 : decode cX10_passed 6 = .ok (.iconst 1, 1) := by decide +kernel
theorem dX10_passed_7 : decode cX10_passed 7 = .ok (.isub, 1) := by decide +kernel
theorem dX10_passed_8 : decode cX10_passed 8 = .ok (.invokestatic 184, 3) := by decide +kernel
theorem dX10_passed_11 : decode cX10_passed 11 = .ok (.ifCond .eq 14, 3) := by decide +kernel
theorem dX10_passed_14 : decode cX10_passed 14 = .ok (.aload_n 0, 1) := by decide +kernel
theorem dX10_passed_15 : decode cX10_passed 15 = .ok (.getfield 67, 3) := by decide +kernel
theorem dX10_passed_18 : decode cX10_passed 18 = .ok (.iconst 0, 1) := by decide +kernel
theorem dX10_passed_19 : decode cX10_passed 19 = .ok (.aaload, 1) := by decide +kernel
theorem dX10_passed_20 : decode cX10_passed 20 = .ok (.iload_n 1, 1) := by decide +kernel
theorem dX10_passed_21 : decode cX10_passed 21 = .ok (.iaload, 1) := by decide +kernel
theorem dX10_passed_22 : decode cX10_passed 22 = .ok (.goto 4, 3) := by decide +kernel
theorem dX10_passed_25 : decode cX10_passed 25 = .ok (.iconst (-1), 1) := by decide +kernel
theorem dX10_passed_26 : decode cX10_passed 26 = .ok (.ireturn, 1) := by decide +kernel
theorem dX10_state_0 : decode cX10_state 0 = .ok (.iload_n 1, 1) := by decide +kernel
theorem dX10_state_1 : decode cX10_state 1 = .ok (.tableswitch 133 0 10 #[59, 64, 69, 74, 79, 84, 89, 94, 107, 123, 128], 59) := by decide +kernel
theorem dX10_state_60 : decode cX10_state 60 = .ok (.aload_n 0, 1) := by decide +kernel
theorem dX10_state_61 : decode cX10_state 61 = .ok (.invokevirtual 313, 3) := by decide +kernel
theorem dX10_state_64 : decode cX10_state 64 = .ok (.ireturn, 1) := by decide +kernel
theorem dX10_state_65 : decode cX10_state 65 = .ok (.aload_n 0, 1) := by decide +kernel
theorem dX10_state_66 : decode cX10_state 66 = .ok (.getfield 268, 3) := by decide +kernel
theorem dX10_state_69 : decode cX10_state 69 = .ok (.ireturn, 1) := by decide +kernel
theorem dX10_state_70 : decode cX10_state 70 = .ok (.aload_n 0, 1) := by decide +kernel
theorem dX10_state_71 : decode cX10_state 71 = .ok (.getfield 271, 3) := by decide +kernel
theorem dX10_state_74 : decode cX10_state 74 = .ok (.ireturn, 1) := by decide +kernel
theorem dX10_state_75 : decode cX10_state 75 = .ok (.aload_n 0, 1) := by decide +kernel
theorem dX10_state_76 : decode cX10_state 76 = .ok (.getfield 274, 3) := by decide +kernel
theorem dX10_state_79 : decode cX10_state 79 = .ok (.ireturn, 1) := by decide +kernel
theorem dX10_state_80 : decode cX10_state 80 = .ok (.aload_n 0, 1) := by decide +kernel
theorem dX10_state_81 : decode cX10_state 81 = .ok (.getfield 277, 3) := by decide +kernel
theorem dX10_state_84 : decode cX10_state 84 = .ok (.ireturn, 1) := by decide +kernel
theorem dX10_state_85 : decode cX10_state 85 = .ok (.aload_n 0, 1) := by decide +kernel
theorem dX10_state_86 : decode cX10_state 86 = .ok (.getfield 293, 3) := by decide +kernel
theorem dX10_state_89 : decode cX10_state 89 = .ok (.ireturn, 1) := by decide +kernel
theorem dX10_state_90 : decode cX10_state 90 = .ok (.aload_n 0, 1) := by decide +kernel
theorem dX10_state_91 : decode cX10_state 91 = .ok (.getfield 283, 3) := by decide +kernel
theorem dX10_state_94 : decode cX10_state 94 = .ok (.ireturn, 1) := by decide +kernel
theorem dX10_state_95 : decode cX10_state 95 = .ok (.aload_n 0, 1) := by decide +kernel
theorem dX10_state_96 : decode cX10_state 96 = .ok (.getfield 290, 3) := by decide +kernel
theorem dX10_state_99 : decode cX10_state 99 = .ok (.ifCond .eq 7, 3) := by decide +kernel
theorem dX10_state_102 : decode cX10_state 102 = .ok (.iconst 1, 1) := by decide +kernel
theorem dX10_state_103 : decode cX10_state 103 = .ok (.goto 4, 3) := by decide +kernel
theorem dX10_state_106 : decode cX10_state 106 = .ok (.iconst 0, 1) := by decide +kernel
theorem dX10_state_107 : decode cX10_state 107 = .ok (.ireturn, 1) := by decide +kernel
theorem dX10_state_108 : decode cX10_state 108 = .ok (.aload_n 0, 1) := by decide +kernel
theorem dX10_state_109 : decode cX10_state 109 = .ok (.getfield 296, 3) := by decide +kernel
theorem dX10_state_112 : decode cX10_state 112 = .ok (.ifCond .eq 10, 3) := by decide +kernel
theorem dX10_state_115 : decode cX10_state 115 = .ok (.aload_n 0, 1) := by decide +kernel
theorem dX10_state_116 : decode cX10_state 116 = .ok (.getfield 299, 3) := by decide +kernel
theorem dX10_state_119 : decode cX10_state 119 = .ok (.goto 4, 3) := by decide +kernel
theorem dX10_state_122 : decode cX10_state 122 = .ok (.iconst (-1), 1) := by decide +kernel
theorem dX10_state_123 : decode cX10_state 123 = .ok (.ireturn, 1) := by decide +kernel
theorem dX10_state_124 : decode cX10_state 124 = .ok (.aload_n 0, 1) := by decide +kernel
theorem dX10_state_125 : decode cX10_state 125 = .ok (.getfield 280, 3) := by decide +kernel
theorem dX10_state_128 : decode cX10_state 128 = .ok (.ireturn, 1) := by decide +kernel
theorem dX10_state_129 : decode cX10_state 129 = .ok (.aload_n 0, 1) := by decide +kernel
theorem dX10_state_130 : decode cX10_state 130 = .ok (.getfield 259, 3) := by decide +kernel
theorem dX10_state_133 : decode cX10_state 133 = .ok (.ireturn, 1) := by decide +kernel
theorem dX10_state_134 : decode cX10_state 134 = .ok (.iconst (-1), 1) := by decide +kernel
theorem dX10_state_135 : decode cX10_state 135 = .ok (.ireturn, 1) := by decide +kernel
theorem dX10_pending_0 : decode cX10_pending 0 = .ok (.iload_n 1, 1) := by decide +kernel
theorem dX10_pending_1 : decode cX10_pending 1 = .ok (.iconst 0, 1) := by decide +kernel
theorem dX10_pending_2 : decode cX10_pending 2 = .ok (.aload_n 0, 1) := by decide +kernel
theorem dX10_pending_3 : decode cX10_pending 3 = .ok (.getfield 293, 3) := by decide +kernel
theorem dX10_pending_6 : decode cX10_pending 6 = .ok (.iconst 1, 1) := by decide +kernel
theorem dX10_pending_7 : decode cX10_pending 7 = .ok (.isub, 1) := by decide +kernel
theorem dX10_pending_8 : decode cX10_pending 8 = .ok (.invokestatic 184, 3) := by decide +kernel
theorem dX10_pending_11 : decode cX10_pending 11 = .ok (.ifCond .ne 5, 3) := by decide +kernel
theorem dX10_pending_14 : decode cX10_pending 14 = .ok (.iconst (-1), 1) := by decide +kernel
theorem dX10_pending_15 : decode cX10_pending 15 = .ok (.ireturn, 1) := by decide +kernel
theorem dX10_pending_16 : decode cX10_pending 16 = .ok (.iload_n 2, 1) := by decide +kernel
theorem dX10_pending_17 : decode cX10_pending 17 = .ok (.tableswitch 97 0 5 #[39, 46, 53, 60, 67, 82], 39) := by decide +kernel
theorem dX10_pending_56 : decode cX10_pending 56 = .ok (.aload_n 0, 1) := by decide +kernel
theorem dX10_pending_57 : decode cX10_pending 57 = .ok (.getfield 86, 3) := by decide +kernel
theorem dX10_pending_60 : decode cX10_pending 60 = .ok (.iload_n 1, 1) := by decide +kernel
theorem dX10_pending_61 : decode cX10_pending 61 = .ok (.iaload, 1) := by decide +kernel
theorem dX10_pending_62 : decode cX10_pending 62 = .ok (.ireturn, 1) := by decide +kernel
theorem dX10_pending_63 : decode cX10_pending 63 = .ok (.aload_n 0, 1) := by decide +kernel
theorem dX10_pending_64 : decode cX10_pending 64 = .ok (.getfield 89, 3) := by decide +kernel
theorem dX10_pending_67 : decode cX10_pending 67 = .ok (.iload_n 1, 1) := by decide +kernel
theorem dX10_pending_68 : decode cX10_pending 68 = .ok (.iaload, 1) := by decide +kernel
theorem dX10_pending_69 : decode cX10_pending 69 = .ok (.ireturn, 1) := by decide +kernel
theorem dX10_pending_70 : decode cX10_pending 70 = .ok (.aload_n 0, 1) := by decide +kernel
theorem dX10_pending_71 : decode cX10_pending 71 = .ok (.getfield 92, 3) := by decide +kernel
theorem dX10_pending_74 : decode cX10_pending 74 = .ok (.iload_n 1, 1) := by decide +kernel
theorem dX10_pending_75 : decode cX10_pending 75 = .ok (.iaload, 1) := by decide +kernel
theorem dX10_pending_76 : decode cX10_pending 76 = .ok (.ireturn, 1) := by decide +kernel
theorem dX10_pending_77 : decode cX10_pending 77 = .ok (.aload_n 0, 1) := by decide +kernel
theorem dX10_pending_78 : decode cX10_pending 78 = .ok (.getfield 95, 3) := by decide +kernel
theorem dX10_pending_81 : decode cX10_pending 81 = .ok (.iload_n 1, 1) := by decide +kernel
theorem dX10_pending_82 : decode cX10_pending 82 = .ok (.iaload, 1) := by decide +kernel
theorem dX10_pending_83 : decode cX10_pending 83 = .ok (.ireturn, 1) := by decide +kernel
theorem dX10_pending_84 : decode cX10_pending 84 = .ok (.aload_n 0, 1) := by decide +kernel
theorem dX10_pending_85 : decode cX10_pending 85 = .ok (.getfield 101, 3) := by decide +kernel
theorem dX10_pending_88 : decode cX10_pending 88 = .ok (.iload_n 1, 1) := by decide +kernel
theorem dX10_pending_89 : decode cX10_pending 89 = .ok (.baload, 1) := by decide +kernel
theorem dX10_pending_90 : decode cX10_pending 90 = .ok (.ifCond .eq 7, 3) := by decide +kernel
theorem dX10_pending_93 : decode cX10_pending 93 = .ok (.iconst 1, 1) := by decide +kernel
theorem dX10_pending_94 : decode cX10_pending 94 = .ok (.goto 4, 3) := by decide +kernel
theorem dX10_pending_97 : decode cX10_pending 97 = .ok (.iconst 0, 1) := by decide +kernel
theorem dX10_pending_98 : decode cX10_pending 98 = .ok (.ireturn, 1) := by decide +kernel
theorem dX10_pending_99 : decode cX10_pending 99 = .ok (.aload_n 0, 1) := by decide +kernel
theorem dX10_pending_100 : decode cX10_pending 100 = .ok (.getfield 104, 3) := by decide +kernel
theorem dX10_pending_103 : decode cX10_pending 103 = .ok (.iload_n 1, 1) := by decide +kernel
theorem dX10_pending_104 : decode cX10_pending 104 = .ok (.baload, 1) := by decide +kernel
theorem dX10_pending_105 : decode cX10_pending 105 = .ok (.ifCond .eq 7, 3) := by decide +kernel
theorem dX10_pending_108 : decode cX10_pending 108 = .ok (.iconst 1, 1) := by decide +kernel
theorem dX10_pending_109 : decode cX10_pending 109 = .ok (.goto 4, 3) := by decide +kernel
theorem dX10_pending_112 : decode cX10_pending 112 = .ok (.iconst 0, 1) := by decide +kernel
theorem dX10_pending_113 : decode cX10_pending 113 = .ok (.ireturn, 1) := by decide +kernel
theorem dX10_pending_114 : decode cX10_pending 114 = .ok (.iconst (-1), 1) := by decide +kernel
theorem dX10_pending_115 : decode cX10_pending 115 = .ok (.ireturn, 1) := by decide +kernel
theorem dX10_clause__0 : decode cX10_clause_ 0 = .ok (.aload_n 0, 1) := by decide +kernel
theorem dX10_clause__1 : decode cX10_clause_ 1 = .ok (.getfield 296, 3) := by decide +kernel
theorem dX10_clause__4 : decode cX10_clause_ 4 = .ok (.ifCond .eq 17, 3) := by decide +kernel
theorem dX10_clause__7 : decode cX10_clause_ 7 = .ok (.iload_n 1, 1) := by decide +kernel
theorem dX10_clause__8 : decode cX10_clause_ 8 = .ok (.iconst 0, 1) := by decide +kernel
theorem dX10_clause__9 : decode cX10_clause_ 9 = .ok (.aload_n 0, 1) := by decide +kernel
theorem dX10_clause__10 : decode cX10_clause_ 10 = .ok (.getfield 299, 3) := by decide +kernel
theorem dX10_clause__13 : decode cX10_clause_ 13 = .ok (.iconst 1, 1) := by decide +kernel
theorem dX10_clause__14 : decode cX10_clause_ 14 = .ok (.isub, 1) := by decide +kernel
theorem dX10_clause__15 : decode cX10_clause_ 15 = .ok (.invokestatic 184, 3) := by decide +kernel
theorem dX10_clause__18 : decode cX10_clause_ 18 = .ok (.ifCond .ne 7, 3) := by decide +kernel
theorem dX10_clause__21 : decode cX10_clause_ 21 = .ok (.iconst (-1), 1) := by decide +kernel
theorem dX10_clause__22 : decode cX10_clause_ 22 = .ok (.goto 31, 3) := by decide +kernel
theorem dX10_clause__25 : decode cX10_clause_ 25 = .ok (.iload_n 2, 1) := by decide +kernel
theorem dX10_clause__26 : decode cX10_clause_ 26 = .ok (.ifCond .ne 12, 3) := by decide +kernel
theorem dX10_clause__29 : decode cX10_clause_ 29 = .ok (.aload_n 0, 1) := by decide +kernel
theorem dX10_clause__30 : decode cX10_clause_ 30 = .ok (.getfield 110, 3) := by decide +kernel
theorem dX10_clause__33 : decode cX10_clause_ 33 = .ok (.iload_n 1, 1) := by decide +kernel
theorem dX10_clause__34 : decode cX10_clause_ 34 = .ok (.iaload, 1) := by decide +kernel
theorem dX10_clause__35 : decode cX10_clause_ 35 = .ok (.goto 18, 3) := by decide +kernel
theorem dX10_clause__38 : decode cX10_clause_ 38 = .ok (.iload_n 2, 1) := by decide +kernel
theorem dX10_clause__39 : decode cX10_clause_ 39 = .ok (.iconst 1, 1) := by decide +kernel
theorem dX10_clause__40 : decode cX10_clause_ 40 = .ok (.if_icmp .ne 12, 3) := by decide +kernel
theorem dX10_clause__43 : decode cX10_clause_ 43 = .ok (.aload_n 0, 1) := by decide +kernel
theorem dX10_clause__44 : decode cX10_clause_ 44 = .ok (.getfield 113, 3) := by decide +kernel
theorem dX10_clause__47 : decode cX10_clause_ 47 = .ok (.iload_n 1, 1) := by decide +kernel
theorem dX10_clause__48 : decode cX10_clause_ 48 = .ok (.iaload, 1) := by decide +kernel
theorem dX10_clause__49 : decode cX10_clause_ 49 = .ok (.goto 4, 3) := by decide +kernel
theorem dX10_clause__52 : decode cX10_clause_ 52 = .ok (.iconst (-1), 1) := by decide +kernel
theorem dX10_clause__53 : decode cX10_clause_ 53 = .ok (.ireturn, 1) := by decide +kernel
theorem dX10_place_0 : decode cX10_place 0 = .ok (.aload_n 0, 1) := by decide +kernel
theorem dX10_place_1 : decode cX10_place 1 = .ok (.iload_n 1, 1) := by decide +kernel
theorem dX10_place_2 : decode cX10_place 2 = .ok (.invokevirtual 333, 3) := by decide +kernel
theorem dX10_place_5 : decode cX10_place 5 = .ok (.ireturn, 1) := by decide +kernel
theorem dX10_speeches_0 : decode cX10_speeches 0 = .ok (.iload_n 1, 1) := by decide +kernel
theorem dX10_speeches_1 : decode cX10_speeches 1 = .ok (.iconst 0, 1) := by decide +kernel
theorem dX10_speeches_2 : decode cX10_speeches 2 = .ok (.bipush 23, 2) := by decide +kernel
theorem dX10_speeches_4 : decode cX10_speeches 4 = .ok (.invokestatic 184, 3) := by decide +kernel
theorem dX10_speeches_7 : decode cX10_speeches 7 = .ok (.ifCond .eq 12, 3) := by decide +kernel
theorem dX10_speeches_10 : decode cX10_speeches 10 = .ok (.aload_n 0, 1) := by decide +kernel
theorem dX10_speeches_11 : decode cX10_speeches 11 = .ok (.getfield 83, 3) := by decide +kernel
theorem dX10_speeches_14 : decode cX10_speeches 14 = .ok (.iload_n 1, 1) := by decide +kernel
theorem dX10_speeches_15 : decode cX10_speeches 15 = .ok (.iaload, 1) := by decide +kernel
theorem dX10_speeches_16 : decode cX10_speeches 16 = .ok (.goto 4, 3) := by decide +kernel
theorem dX10_speeches_19 : decode cX10_speeches 19 = .ok (.iconst (-1), 1) := by decide +kernel
theorem dX10_speeches_20 : decode cX10_speeches 20 = .ok (.ireturn, 1) := by decide +kernel
theorem dX10_waits_0 : decode cX10_waits 0 = .ok (.iload_n 1, 1) := by decide +kernel
theorem dX10_waits_1 : decode cX10_waits 1 = .ok (.iconst 0, 1) := by decide +kernel
theorem dX10_waits_2 : decode cX10_waits 2 = .ok (.aload_n 0, 1) := by decide +kernel
theorem dX10_waits_3 : decode cX10_waits 3 = .ok (.getfield 268, 3) := by decide +kernel
theorem dX10_waits_6 : decode cX10_waits 6 = .ok (.iconst 1, 1) := by decide +kernel
theorem dX10_waits_7 : decode cX10_waits 7 = .ok (.isub, 1) := by decide +kernel
theorem dX10_waits_8 : decode cX10_waits 8 = .ok (.invokestatic 184, 3) := by decide +kernel
theorem dX10_waits_11 : decode cX10_waits 11 = .ok (.ifCond .ne 5, 3) := by decide +kernel
theorem dX10_waits_14 : decode cX10_waits 14 = .ok (.iconst (-1), 1) := by decide +kernel
theorem dX10_waits_15 : decode cX10_waits 15 = .ok (.ireturn, 1) := by decide +kernel
theorem dX10_waits_16 : decode cX10_waits 16 = .ok (.iconst 0, 1) := by decide +kernel
theorem dX10_waits_17 : decode cX10_waits 17 = .ok (.istore_n 2, 1) := by decide +kernel
theorem dX10_waits_18 : decode cX10_waits 18 = .ok (.iload_n 2, 1) := by decide +kernel
theorem dX10_waits_19 : decode cX10_waits 19 = .ok (.bipush 24, 2) := by decide +kernel
theorem dX10_waits_21 : decode cX10_waits 21 = .ok (.if_icmp .ge 45, 3) := by decide +kernel
theorem dX10_waits_24 : decode cX10_waits 24 = .ok (.aload_n 0, 1) := by decide +kernel
theorem dX10_waits_25 : decode cX10_waits 25 = .ok (.getfield 125, 3) := by decide +kernel
theorem dX10_waits_28 : decode cX10_waits 28 = .ok (.iload_n 2, 1) := by decide +kernel
theorem dX10_waits_29 : decode cX10_waits 29 = .ok (.aload_n 0, 1) := by decide +kernel
theorem dX10_waits_30 : decode cX10_waits 30 = .ok (.getfield 83, 3) := by decide +kernel
theorem dX10_waits_33 : decode cX10_waits 33 = .ok (.iload_n 2, 1) := by decide +kernel
theorem dX10_waits_34 : decode cX10_waits 34 = .ok (.iaload, 1) := by decide +kernel
theorem dX10_waits_35 : decode cX10_waits 35 = .ok (.iastore, 1) := by decide +kernel
theorem dX10_waits_36 : decode cX10_waits 36 = .ok (.aload_n 0, 1) := by decide +kernel
theorem dX10_waits_37 : decode cX10_waits 37 = .ok (.getfield 122, 3) := by decide +kernel
theorem dX10_waits_40 : decode cX10_waits 40 = .ok (.iload_n 2, 1) := by decide +kernel
theorem dX10_waits_41 : decode cX10_waits 41 = .ok (.iload_n 2, 1) := by decide +kernel
theorem dX10_waits_42 : decode cX10_waits 42 = .ok (.aload_n 0, 1) := by decide +kernel
theorem dX10_waits_43 : decode cX10_waits 43 = .ok (.getfield 268, 3) := by decide +kernel
theorem dX10_waits_46 : decode cX10_waits 46 = .ok (.if_icmp .ge 12, 3) := by decide +kernel
theorem dX10_waits_49 : decode cX10_waits 49 = .ok (.aload_n 0, 1) := by decide +kernel
theorem dX10_waits_50 : decode cX10_waits 50 = .ok (.getfield 80, 3) := by decide +kernel
theorem dX10_waits_53 : decode cX10_waits 53 = .ok (.iload_n 2, 1) := by decide +kernel
theorem dX10_waits_54 : decode cX10_waits 54 = .ok (.iaload, 1) := by decide +kernel
theorem dX10_waits_55 : decode cX10_waits 55 = .ok (.goto 4, 3) := by decide +kernel
theorem dX10_waits_58 : decode cX10_waits 58 = .ok (.iconst (-1), 1) := by decide +kernel
theorem dX10_waits_59 : decode cX10_waits 59 = .ok (.iastore, 1) := by decide +kernel
theorem dX10_waits_60 : decode cX10_waits 60 = .ok (.iinc 2 1, 3) := by decide +kernel
theorem dX10_waits_63 : decode cX10_waits 63 = .ok (.goto (-45), 3) := by decide +kernel
theorem dX10_waits_66 : decode cX10_waits 66 = .ok (.aload_n 0, 1) := by decide +kernel
theorem dX10_waits_67 : decode cX10_waits 67 = .ok (.getfield 268, 3) := by decide +kernel
theorem dX10_waits_70 : decode cX10_waits 70 = .ok (.istore_n 2, 1) := by decide +kernel
theorem dX10_waits_71 : decode cX10_waits 71 = .ok (.iconst (-1), 1) := by decide +kernel
theorem dX10_waits_72 : decode cX10_waits 72 = .ok (.istore_n 3, 1) := by decide +kernel
theorem dX10_waits_73 : decode cX10_waits 73 = .ok (.iconst 0, 1) := by decide +kernel
theorem dX10_waits_74 : decode cX10_waits 74 = .ok (.istore 4, 2) := by decide +kernel
theorem dX10_waits_76 : decode cX10_waits 76 = .ok (.iload 4, 2) := by decide +kernel
theorem dX10_waits_78 : decode cX10_waits 78 = .ok (.iload_n 1, 1) := by decide +kernel
theorem dX10_waits_79 : decode cX10_waits 79 = .ok (.if_icmp .gt 77, 3) := by decide +kernel
theorem dX10_waits_82 : decode cX10_waits 82 = .ok (.aload_n 0, 1) := by decide +kernel
theorem dX10_waits_83 : decode cX10_waits 83 = .ok (.aload_n 0, 1) := by decide +kernel
theorem dX10_waits_84 : decode cX10_waits 84 = .ok (.getfield 122, 3) := by decide +kernel
theorem dX10_waits_87 : decode cX10_waits 87 = .ok (.iload_n 2, 1) := by decide +kernel
theorem dX10_waits_88 : decode cX10_waits 88 = .ok (.aload_n 0, 1) := by decide +kernel
theorem dX10_waits_89 : decode cX10_waits 89 = .ok (.getfield 125, 3) := by decide +kernel
theorem dX10_waits_92 : decode cX10_waits 92 = .ok (.invokevirtual 342, 3) := by decide +kernel
theorem dX10_waits_95 : decode cX10_waits 95 = .ok (.istore 5, 2) := by decide +kernel
theorem dX10_waits_97 : decode cX10_waits 97 = .ok (.aload_n 0, 1) := by decide +kernel
theorem dX10_waits_98 : decode cX10_waits 98 = .ok (.getfield 122, 3) := by decide +kernel
theorem dX10_waits_101 : decode cX10_waits 101 = .ok (.iload 5, 2) := by decide +kernel
theorem dX10_waits_103 : decode cX10_waits 103 = .ok (.iaload, 1) := by decide +kernel
theorem dX10_waits_104 : decode cX10_waits 104 = .ok (.istore_n 3, 1) := by decide +kernel
theorem dX10_waits_105 : decode cX10_waits 105 = .ok (.aload_n 0, 1) := by decide +kernel
theorem dX10_waits_106 : decode cX10_waits 106 = .ok (.getfield 125, 3) := by decide +kernel
theorem dX10_waits_109 : decode cX10_waits 109 = .ok (.iload_n 3, 1) := by decide +kernel
theorem dX10_waits_110 : decode cX10_waits 110 = .ok (.dup2, 1) := by decide +kernel
theorem dX10_waits_111 : decode cX10_waits 111 = .ok (.iaload, 1) := by decide +kernel
theorem dX10_waits_112 : decode cX10_waits 112 = .ok (.iconst 1, 1) := by decide +kernel
theorem dX10_waits_113 : decode cX10_waits 113 = .ok (.iadd, 1) := by decide +kernel
theorem dX10_waits_114 : decode cX10_waits 114 = .ok (.iastore, 1) := by decide +kernel
theorem dX10_waits_115 : decode cX10_waits 115 = .ok (.iinc 2 (-1), 3) := by decide +kernel
theorem dX10_waits_118 : decode cX10_waits 118 = .ok (.iload 5, 2) := by decide +kernel
theorem dX10_waits_120 : decode cX10_waits 120 = .ok (.istore 6, 2) := by decide +kernel
theorem dX10_waits_122 : decode cX10_waits 122 = .ok (.iload 6, 2) := by decide +kernel
theorem dX10_waits_124 : decode cX10_waits 124 = .ok (.iload_n 2, 1) := by decide +kernel
theorem dX10_waits_125 : decode cX10_waits 125 = .ok (.if_icmp .ge 25, 3) := by decide +kernel
theorem dX10_waits_128 : decode cX10_waits 128 = .ok (.aload_n 0, 1) := by decide +kernel
theorem dX10_waits_129 : decode cX10_waits 129 = .ok (.getfield 122, 3) := by decide +kernel
theorem dX10_waits_132 : decode cX10_waits 132 = .ok (.iload 6, 2) := by decide +kernel
theorem dX10_waits_134 : decode cX10_waits 134 = .ok (.aload_n 0, 1) := by decide +kernel
theorem dX10_waits_135 : decode cX10_waits 135 = .ok (.getfield 122, 3) := by decide +kernel
theorem dX10_waits_138 : decode cX10_waits 138 = .ok (.iload 6, 2) := by decide +kernel
theorem dX10_waits_140 : decode cX10_waits 140 = .ok (.iconst 1, 1) := by decide +kernel
theorem dX10_waits_141 : decode cX10_waits 141 = .ok (.iadd, 1) := by decide +kernel
theorem dX10_waits_142 : decode cX10_waits 142 = .ok (.iaload, 1) := by decide +kernel
theorem dX10_waits_143 : decode cX10_waits 143 = .ok (.iastore, 1) := by decide +kernel
theorem dX10_waits_144 : decode cX10_waits 144 = .ok (.iinc 6 1, 3) := by decide +kernel
theorem dX10_waits_147 : decode cX10_waits 147 = .ok (.goto (-25), 3) := by decide +kernel
theorem dX10_waits_150 : decode cX10_waits 150 = .ok (.iinc 4 1, 3) := by decide +kernel
theorem dX10_waits_153 : decode cX10_waits 153 = .ok (.goto (-77), 3) := by decide +kernel
theorem dX10_waits_156 : decode cX10_waits 156 = .ok (.iload_n 3, 1) := by decide +kernel
theorem dX10_waits_157 : decode cX10_waits 157 = .ok (.ireturn, 1) := by decide +kernel
theorem dX10_overturned_0 : decode cX10_overturned 0 = .ok (.iload_n 1, 1) := by decide +kernel
theorem dX10_overturned_1 : decode cX10_overturned 1 = .ok (.iconst 0, 1) := by decide +kernel
theorem dX10_overturned_2 : decode cX10_overturned 2 = .ok (.aload_n 0, 1) := by decide +kernel
theorem dX10_overturned_3 : decode cX10_overturned 3 = .ok (.getfield 259, 3) := by decide +kernel
theorem dX10_overturned_6 : decode cX10_overturned 6 = .ok (.iconst 1, 1) := by decide +kernel
theorem dX10_overturned_7 : decode cX10_overturned 7 = .ok (.isub, 1) := by decide +kernel
theorem dX10_overturned_8 : decode cX10_overturned 8 = .ok (.invokestatic 184, 3) := by decide +kernel
theorem dX10_overturned_11 : decode cX10_overturned 11 = .ok (.ifCond .eq 22, 3) := by decide +kernel
theorem dX10_overturned_14 : decode cX10_overturned 14 = .ok (.aload_n 0, 1) := by decide +kernel
theorem dX10_overturned_15 : decode cX10_overturned 15 = .ok (.getfield 70, 3) := by decide +kernel
theorem dX10_overturned_18 : decode cX10_overturned 18 = .ok (.iconst 0, 1) := by decide +kernel
theorem dX10_overturned_19 : decode cX10_overturned 19 = .ok (.aaload, 1) := by decide +kernel
theorem dX10_overturned_20 : decode cX10_overturned 20 = .ok (.iload_n 1, 1) := by decide +kernel
theorem dX10_overturned_21 : decode cX10_overturned 21 = .ok (.baload, 1) := by decide +kernel
theorem dX10_overturned_22 : decode cX10_overturned 22 = .ok (.ifCond .eq 7, 3) := by decide +kernel
theorem dX10_overturned_25 : decode cX10_overturned 25 = .ok (.iconst 1, 1) := by decide +kernel
theorem dX10_overturned_26 : decode cX10_overturned 26 = .ok (.goto 8, 3) := by decide +kernel
theorem dX10_overturned_29 : decode cX10_overturned 29 = .ok (.iconst 0, 1) := by decide +kernel
theorem dX10_overturned_30 : decode cX10_overturned 30 = .ok (.goto 4, 3) := by decide +kernel
theorem dX10_overturned_33 : decode cX10_overturned 33 = .ok (.iconst (-1), 1) := by decide +kernel
theorem dX10_overturned_34 : decode cX10_overturned 34 = .ok (.ireturn, 1) := by decide +kernel
theorem dX10_score_0 : decode cX10_score 0 = .ok (.iload_n 1, 1) := by decide +kernel
theorem dX10_score_1 : decode cX10_score 1 = .ok (.iconst 0, 1) := by decide +kernel
theorem dX10_score_2 : decode cX10_score 2 = .ok (.iconst 5, 1) := by decide +kernel
theorem dX10_score_3 : decode cX10_score 3 = .ok (.invokestatic 184, 3) := by decide +kernel
theorem dX10_score_6 : decode cX10_score 6 = .ok (.ifCond .eq 54, 3) := by decide +kernel
theorem dX10_score_9 : decode cX10_score 9 = .ok (.iload_n 2, 1) := by decide +kernel
theorem dX10_score_10 : decode cX10_score 10 = .ok (.iconst 0, 1) := by decide +kernel
theorem dX10_score_11 : decode cX10_score 11 = .ok (.bipush 7, 2) := by decide +kernel
theorem dX10_score_13 : decode cX10_score 13 = .ok (.invokestatic 184, 3) := by decide +kernel
theorem dX10_score_16 : decode cX10_score 16 = .ok (.ifCond .eq 44, 3) := by decide +kernel
theorem dX10_score_19 : decode cX10_score 19 = .ok (.iload_n 3, 1) := by decide +kernel
theorem dX10_score_20 : decode cX10_score 20 = .ok (.iconst 0, 1) := by decide +kernel
theorem dX10_score_21 : decode cX10_score 21 = .ok (.bipush 23, 2) := by decide +kernel
theorem dX10_score_23 : decode cX10_score 23 = .ok (.invokestatic 184, 3) := by decide +kernel
theorem dX10_score_26 : decode cX10_score 26 = .ok (.ifCond .eq 34, 3) := by decide +kernel
theorem dX10_score_29 : decode cX10_score 29 = .ok (.iload 4, 2) := by decide +kernel
theorem dX10_score_31 : decode cX10_score 31 = .ok (.iconst 0, 1) := by decide +kernel
theorem dX10_score_32 : decode cX10_score 32 = .ok (.bipush 100, 2) := by decide +kernel
theorem dX10_score_34 : decode cX10_score 34 = .ok (.invokestatic 184, 3) := by decide +kernel
theorem dX10_score_37 : decode cX10_score 37 = .ok (.ifCond .eq 23, 3) := by decide +kernel
theorem dX10_score_40 : decode cX10_score 40 = .ok (.aload_n 0, 1) := by decide +kernel
theorem dX10_score_41 : decode cX10_score 41 = .ok (.getfield 128, 3) := by decide +kernel
theorem dX10_score_44 : decode cX10_score 44 = .ok (.iload_n 1, 1) := by decide +kernel
theorem dX10_score_45 : decode cX10_score 45 = .ok (.iaload, 1) := by decide +kernel
theorem dX10_score_46 : decode cX10_score 46 = .ok (.iconst (-1), 1) := by decide +kernel
theorem dX10_score_47 : decode cX10_score 47 = .ok (.if_icmp .eq 15, 3) := by decide +kernel
theorem dX10_score_50 : decode cX10_score 50 = .ok (.aload_n 0, 1) := by decide +kernel
theorem dX10_score_51 : decode cX10_score 51 = .ok (.getfield 128, 3) := by decide +kernel
theorem dX10_score_54 : decode cX10_score 54 = .ok (.iload_n 1, 1) := by decide +kernel
theorem dX10_score_55 : decode cX10_score 55 = .ok (.iaload, 1) := by decide +kernel
theorem dX10_score_56 : decode cX10_score 56 = .ok (.iload_n 2, 1) := by decide +kernel
theorem dX10_score_57 : decode cX10_score 57 = .ok (.if_icmp .eq 5, 3) := by decide +kernel
theorem dX10_score_60 : decode cX10_score 60 = .ok (.iconst 0, 1) := by decide +kernel
theorem dX10_score_61 : decode cX10_score 61 = .ok (.ireturn, 1) := by decide +kernel
theorem dX10_score_62 : decode cX10_score 62 = .ok (.aload_n 0, 1) := by decide +kernel
theorem dX10_score_63 : decode cX10_score 63 = .ok (.getfield 128, 3) := by decide +kernel
theorem dX10_score_66 : decode cX10_score 66 = .ok (.iload_n 1, 1) := by decide +kernel
theorem dX10_score_67 : decode cX10_score 67 = .ok (.iload_n 2, 1) := by decide +kernel
theorem dX10_score_68 : decode cX10_score 68 = .ok (.iastore, 1) := by decide +kernel
theorem dX10_score_69 : decode cX10_score 69 = .ok (.aload_n 0, 1) := by decide +kernel
theorem dX10_score_70 : decode cX10_score 70 = .ok (.getfield 131, 3) := by decide +kernel
theorem dX10_score_73 : decode cX10_score 73 = .ok (.iload_n 1, 1) := by decide +kernel
theorem dX10_score_74 : decode cX10_score 74 = .ok (.aaload, 1) := by decide +kernel
theorem dX10_score_75 : decode cX10_score 75 = .ok (.iload_n 3, 1) := by decide +kernel
theorem dX10_score_76 : decode cX10_score 76 = .ok (.iload 4, 2) := by decide +kernel
theorem dX10_score_78 : decode cX10_score 78 = .ok (.iastore, 1) := by decide +kernel
theorem dX10_score_79 : decode cX10_score 79 = .ok (.aload_n 0, 1) := by decide +kernel
theorem dX10_score_80 : decode cX10_score 80 = .ok (.getfield 134, 3) := by decide +kernel
theorem dX10_score_83 : decode cX10_score 83 = .ok (.iload_n 1, 1) := by decide +kernel
theorem dX10_score_84 : decode cX10_score 84 = .ok (.aaload, 1) := by decide +kernel
theorem dX10_score_85 : decode cX10_score 85 = .ok (.iload_n 3, 1) := by decide +kernel
theorem dX10_score_86 : decode cX10_score 86 = .ok (.iconst 1, 1) := by decide +kernel
theorem dX10_score_87 : decode cX10_score 87 = .ok (.bastore, 1) := by decide +kernel
theorem dX10_score_88 : decode cX10_score 88 = .ok (.iconst 1, 1) := by decide +kernel
theorem dX10_score_89 : decode cX10_score 89 = .ok (.ireturn, 1) := by decide +kernel
theorem dX10_counts_0 : decode cX10_counts 0 = .ok (.aload_n 0, 1) := by decide +kernel
theorem dX10_counts_1 : decode cX10_counts 1 = .ok (.getfield 134, 3) := by decide +kernel
theorem dX10_counts_4 : decode cX10_counts 4 = .ok (.iload_n 1, 1) := by decide +kernel
theorem dX10_counts_5 : decode cX10_counts 5 = .ok (.aaload, 1) := by decide +kernel
theorem dX10_counts_6 : decode cX10_counts 6 = .ok (.iload_n 2, 1) := by decide +kernel
theorem dX10_counts_7 : decode cX10_counts 7 = .ok (.baload, 1) := by decide +kernel
theorem dX10_counts_8 : decode cX10_counts 8 = .ok (.ifCond .eq 22, 3) := by decide +kernel
theorem dX10_counts_11 : decode cX10_counts 11 = .ok (.aload_n 0, 1) := by decide +kernel
theorem dX10_counts_12 : decode cX10_counts 12 = .ok (.getfield 46, 3) := by decide +kernel
theorem dX10_counts_15 : decode cX10_counts 15 = .ok (.iload_n 2, 1) := by decide +kernel
theorem dX10_counts_16 : decode cX10_counts 16 = .ok (.iaload, 1) := by decide +kernel
theorem dX10_counts_17 : decode cX10_counts 17 = .ok (.aload_n 0, 1) := by decide +kernel
theorem dX10_counts_18 : decode cX10_counts 18 = .ok (.getfield 128, 3) := by decide +kernel
theorem dX10_counts_21 : decode cX10_counts 21 = .ok (.iload_n 1, 1) := by decide +kernel
theorem dX10_counts_22 : decode cX10_counts 22 = .ok (.iaload, 1) := by decide +kernel
theorem dX10_counts_23 : decode cX10_counts 23 = .ok (.if_icmp .eq 7, 3) := by decide +kernel
theorem dX10_counts_26 : decode cX10_counts 26 = .ok (.iconst 1, 1) := by decide +kernel
theorem dX10_counts_27 : decode cX10_counts 27 = .ok (.goto 4, 3) := by decide +kernel
theorem dX10_counts_30 : decode cX10_counts 30 = .ok (.iconst 0, 1) := by decide +kernel
theorem dX10_counts_31 : decode cX10_counts 31 = .ok (.ireturn, 1) := by decide +kernel
theorem dX10_scaled_0 : decode cX10_scaled 0 = .ok (.bipush 100, 2) := by decide +kernel
theorem dX10_scaled_2 : decode cX10_scaled 2 = .ok (.istore_n 3, 1) := by decide +kernel
theorem dX10_scaled_3 : decode cX10_scaled 3 = .ok (.iconst 0, 1) := by decide +kernel
theorem dX10_scaled_4 : decode cX10_scaled 4 = .ok (.istore 4, 2) := by decide +kernel
theorem dX10_scaled_6 : decode cX10_scaled 6 = .ok (.iconst 0, 1) := by decide +kernel
theorem dX10_scaled_7 : decode cX10_scaled 7 = .ok (.istore 5, 2) := by decide +kernel
theorem dX10_scaled_9 : decode cX10_scaled 9 = .ok (.iload 5, 2) := by decide +kernel
theorem dX10_scaled_11 : decode cX10_scaled 11 = .ok (.bipush 24, 2) := by decide +kernel
theorem dX10_scaled_13 : decode cX10_scaled 13 = .ok (.if_icmp .ge 76, 3) := by decide +kernel
theorem dX10_scaled_16 : decode cX10_scaled 16 = .ok (.aload_n 0, 1) := by decide +kernel
theorem dX10_scaled_17 : decode cX10_scaled 17 = .ok (.iload_n 1, 1) := by decide +kernel
theorem dX10_scaled_18 : decode cX10_scaled 18 = .ok (.iload 5, 2) := by decide +kernel
theorem dX10_scaled_20 : decode cX10_scaled 20 = .ok (.invokevirtual 392, 3) := by decide +kernel
theorem dX10_scaled_23 : decode cX10_scaled 23 = .ok (.ifCond .eq 60, 3) := by decide +kernel
theorem dX10_scaled_26 : decode cX10_scaled 26 = .ok (.aload_n 0, 1) := by decide +kernel
theorem dX10_scaled_27 : decode cX10_scaled 27 = .ok (.getfield 131, 3) := by decide +kernel
theorem dX10_scaled_30 : decode cX10_scaled 30 = .ok (.iload_n 1, 1) := by decide +kernel
theorem dX10_scaled_31 : decode cX10_scaled 31 = .ok (.aaload, 1) := by decide +kernel
theorem dX10_scaled_32 : decode cX10_scaled 32 = .ok (.iload 5, 2) := by decide +kernel
theorem dX10_scaled_34 : decode cX10_scaled 34 = .ok (.iaload, 1) := by decide +kernel
theorem dX10_scaled_35 : decode cX10_scaled 35 = .ok (.iload_n 3, 1) := by decide +kernel
theorem dX10_scaled_36 : decode cX10_scaled 36 = .ok (.if_icmp .ge 15, 3) := by decide +kernel
theorem dX10_scaled_39 : decode cX10_scaled 39 = .ok (.aload_n 0, 1) := by decide +kernel
theorem dX10_scaled_40 : decode cX10_scaled 40 = .ok (.getfield 131, 3) := by decide +kernel
theorem dX10_scaled_43 : decode cX10_scaled 43 = .ok (.iload_n 1, 1) := by decide +kernel
theorem dX10_scaled_44 : decode cX10_scaled 44 = .ok (.aaload, 1) := by decide +kernel
theorem dX10_scaled_45 : decode cX10_scaled 45 = .ok (.iload 5, 2) := by decide +kernel
theorem dX10_scaled_47 : decode cX10_scaled 47 = .ok (.iaload, 1) := by decide +kernel
theorem dX10_scaled_48 : decode cX10_scaled 48 = .ok (.goto 4, 3) := by decide +kernel
theorem dX10_scaled_51 : decode cX10_scaled 51 = .ok (.iload_n 3, 1) := by decide +kernel
theorem dX10_scaled_52 : decode cX10_scaled 52 = .ok (.istore_n 3, 1) := by decide +kernel
theorem dX10_scaled_53 : decode cX10_scaled 53 = .ok (.aload_n 0, 1) := by decide +kernel
theorem dX10_scaled_54 : decode cX10_scaled 54 = .ok (.getfield 131, 3) := by decide +kernel
theorem dX10_scaled_57 : decode cX10_scaled 57 = .ok (.iload_n 1, 1) := by decide +kernel
theorem dX10_scaled_58 : decode cX10_scaled 58 = .ok (.aaload, 1) := by decide +kernel
theorem dX10_scaled_59 : decode cX10_scaled 59 = .ok (.iload 5, 2) := by decide +kernel
theorem dX10_scaled_61 : decode cX10_scaled 61 = .ok (.iaload, 1) := by decide +kernel
theorem dX10_scaled_62 : decode cX10_scaled 62 = .ok (.iload 4, 2) := by decide +kernel
theorem dX10_scaled_64 : decode cX10_scaled 64 = .ok (.if_icmp .le 15, 3) := by decide +kernel
theorem dX10_scaled_67 : decode cX10_scaled 67 = .ok (.aload_n 0, 1) := by decide +kernel
theorem dX10_scaled_68 : decode cX10_scaled 68 = .ok (.getfield 131, 3) := by decide +kernel
theorem dX10_scaled_71 : decode cX10_scaled 71 = .ok (.iload_n 1, 1) := by decide +kernel
theorem dX10_scaled_72 : decode cX10_scaled 72 = .ok (.aaload, 1) := by decide +kernel
theorem dX10_scaled_73 : decode cX10_scaled 73 = .ok (.iload 5, 2) := by decide +kernel
theorem dX10_scaled_75 : decode cX10_scaled 75 = .ok (.iaload, 1) := by decide +kernel
theorem dX10_scaled_76 : decode cX10_scaled 76 = .ok (.goto 5, 3) := by decide +kernel
theorem dX10_scaled_79 : decode cX10_scaled 79 = .ok (.iload 4, 2) := by decide +kernel
theorem dX10_scaled_81 : decode cX10_scaled 81 = .ok (.istore 4, 2) := by decide +kernel
theorem dX10_scaled_83 : decode cX10_scaled 83 = .ok (.iinc 5 1, 3) := by decide +kernel
theorem dX10_scaled_86 : decode cX10_scaled 86 = .ok (.goto (-77), 3) := by decide +kernel
theorem dX10_scaled_89 : decode cX10_scaled 89 = .ok (.iload_n 3, 1) := by decide +kernel
theorem dX10_scaled_90 : decode cX10_scaled 90 = .ok (.iload 4, 2) := by decide +kernel
theorem dX10_scaled_92 : decode cX10_scaled 92 = .ok (.if_icmp .ne 9, 3) := by decide +kernel
theorem dX10_scaled_95 : decode cX10_scaled 95 = .ok (.sipush 500, 3) := by decide +kernel
theorem dX10_scaled_98 : decode cX10_scaled 98 = .ok (.goto 22, 3) := by decide +kernel
theorem dX10_scaled_101 : decode cX10_scaled 101 = .ok (.aload_n 0, 1) := by decide +kernel
theorem dX10_scaled_102 : decode cX10_scaled 102 = .ok (.getfield 131, 3) := by decide +kernel
theorem dX10_scaled_105 : decode cX10_scaled 105 = .ok (.iload_n 1, 1) := by decide +kernel
theorem dX10_scaled_106 : decode cX10_scaled 106 = .ok (.aaload, 1) := by decide +kernel
theorem dX10_scaled_107 : decode cX10_scaled 107 = .ok (.iload_n 2, 1) := by decide +kernel
theorem dX10_scaled_108 : decode cX10_scaled 108 = .ok (.iaload, 1) := by decide +kernel
theorem dX10_scaled_109 : decode cX10_scaled 109 = .ok (.iload_n 3, 1) := by decide +kernel
theorem dX10_scaled_110 : decode cX10_scaled 110 = .ok (.isub, 1) := by decide +kernel
theorem dX10_scaled_111 : decode cX10_scaled 111 = .ok (.sipush 1000, 3) := by decide +kernel
theorem dX10_scaled_114 : decode cX10_scaled 114 = .ok (.imul, 1) := by decide +kernel
theorem dX10_scaled_115 : decode cX10_scaled 115 = .ok (.iload 4, 2) := by decide +kernel
theorem dX10_scaled_117 : decode cX10_scaled 117 = .ok (.iload_n 3, 1) := by decide +kernel
theorem dX10_scaled_118 : decode cX10_scaled 118 = .ok (.isub, 1) := by decide +kernel
theorem dX10_scaled_119 : decode cX10_scaled 119 = .ok (.idiv, 1) := by decide +kernel
theorem dX10_scaled_120 : decode cX10_scaled 120 = .ok (.ireturn, 1) := by decide +kernel
theorem dX10_mean_0 : decode cX10_mean 0 = .ok (.iconst 0, 1) := by decide +kernel
theorem dX10_mean_1 : decode cX10_mean 1 = .ok (.istore_n 2, 1) := by decide +kernel
theorem dX10_mean_2 : decode cX10_mean 2 = .ok (.iconst 0, 1) := by decide +kernel
theorem dX10_mean_3 : decode cX10_mean 3 = .ok (.istore_n 3, 1) := by decide +kernel
theorem dX10_mean_4 : decode cX10_mean 4 = .ok (.iconst 0, 1) := by decide +kernel
theorem dX10_mean_5 : decode cX10_mean 5 = .ok (.istore 4, 2) := by decide +kernel
theorem dX10_mean_7 : decode cX10_mean 7 = .ok (.iload_n 1, 1) := by decide +kernel
theorem dX10_mean_8 : decode cX10_mean 8 = .ok (.iconst 0, 1) := by decide +kernel
theorem dX10_mean_9 : decode cX10_mean 9 = .ok (.bipush 23, 2) := by decide +kernel
theorem dX10_mean_11 : decode cX10_mean 11 = .ok (.invokestatic 184, 3) := by decide +kernel
theorem dX10_mean_14 : decode cX10_mean 14 = .ok (.ifCond .eq 39, 3) := by decide +kernel
theorem dX10_mean_17 : decode cX10_mean 17 = .ok (.iload 4, 2) := by decide +kernel
theorem dX10_mean_19 : decode cX10_mean 19 = .ok (.bipush 6, 2) := by decide +kernel
theorem dX10_mean_21 : decode cX10_mean 21 = .ok (.if_icmp .ge 32, 3) := by decide +kernel
theorem dX10_mean_24 : decode cX10_mean 24 = .ok (.aload_n 0, 1) := by decide +kernel
theorem dX10_mean_25 : decode cX10_mean 25 = .ok (.iload 4, 2) := by decide +kernel
theorem dX10_mean_27 : decode cX10_mean 27 = .ok (.iload_n 1, 1) := by decide +kernel
theorem dX10_mean_28 : decode cX10_mean 28 = .ok (.invokevirtual 392, 3) := by decide +kernel
theorem dX10_mean_31 : decode cX10_mean 31 = .ok (.ifCond .eq 16, 3) := by decide +kernel
theorem dX10_mean_34 : decode cX10_mean 34 = .ok (.iload_n 2, 1) := by decide +kernel
theorem dX10_mean_35 : decode cX10_mean 35 = .ok (.aload_n 0, 1) := by decide +kernel
theorem dX10_mean_36 : decode cX10_mean 36 = .ok (.iload 4, 2) := by decide +kernel
theorem dX10_mean_38 : decode cX10_mean 38 = .ok (.iload_n 1, 1) := by decide +kernel
theorem dX10_mean_39 : decode cX10_mean 39 = .ok (.invokevirtual 395, 3) := by decide +kernel
theorem dX10_mean_42 : decode cX10_mean 42 = .ok (.iadd, 1) := by decide +kernel
theorem dX10_mean_43 : decode cX10_mean 43 = .ok (.istore_n 2, 1) := by decide +kernel
theorem dX10_mean_44 : decode cX10_mean 44 = .ok (.iinc 3 1, 3) := by decide +kernel
theorem dX10_mean_47 : decode cX10_mean 47 = .ok (.iinc 4 1, 3) := by decide +kernel
theorem dX10_mean_50 : decode cX10_mean 50 = .ok (.goto (-43), 3) := by decide +kernel
theorem dX10_mean_53 : decode cX10_mean 53 = .ok (.iload_n 3, 1) := by decide +kernel
theorem dX10_mean_54 : decode cX10_mean 54 = .ok (.ifCond .ne 7, 3) := by decide +kernel
theorem dX10_mean_57 : decode cX10_mean 57 = .ok (.iconst (-1), 1) := by decide +kernel
theorem dX10_mean_58 : decode cX10_mean 58 = .ok (.goto 6, 3) := by decide +kernel
theorem dX10_mean_61 : decode cX10_mean 61 = .ok (.iload_n 2, 1) := by decide +kernel
theorem dX10_mean_62 : decode cX10_mean 62 = .ok (.iload_n 3, 1) := by decide +kernel
theorem dX10_mean_63 : decode cX10_mean 63 = .ok (.idiv, 1) := by decide +kernel
theorem dX10_mean_64 : decode cX10_mean 64 = .ok (.ireturn, 1) := by decide +kernel
theorem dX10_award_0 : decode cX10_award 0 = .ok (.iconst (-1), 1) := by decide +kernel
theorem dX10_award_1 : decode cX10_award 1 = .ok (.istore_n 2, 1) := by decide +kernel
theorem dX10_award_2 : decode cX10_award 2 = .ok (.iconst 0, 1) := by decide +kernel
theorem dX10_award_3 : decode cX10_award 3 = .ok (.istore_n 3, 1) := by decide +kernel
theorem dX10_award_4 : decode cX10_award 4 = .ok (.iload_n 3, 1) := by decide +kernel
theorem dX10_award_5 : decode cX10_award 5 = .ok (.bipush 24, 2) := by decide +kernel
theorem dX10_award_7 : decode cX10_award 7 = .ok (.if_icmp .ge 16, 3) := by decide +kernel
theorem dX10_award_10 : decode cX10_award 10 = .ok (.aload_n 0, 1) := by decide +kernel
theorem dX10_award_11 : decode cX10_award 11 = .ok (.getfield 137, 3) := by decide +kernel
theorem dX10_award_14 : decode cX10_award 14 = .ok (.iload_n 3, 1) := by decide +kernel
theorem dX10_award_15 : decode cX10_award 15 = .ok (.iconst 0, 1) := by decide +kernel
theorem dX10_award_16 : decode cX10_award 16 = .ok (.bastore, 1) := by decide +kernel
theorem dX10_award_17 : decode cX10_award 17 = .ok (.iinc 3 1, 3) := by decide +kernel
theorem dX10_award_20 : decode cX10_award 20 = .ok (.goto (-16), 3) := by decide +kernel
theorem dX10_award_23 : decode cX10_award 23 = .ok (.iconst 0, 1) := by decide +kernel
theorem dX10_award_24 : decode cX10_award 24 = .ok (.istore_n 3, 1) := by decide +kernel
theorem dX10_award_25 : decode cX10_award 25 = .ok (.iload_n 3, 1) := by decide +kernel
theorem dX10_award_26 : decode cX10_award 26 = .ok (.iload_n 1, 1) := by decide +kernel
theorem dX10_award_27 : decode cX10_award 27 = .ok (.if_icmp .gt 83, 3) := by decide +kernel
theorem dX10_award_30 : decode cX10_award 30 = .ok (.iconst (-1), 1) := by decide +kernel
theorem dX10_award_31 : decode cX10_award 31 = .ok (.istore_n 2, 1) := by decide +kernel
theorem dX10_award_32 : decode cX10_award 32 = .ok (.iconst 0, 1) := by decide +kernel
theorem dX10_award_33 : decode cX10_award 33 = .ok (.istore 4, 2) := by decide +kernel
theorem dX10_award_35 : decode cX10_award 35 = .ok (.iload 4, 2) := by decide +kernel
theorem dX10_award_37 : decode cX10_award 37 = .ok (.bipush 24, 2) := by decide +kernel
theorem dX10_award_39 : decode cX10_award 39 = .ok (.if_icmp .ge 51, 3) := by decide +kernel
theorem dX10_award_42 : decode cX10_award 42 = .ok (.aload_n 0, 1) := by decide +kernel
theorem dX10_award_43 : decode cX10_award 43 = .ok (.getfield 137, 3) := by decide +kernel
theorem dX10_award_46 : decode cX10_award 46 = .ok (.iload 4, 2) := by decide +kernel
theorem dX10_award_48 : decode cX10_award 48 = .ok (.baload, 1) := by decide +kernel
theorem dX10_award_49 : decode cX10_award 49 = .ok (.ifCond .ne 35, 3) := by decide +kernel
theorem dX10_award_52 : decode cX10_award 52 = .ok (.aload_n 0, 1) := by decide +kernel
theorem dX10_award_53 : decode cX10_award 53 = .ok (.iload 4, 2) := by decide +kernel
theorem dX10_award_55 : decode cX10_award 55 = .ok (.invokevirtual 398, 3) := by decide +kernel
theorem dX10_award_58 : decode cX10_award 58 = .ok (.iconst (-1), 1) := by decide +kernel
theorem dX10_award_59 : decode cX10_award 59 = .ok (.if_icmp .eq 25, 3) := by decide +kernel
theorem dX10_award_62 : decode cX10_award 62 = .ok (.iload_n 2, 1) := by decide +kernel
theorem dX10_award_63 : decode cX10_award 63 = .ok (.iconst (-1), 1) := by decide +kernel
theorem dX10_award_64 : decode cX10_award 64 = .ok (.if_icmp .eq 17, 3) := by decide +kernel
theorem dX10_award_67 : decode cX10_award 67 = .ok (.aload_n 0, 1) := by decide +kernel
theorem dX10_award_68 : decode cX10_award 68 = .ok (.iload 4, 2) := by decide +kernel
theorem dX10_award_70 : decode cX10_award 70 = .ok (.invokevirtual 398, 3) := by decide +kernel
theorem dX10_award_73 : decode cX10_award 73 = .ok (.aload_n 0, 1) := by decide +kernel
theorem dX10_award_74 : decode cX10_award 74 = .ok (.iload_n 2, 1) := by decide +kernel
theorem dX10_award_75 : decode cX10_award 75 = .ok (.invokevirtual 398, 3) := by decide +kernel
theorem dX10_award_78 : decode cX10_award 78 = .ok (.if_icmp .le 6, 3) := by decide +kernel
theorem dX10_award_81 : decode cX10_award 81 = .ok (.iload 4, 2) := by decide +kernel
theorem dX10_award_83 : decode cX10_award 83 = .ok (.istore_n 2, 1) := by decide +kernel
theorem dX10_award_84 : decode cX10_award 84 = .ok (.iinc 4 1, 3) := by decide +kernel
theorem dX10_award_87 : decode cX10_award 87 = .ok (.goto (-52), 3) := by decide +kernel
theorem dX10_award_90 : decode cX10_award 90 = .ok (.iload_n 2, 1) := by decide +kernel
theorem dX10_award_91 : decode cX10_award 91 = .ok (.iconst (-1), 1) := by decide +kernel
theorem dX10_award_92 : decode cX10_award 92 = .ok (.if_icmp .ne 5, 3) := by decide +kernel
theorem dX10_award_95 : decode cX10_award 95 = .ok (.iconst (-1), 1) := by decide +kernel
theorem dX10_award_96 : decode cX10_award 96 = .ok (.ireturn, 1) := by decide +kernel
theorem dX10_award_97 : decode cX10_award 97 = .ok (.aload_n 0, 1) := by decide +kernel
theorem dX10_award_98 : decode cX10_award 98 = .ok (.getfield 137, 3) := by decide +kernel
theorem dX10_award_101 : decode cX10_award 101 = .ok (.iload_n 2, 1) := by decide +kernel
theorem dX10_award_102 : decode cX10_award 102 = .ok (.iconst 1, 1) := by decide +kernel
theorem dX10_award_103 : decode cX10_award 103 = .ok (.bastore, 1) := by decide +kernel
theorem dX10_award_104 : decode cX10_award 104 = .ok (.iinc 3 1, 3) := by decide +kernel
theorem dX10_award_107 : decode cX10_award 107 = .ok (.goto (-82), 3) := by decide +kernel
theorem dX10_award_110 : decode cX10_award 110 = .ok (.iload_n 2, 1) := by decide +kernel
theorem dX10_award_111 : decode cX10_award 111 = .ok (.ireturn, 1) := by decide +kernel
theorem dX10_told_0 : decode cX10_told 0 = .ok (.iload_n 1, 1) := by decide +kernel
theorem dX10_told_1 : decode cX10_told 1 = .ok (.iconst 0, 1) := by decide +kernel
theorem dX10_told_2 : decode cX10_told 2 = .ok (.bipush 7, 2) := by decide +kernel
theorem dX10_told_4 : decode cX10_told 4 = .ok (.invokestatic 184, 3) := by decide +kernel
theorem dX10_told_7 : decode cX10_told 7 = .ok (.ifCond .eq 12, 3) := by decide +kernel
theorem dX10_told_10 : decode cX10_told 10 = .ok (.aload_n 0, 1) := by decide +kernel
theorem dX10_told_11 : decode cX10_told 11 = .ok (.getfield 19, 3) := by decide +kernel
theorem dX10_told_14 : decode cX10_told 14 = .ok (.iconst 0, 1) := by decide +kernel
theorem dX10_told_15 : decode cX10_told 15 = .ok (.aaload, 1) := by decide +kernel
theorem dX10_told_16 : decode cX10_told 16 = .ok (.iload_n 1, 1) := by decide +kernel
theorem dX10_told_17 : decode cX10_told 17 = .ok (.iaload, 1) := by decide +kernel
theorem dX10_told_18 : decode cX10_told 18 = .ok (.ireturn, 1) := by decide +kernel
theorem dX10_told_19 : decode cX10_told 19 = .ok (.iload_n 1, 1) := by decide +kernel
theorem dX10_told_20 : decode cX10_told 20 = .ok (.bipush 20, 2) := by decide +kernel
theorem dX10_told_22 : decode cX10_told 22 = .ok (.bipush 27, 2) := by decide +kernel
theorem dX10_told_24 : decode cX10_told 24 = .ok (.invokestatic 184, 3) := by decide +kernel
theorem dX10_told_27 : decode cX10_told 27 = .ok (.ifCond .eq 33, 3) := by decide +kernel
theorem dX10_told_30 : decode cX10_told 30 = .ok (.aload_n 0, 1) := by decide +kernel
theorem dX10_told_31 : decode cX10_told 31 = .ok (.getfield 19, 3) := by decide +kernel
theorem dX10_told_34 : decode cX10_told 34 = .ok (.iconst 0, 1) := by decide +kernel
theorem dX10_told_35 : decode cX10_told 35 = .ok (.aaload, 1) := by decide +kernel
theorem dX10_told_36 : decode cX10_told 36 = .ok (.iload_n 1, 1) := by decide +kernel
theorem dX10_told_37 : decode cX10_told 37 = .ok (.bipush 20, 2) := by decide +kernel
theorem dX10_told_39 : decode cX10_told 39 = .ok (.isub, 1) := by decide +kernel
theorem dX10_told_40 : decode cX10_told 40 = .ok (.iaload, 1) := by decide +kernel
theorem dX10_told_41 : decode cX10_told 41 = .ok (.ifCond .ne 7, 3) := by decide +kernel
theorem dX10_told_44 : decode cX10_told 44 = .ok (.iconst (-1), 1) := by decide +kernel
theorem dX10_told_45 : decode cX10_told 45 = .ok (.goto 14, 3) := by decide +kernel
theorem dX10_told_48 : decode cX10_told 48 = .ok (.aload_n 0, 1) := by decide +kernel
theorem dX10_told_49 : decode cX10_told 49 = .ok (.getfield 22, 3) := by decide +kernel
theorem dX10_told_52 : decode cX10_told 52 = .ok (.iconst 0, 1) := by decide +kernel
theorem dX10_told_53 : decode cX10_told 53 = .ok (.aaload, 1) := by decide +kernel
theorem dX10_told_54 : decode cX10_told 54 = .ok (.iload_n 1, 1) := by decide +kernel
theorem dX10_told_55 : decode cX10_told 55 = .ok (.bipush 20, 2) := by decide +kernel
theorem dX10_told_57 : decode cX10_told 57 = .ok (.isub, 1) := by decide +kernel
theorem dX10_told_58 : decode cX10_told 58 = .ok (.iaload, 1) := by decide +kernel
theorem dX10_told_59 : decode cX10_told 59 = .ok (.ireturn, 1) := by decide +kernel
theorem dX10_told_60 : decode cX10_told 60 = .ok (.iload_n 1, 1) := by decide +kernel
theorem dX10_told_61 : decode cX10_told 61 = .ok (.lookupswitch 100 #[(10, 51), (11, 58), (12, 65), (13, 80), (30, 95)], 51) := by decide +kernel
theorem dX10_told_112 : decode cX10_told 112 = .ok (.aload_n 0, 1) := by decide +kernel
theorem dX10_told_113 : decode cX10_told 113 = .ok (.getfield 33, 3) := by decide +kernel
theorem dX10_told_116 : decode cX10_told 116 = .ok (.iconst 0, 1) := by decide +kernel
theorem dX10_told_117 : decode cX10_told 117 = .ok (.iaload, 1) := by decide +kernel
theorem dX10_told_118 : decode cX10_told 118 = .ok (.ireturn, 1) := by decide +kernel
theorem dX10_told_119 : decode cX10_told 119 = .ok (.aload_n 0, 1) := by decide +kernel
theorem dX10_told_120 : decode cX10_told 120 = .ok (.getfield 37, 3) := by decide +kernel
theorem dX10_told_123 : decode cX10_told 123 = .ok (.iconst 0, 1) := by decide +kernel
theorem dX10_told_124 : decode cX10_told 124 = .ok (.iaload, 1) := by decide +kernel
theorem dX10_told_125 : decode cX10_told 125 = .ok (.ireturn, 1) := by decide +kernel
theorem dX10_told_126 : decode cX10_told 126 = .ok (.aload_n 0, 1) := by decide +kernel
theorem dX10_told_127 : decode cX10_told 127 = .ok (.getfield 40, 3) := by decide +kernel
theorem dX10_told_130 : decode cX10_told 130 = .ok (.iconst 0, 1) := by decide +kernel
theorem dX10_told_131 : decode cX10_told 131 = .ok (.baload, 1) := by decide +kernel
theorem dX10_told_132 : decode cX10_told 132 = .ok (.ifCond .eq 7, 3) := by decide +kernel
theorem dX10_told_135 : decode cX10_told 135 = .ok (.iconst 1, 1) := by decide +kernel
theorem dX10_told_136 : decode cX10_told 136 = .ok (.goto 4, 3) := by decide +kernel
theorem dX10_told_139 : decode cX10_told 139 = .ok (.iconst 0, 1) := by decide +kernel
theorem dX10_told_140 : decode cX10_told 140 = .ok (.ireturn, 1) := by decide +kernel
theorem dX10_told_141 : decode cX10_told 141 = .ok (.aload_n 0, 1) := by decide +kernel
theorem dX10_told_142 : decode cX10_told 142 = .ok (.getfield 43, 3) := by decide +kernel
theorem dX10_told_145 : decode cX10_told 145 = .ok (.iconst 0, 1) := by decide +kernel
theorem dX10_told_146 : decode cX10_told 146 = .ok (.baload, 1) := by decide +kernel
theorem dX10_told_147 : decode cX10_told 147 = .ok (.ifCond .eq 7, 3) := by decide +kernel
theorem dX10_told_150 : decode cX10_told 150 = .ok (.iconst 1, 1) := by decide +kernel
theorem dX10_told_151 : decode cX10_told 151 = .ok (.goto 4, 3) := by decide +kernel
theorem dX10_told_154 : decode cX10_told 154 = .ok (.iconst 0, 1) := by decide +kernel
theorem dX10_told_155 : decode cX10_told 155 = .ok (.ireturn, 1) := by decide +kernel
theorem dX10_told_156 : decode cX10_told 156 = .ok (.aload_n 0, 1) := by decide +kernel
theorem dX10_told_157 : decode cX10_told 157 = .ok (.getfield 146, 3) := by decide +kernel
theorem dX10_told_160 : decode cX10_told 160 = .ok (.ireturn, 1) := by decide +kernel
theorem dX10_told_161 : decode cX10_told 161 = .ok (.iconst (-1), 1) := by decide +kernel
theorem dX10_told_162 : decode cX10_told 162 = .ok (.ireturn, 1) := by decide +kernel
