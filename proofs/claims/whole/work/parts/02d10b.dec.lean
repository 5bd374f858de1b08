theorem dX3_init_28 : decode cX3_init 28 = .ok (.aload_n 0, 1) := by decide +kernel
theorem dX3_init_29 : decode cX3_init 29 = .ok (.bipush 8, 2) := by decide +kernel
theorem dX3_init_31 : decode cX3_init 31 = .ok (.newarray .int, 2) := by decide +kernel
theorem dX3_init_33 : decode cX3_init 33 = .ok (.putfield 21, 3) := by decide +kernel
theorem dX3_init_36 : decode cX3_init 36 = .ok (.aload_n 0, 1) := by decide +kernel
theorem dX3_init_37 : decode cX3_init 37 = .ok (.bipush 8, 2) := by decide +kernel
theorem dX3_init_39 : decode cX3_init 39 = .ok (.newarray .int, 2) := by decide +kernel
theorem dX3_init_41 : decode cX3_init 41 = .ok (.putfield 24, 3) := by decide +kernel
theorem dX3_init_44 : decode cX3_init 44 = .ok (.aload_n 0, 1) := by decide +kernel
theorem dX3_init_45 : decode cX3_init 45 = .ok (.bipush 8, 2) := by decide +kernel
theorem dX3_init_47 : decode cX3_init 47 = .ok (.newarray .boolean, 2) := by decide +kernel
theorem dX3_init_49 : decode cX3_init 49 = .ok (.putfield 27, 3) := by decide +kernel
theorem dX3_init_52 : decode cX3_init 52 = .ok (.aload_n 0, 1) := by decide +kernel
theorem dX3_init_53 : decode cX3_init 53 = .ok (.bipush 8, 2) := by decide +kernel
theorem dX3_init_55 : decode cX3_init 55 = .ok (.newarray .boolean, 2) := by decide +kernel
theorem dX3_init_57 : decode cX3_init 57 = .ok (.putfield 31, 3) := by decide +kernel
theorem dX3_init_60 : decode cX3_init 60 = .ok (.aload_n 0, 1) := by decide +kernel
theorem dX3_init_61 : decode cX3_init 61 = .ok (.aload_n 1, 1) := by decide +kernel
theorem dX3_init_62 : decode cX3_init 62 = .ok (.putfield 34, 3) := by decide +kernel
theorem dX3_init_65 : decode cX3_init 65 = .ok (.return_, 1) := by decide +kernel
theorem dX3_top_0 : decode cX3_top 0 = .ok (.aload_n 0, 1) := by decide +kernel
theorem dX3_top_1 : decode cX3_top 1 = .ok (.getfield 38, 3) := by decide +kernel
theorem dX3_top_4 : decode cX3_top 4 = .ok (.ifCond .le 21, 3) := by decide +kernel
theorem dX3_top_7 : decode cX3_top 7 = .ok (.aload_n 0, 1) := by decide +kernel
theorem dX3_top_8 : decode cX3_top 8 = .ok (.getfield 38, 3) := by decide +kernel
theorem dX3_top_11 : decode cX3_top 11 = .ok (.bipush 8, 2) := by decide +kernel
theorem dX3_top_13 : decode cX3_top 13 = .ok (.if_icmp .gt 12, 3) := by decide +kernel
theorem dX3_top_16 : decode cX3_top 16 = .ok (.aload_n 0, 1) := by decide +kernel
theorem dX3_top_17 : decode cX3_top 17 = .ok (.getfield 38, 3) := by decide +kernel
theorem dX3_top_20 : decode cX3_top 20 = .ok (.iconst 1, 1) := by decide +kernel
theorem dX3_top_21 : decode cX3_top 21 = .ok (.isub, 1) := by decide +kernel
theorem dX3_top_22 : decode cX3_top 22 = .ok (.goto 4, 3) := by decide +kernel
theorem dX3_top_25 : decode cX3_top 25 = .ok (.iconst (-1), 1) := by decide +kernel
theorem dX3_top_26 : decode cX3_top 26 = .ok (.ireturn, 1) := by decide +kernel
theorem dX3_isFull_0 : decode cX3_isFull 0 = .ok (.aload_n 0, 1) := by decide +kernel
theorem dX3_isFull_1 : decode cX3_isFull 1 = .ok (.getfield 38, 3) := by decide +kernel
theorem dX3_isFull_4 : decode cX3_isFull 4 = .ok (.bipush 8, 2) := by decide +kernel
theorem dX3_isFull_6 : decode cX3_isFull 6 = .ok (.if_icmp .lt 7, 3) := by decide +kernel
theorem dX3_isFull_9 : decode cX3_isFull 9 = .ok (.iconst 1, 1) := by decide +kernel
theorem dX3_isFull_10 : decode cX3_isFull 10 = .ok (.goto 4, 3) := by decide +kernel
theorem dX3_isFull_13 : decode cX3_isFull 13 = .ok (.iconst 0, 1) := by decide +kernel
theorem dX3_isFull_14 : decode cX3_isFull 14 = .ok (.ireturn, 1) := by decide +kernel
theorem dX3_has_0 : decode cX3_has 0 = .ok (.iconst 0, 1) := by decide +kernel
theorem dX3_has_1 : decode cX3_has 1 = .ok (.istore_n 2, 1) := by decide +kernel
theorem dX3_has_2 : decode cX3_has 2 = .ok (.iload_n 2, 1) := by decide +kernel
theorem dX3_has_3 : decode cX3_has 3 = .ok (.aload_n 0, 1) := by decide +kernel
theorem dX3_has_4 : decode cX3_has 4 = .ok (.getfield 38, 3) := by decide +kernel
theorem dX3_has_7 : decode cX3_has 7 = .ok (.if_icmp .ge 27, 3) := by decide +kernel
theorem dX3_has_10 : decode cX3_has 10 = .ok (.iload_n 2, 1) := by decide +kernel
theorem dX3_has_11 : decode cX3_has 11 = .ok (.bipush 8, 2) := by decide +kernel
theorem dX3_has_13 : decode cX3_has 13 = .ok (.if_icmp .ge 21, 3) := by decide +kernel
theorem dX3_has_16 : decode cX3_has 16 = .ok (.aload_n 0, 1) := by decide +kernel
theorem dX3_has_17 : decode cX3_has 17 = .ok (.getfield 9, 3) := by decide +kernel
theorem dX3_has_20 : decode cX3_has 20 = .ok (.iload_n 2, 1) := by decide +kernel
theorem dX3_has_21 : decode cX3_has 21 = .ok (.iaload, 1) := by decide +kernel
theorem dX3_has_22 : decode cX3_has 22 = .ok (.iload_n 1, 1) := by decide +kernel
theorem dX3_has_23 : decode cX3_has 23 = .ok (.if_icmp .ne 5, 3) := by decide +kernel
theorem dX3_has_26 : decode cX3_has 26 = .ok (.iconst 1, 1) := by decide +kernel
theorem dX3_has_27 : decode cX3_has 27 = .ok (.ireturn, 1) := by decide +kernel
theorem dX3_has_28 : decode cX3_has 28 = .ok (.iinc 2 1, 3) := by decide +kernel
theorem dX3_has_31 : decode cX3_has 31 = .ok (.goto (-29), 3) := by decide +kernel
theorem dX3_has_34 : decode cX3_has 34 = .ok (.iconst 0, 1) := by decide +kernel
theorem dX3_has_35 : decode cX3_has 35 = .ok (.ireturn, 1) := by decide +kernel
theorem dX3_isOutrankedBy_0 : decode cX3_isOutrankedBy 0 = .ok (.aload_n 0, 1) := by decide +kernel
theorem dX3_isOutrankedBy_1 : decode cX3_isOutrankedBy 1 = .ok (.invokevirtual 42, 3) := by decide +kernel
theorem dX3_isOutrankedBy_4 : decode cX3_isOutrankedBy 4 = .ok (.istore_n 2, 1) := by decide +kernel
theorem dX3_isOutrankedBy_5 : decode cX3_isOutrankedBy 5 = .ok (.iload_n 2, 1) := by decide +kernel
theorem dX3_isOutrankedBy_6 : decode cX3_isOutrankedBy 6 = .ok (.iconst (-1), 1) := by decide +kernel
theorem dX3_isOutrankedBy_7 : decode cX3_isOutrankedBy 7 = .ok (.if_icmp .eq 27, 3) := by decide +kernel
theorem dX3_isOutrankedBy_10 : decode cX3_isOutrankedBy 10 = .ok (.aload_n 0, 1) := by decide +kernel
theorem dX3_isOutrankedBy_11 : decode cX3_isOutrankedBy 11 = .ok (.getfield 34, 3) := by decide +kernel
theorem dX3_isOutrankedBy_14 : decode cX3_isOutrankedBy 14 = .ok (.iload_n 1, 1) := by decide +kernel
theorem dX3_isOutrankedBy_15 : decode cX3_isOutrankedBy 15 = .ok (.invokevirtual 46, 3) := by decide +kernel
theorem dX3_isOutrankedBy_18 : decode cX3_isOutrankedBy 18 = .ok (.aload_n 0, 1) := by decide +kernel
theorem dX3_isOutrankedBy_19 : decode cX3_isOutrankedBy 19 = .ok (.getfield 34, 3) := by decide +kernel
theorem dX3_isOutrankedBy_22 : decode cX3_isOutrankedBy 22 = .ok (.aload_n 0, 1) := by decide +kernel
theorem dX3_isOutrankedBy_23 : decode cX3_isOutrankedBy 23 = .ok (.getfield 9, 3) := by decide +kernel
theorem dX3_isOutrankedBy_26 : decode cX3_isOutrankedBy 26 = .ok (.iload_n 2, 1) := by decide +kernel
theorem dX3_isOutrankedBy_27 : decode cX3_isOutrankedBy 27 = .ok (.iaload, 1) := by decide +kernel
theorem dX3_isOutrankedBy_28 : decode cX3_isOutrankedBy 28 = .ok (.invokevirtual 46, 3) := by decide +kernel
theorem dX3_isOutrankedBy_31 : decode cX3_isOutrankedBy 31 = .ok (.if_icmp .le 7, 3) := by decide +kernel
theorem dX3_isOutrankedBy_34 : decode cX3_isOutrankedBy 34 = .ok (.iconst 1, 1) := by decide +kernel
theorem dX3_isOutrankedBy_35 : decode cX3_isOutrankedBy 35 = .ok (.goto 4, 3) := by decide +kernel
theorem dX3_isOutrankedBy_38 : decode cX3_isOutrankedBy 38 = .ok (.iconst 0, 1) := by decide +kernel
theorem dX3_isOutrankedBy_39 : decode cX3_isOutrankedBy 39 = .ok (.ireturn, 1) := by decide +kernel
theorem dX3_maySecond_0 : decode cX3_maySecond 0 = .ok (.aload_n 0, 1) := by decide +kernel
theorem dX3_maySecond_1 : decode cX3_maySecond 1 = .ok (.invokevirtual 42, 3) := by decide +kernel
theorem dX3_maySecond_4 : decode cX3_maySecond 4 = .ok (.istore_n 2, 1) := by decide +kernel
theorem dX3_maySecond_5 : decode cX3_maySecond 5 = .ok (.iload_n 2, 1) := by decide +kernel
theorem dX3_maySecond_6 : decode cX3_maySecond 6 = .ok (.iconst (-1), 1) := by decide +kernel
theorem dX3_maySecond_7 : decode cX3_maySecond 7 = .ok (.if_icmp .eq 26, 3) := by decide +kernel
theorem dX3_maySecond_10 : decode cX3_maySecond 10 = .ok (.aload_n 0, 1) := by decide +kernel
theorem dX3_maySecond_11 : decode cX3_maySecond 11 = .ok (.getfield 27, 3) := by decide +kernel
theorem dX3_maySecond_14 : decode cX3_maySecond 14 = .ok (.iload_n 2, 1) := by decide +kernel
theorem dX3_maySecond_15 : decode cX3_maySecond 15 = .ok (.baload, 1) := by decide +kernel
theorem dX3_maySecond_16 : decode cX3_maySecond 16 = .ok (.ifCond .ne 17, 3) := by decide +kernel
theorem dX3_maySecond_19 : decode cX3_maySecond 19 = .ok (.aload_n 0, 1) := by decide +kernel
theorem dX3_maySecond_20 : decode cX3_maySecond 20 = .ok (.getfield 15, 3) := by decide +kernel
theorem dX3_maySecond_23 : decode cX3_maySecond 23 = .ok (.iload_n 2, 1) := by decide +kernel
theorem dX3_maySecond_24 : decode cX3_maySecond 24 = .ok (.iaload, 1) := by decide +kernel
theorem dX3_maySecond_25 : decode cX3_maySecond 25 = .ok (.iload_n 1, 1) := by decide +kernel
theorem dX3_maySecond_26 : decode cX3_maySecond 26 = .ok (.if_icmp .eq 7, 3) := by decide +kernel
theorem dX3_maySecond_29 : decode cX3_maySecond 29 = .ok (.iconst 1, 1) := by decide +kernel
theorem dX3_maySecond_30 : decode cX3_maySecond 30 = .ok (.goto 4, 3) := by decide +kernel
theorem dX3_maySecond_33 : decode cX3_maySecond 33 = .ok (.iconst 0, 1) := by decide +kernel
theorem dX3_maySecond_34 : decode cX3_maySecond 34 = .ok (.ireturn, 1) := by decide +kernel
theorem dX3_mayDecide_0 : decode cX3_mayDecide 0 = .ok (.aload_n 0, 1) := by decide +kernel
theorem dX3_mayDecide_1 : decode cX3_mayDecide 1 = .ok (.invokevirtual 42, 3) := by decide +kernel
theorem dX3_mayDecide_4 : decode cX3_mayDecide 4 = .ok (.istore_n 2, 1) := by decide +kernel
theorem dX3_mayDecide_5 : decode cX3_mayDecide 5 = .ok (.iload_n 2, 1) := by decide +kernel
theorem dX3_mayDecide_6 : decode cX3_mayDecide 6 = .ok (.iconst (-1), 1) := by decide +kernel
theorem dX3_mayDecide_7 : decode cX3_mayDecide 7 = .ok (.if_icmp .eq 15, 3) := by decide +kernel
theorem dX3_mayDecide_10 : decode cX3_mayDecide 10 = .ok (.aload_n 0, 1) := by decide +kernel
theorem dX3_mayDecide_11 : decode cX3_mayDecide 11 = .ok (.getfield 9, 3) := by decide +kernel
theorem dX3_mayDecide_14 : decode cX3_mayDecide 14 = .ok (.iload_n 2, 1) := by decide +kernel
theorem dX3_mayDecide_15 : decode cX3_mayDecide 15 = .ok (.iaload, 1) := by decide +kernel
theorem dX3_mayDecide_16 : decode cX3_mayDecide 16 = .ok (.invokestatic 52, 3) := by decide +kernel
theorem dX3_mayDecide_19 : decode cX3_mayDecide 19 = .ok (.ifCond .ne 5, 3) := by decide +kernel
theorem dX3_mayDecide_22 : decode cX3_mayDecide 22 = .ok (.iconst 0, 1) := by decide +kernel
theorem dX3_mayDecide_23 : decode cX3_mayDecide 23 = .ok (.ireturn, 1) := by decide +kernel
theorem dX3_mayDecide_24 : decode cX3_mayDecide 24 = .ok (.aload_n 0, 1) := by decide +kernel
theorem dX3_mayDecide_25 : decode cX3_mayDecide 25 = .ok (.getfield 27, 3) := by decide +kernel
theorem dX3_mayDecide_28 : decode cX3_mayDecide 28 = .ok (.iload_n 2, 1) := by decide +kernel
theorem dX3_mayDecide_29 : decode cX3_mayDecide 29 = .ok (.baload, 1) := by decide +kernel
theorem dX3_mayDecide_30 : decode cX3_mayDecide 30 = .ok (.ifCond .eq 43, 3) := by decide +kernel
theorem dX3_mayDecide_33 : decode cX3_mayDecide 33 = .ok (.aload_n 0, 1) := by decide +kernel
theorem dX3_mayDecide_34 : decode cX3_mayDecide 34 = .ok (.getfield 31, 3) := by decide +kernel
theorem dX3_mayDecide_37 : decode cX3_mayDecide 37 = .ok (.iload_n 2, 1) := by decide +kernel
theorem dX3_mayDecide_38 : decode cX3_mayDecide 38 = .ok (.baload, 1) := by decide +kernel
theorem dX3_mayDecide_39 : decode cX3_mayDecide 39 = .ok (.ifCond .eq 34, 3) := by decide +kernel
theorem dX3_mayDecide_42 : decode cX3_mayDecide 42 = .ok (.aload_n 0, 1) := by decide +kernel
theorem dX3_mayDecide_43 : decode cX3_mayDecide 43 = .ok (.getfield 34, 3) := by decide +kernel
theorem dX3_mayDecide_46 : decode cX3_mayDecide 46 = .ok (.getfield 56, 3) := by decide +kernel
theorem dX3_mayDecide_49 : decode cX3_mayDecide 49 = .ok (.aload_n 0, 1) := by decide +kernel
theorem dX3_mayDecide_50 : decode cX3_mayDecide 50 = .ok (.getfield 9, 3) := by decide +kernel
theorem dX3_mayDecide_53 : decode cX3_mayDecide 53 = .ok (.iload_n 2, 1) := by decide +kernel
theorem dX3_mayDecide_54 : decode cX3_mayDecide 54 = .ok (.iaload, 1) := by decide +kernel
theorem dX3_mayDecide_55 : decode cX3_mayDecide 55 = .ok (.iaload, 1) := by decide +kernel
theorem dX3_mayDecide_56 : decode cX3_mayDecide 56 = .ok (.iconst 3, 1) := by decide +kernel
theorem dX3_mayDecide_57 : decode cX3_mayDecide 57 = .ok (.if_icmp .ne 7, 3) := by decide +kernel
theorem dX3_mayDecide_60 : decode cX3_mayDecide 60 = .ok (.iconst 1, 1) := by decide +kernel
theorem dX3_mayDecide_61 : decode cX3_mayDecide 61 = .ok (.goto 4, 3) := by decide +kernel
theorem dX3_mayDecide_64 : decode cX3_mayDecide 64 = .ok (.iconst 0, 1) := by decide +kernel
theorem dX3_mayDecide_65 : decode cX3_mayDecide 65 = .ok (.iload_n 1, 1) := by decide +kernel
theorem dX3_mayDecide_66 : decode cX3_mayDecide 66 = .ok (.if_icmp .ne 7, 3) := by decide +kernel
theorem dX3_mayDecide_69 : decode cX3_mayDecide 69 = .ok (.iconst 1, 1) := by decide +kernel
theorem dX3_mayDecide_70 : decode cX3_mayDecide 70 = .ok (.goto 4, 3) := by decide +kernel
theorem dX3_mayDecide_73 : decode cX3_mayDecide 73 = .ok (.iconst 0, 1) := by decide +kernel
theorem dX3_mayDecide_74 : decode cX3_mayDecide 74 = .ok (.ireturn, 1) := by decide +kernel
theorem dX3_push_0 : decode cX3_push 0 = .ok (.aload_n 0, 1) := by decide +kernel
theorem dX3_push_1 : decode cX3_push 1 = .ok (.getfield 38, 3) := by decide +kernel
theorem dX3_push_4 : decode cX3_push 4 = .ok (.ifCond .lt 17, 3) := by decide +kernel
theorem dX3_push_7 : decode cX3_push 7 = .ok (.aload_n 0, 1) := by decide +kernel
theorem dX3_push_8 : decode cX3_push 8 = .ok (.invokevirtual 59, 3) := by decide +kernel
theorem dX3_push_11 : decode cX3_push 11 = .ok (.ifCond .ne 10, 3) := by decide +kernel
theorem dX3_push_14 : decode cX3_push 14 = .ok (.iload_n 1, 1) := by decide +kernel
theorem dX3_push_15 : decode cX3_push 15 = .ok (.invokestatic 52, 3) := by decide +kernel
theorem dX3_push_18 : decode cX3_push 18 = .ok (.ifCond .ne 4, 3) := by decide +kernel
theorem dX3_push_21 : decode cX3_push 21 = .ok (.return_, 1) := by decide +kernel
theorem dX3_push_22 : decode cX3_push 22 = .ok (.aload_n 0, 1) := by decide +kernel
theorem dX3_push_23 : decode cX3_push 23 = .ok (.getfield 9, 3) := by decide +kernel
theorem dX3_push_26 : decode cX3_push 26 = .ok (.aload_n 0, 1) := by decide +kernel
theorem dX3_push_27 : decode cX3_push 27 = .ok (.getfield 38, 3) := by decide +kernel
theorem dX3_push_30 : decode cX3_push 30 = .ok (.iload_n 1, 1) := by decide +kernel
theorem dX3_push_31 : decode cX3_push 31 = .ok (.iastore, 1) := by decide +kernel
theorem dX3_push_32 : decode cX3_push 32 = .ok (.aload_n 0, 1) := by decide +kernel
theorem dX3_push_33 : decode cX3_push 33 = .ok (.getfield 15, 3) := by decide +kernel
theorem dX3_push_36 : decode cX3_push 36 = .ok (.aload_n 0, 1) := by decide +kernel
theorem dX3_push_37 : decode cX3_push 37 = .ok (.getfield 38, 3) := by decide +kernel
theorem dX3_push_40 : decode cX3_push 40 = .ok (.iload_n 2, 1) := by decide +kernel
theorem dX3_push_41 : decode cX3_push 41 = .ok (.iastore, 1) := by decide +kernel
theorem dX3_push_42 : decode cX3_push 42 = .ok (.aload_n 0, 1) := by decide +kernel
theorem dX3_push_43 : decode cX3_push 43 = .ok (.getfield 18, 3) := by decide +kernel
theorem dX3_push_46 : decode cX3_push 46 = .ok (.aload_n 0, 1) := by decide +kernel
theorem dX3_push_47 : decode cX3_push 47 = .ok (.getfield 38, 3) := by decide +kernel
theorem dX3_push_50 : decode cX3_push 50 = .ok (.iload_n 3, 1) := by decide +kernel
theorem dX3_push_51 : decode cX3_push 51 = .ok (.iastore, 1) := by decide +kernel
theorem dX3_push_52 : decode cX3_push 52 = .ok (.aload_n 0, 1) := by decide +kernel
theorem dX3_push_53 : decode cX3_push 53 = .ok (.getfield 21, 3) := by decide +kernel
theorem dX3_push_56 : decode cX3_push 56 = .ok (.aload_n 0, 1) := by decide +kernel
theorem dX3_push_57 : decode cX3_push 57 = .ok (.getfield 38, 3) := by decide +kernel
theorem dX3_push_60 : decode cX3_push 60 = .ok (.iload 4, 2) := by decide +kernel
theorem dX3_push_62 : decode cX3_push 62 = .ok (.iastore, 1) := by decide +kernel
theorem dX3_push_63 : decode cX3_push 63 = .ok (.aload_n 0, 1) := by decide +kernel
theorem dX3_push_64 : decode cX3_push 64 = .ok (.getfield 24, 3) := by decide +kernel
theorem dX3_push_67 : decode cX3_push 67 = .ok (.aload_n 0, 1) := by decide +kernel
theorem dX3_push_68 : decode cX3_push 68 = .ok (.getfield 38, 3) := by decide +kernel
theorem dX3_push_71 : decode cX3_push 71 = .ok (.iload 5, 2) := by decide +kernel
theorem dX3_push_73 : decode cX3_push 73 = .ok (.iastore, 1) := by decide +kernel
theorem dX3_push_74 : decode cX3_push 74 = .ok (.aload_n 0, 1) := by decide +kernel
theorem dX3_push_75 : decode cX3_push 75 = .ok (.getfield 27, 3) := by decide +kernel
theorem dX3_push_78 : decode cX3_push 78 = .ok (.aload_n 0, 1) := by decide +kernel
theorem dX3_push_79 : decode cX3_push 79 = .ok (.getfield 38, 3) := by decide +kernel
theorem dX3_push_82 : decode cX3_push 82 = .ok (.aload_n 0, 1) := by decide +kernel
theorem dX3_push_83 : decode cX3_push 83 = .ok (.getfield 34, 3) := by decide +kernel
theorem dX3_push_86 : decode cX3_push 86 = .ok (.getfield 63, 3) := by decide +kernel
theorem dX3_push_89 : decode cX3_push 89 = .ok (.iload_n 1, 1) := by decide +kernel
theorem dX3_push_90 : decode cX3_push 90 = .ok (.baload, 1) := by decide +kernel
theorem dX3_push_91 : decode cX3_push 91 = .ok (.ifCond .ne 7, 3) := by decide +kernel
theorem dX3_push_94 : decode cX3_push 94 = .ok (.iconst 1, 1) := by decide +kernel
theorem dX3_push_95 : decode cX3_push 95 = .ok (.goto 4, 3) := by decide +kernel
theorem dX3_push_98 : decode cX3_push 98 = .ok (.iconst 0, 1) := by decide +kernel
theorem dX3_push_99 : decode cX3_push 99 = .ok (.bastore, 1) := by decide +kernel
theorem dX3_push_100 : decode cX3_push 100 = .ok (.aload_n 0, 1) := by decide +kernel
theorem dX3_push_101 : decode cX3_push 101 = .ok (.getfield 31, 3) := by decide +kernel
theorem dX3_push_104 : decode cX3_push 104 = .ok (.aload_n 0, 1) := by decide +kernel
theorem dX3_push_105 : decode cX3_push 105 = .ok (.getfield 38, 3) := by decide +kernel
theorem dX3_push_108 : decode cX3_push 108 = .ok (.aload_n 0, 1) := by decide +kernel
theorem dX3_push_109 : decode cX3_push 109 = .ok (.getfield 34, 3) := by decide +kernel
theorem dX3_push_112 : decode cX3_push 112 = .ok (.getfield 66, 3) := by decide +kernel
theorem dX3_push_115 : decode cX3_push 115 = .ok (.iload_n 1, 1) := by decide +kernel
theorem dX3_push_116 : decode cX3_push 116 = .ok (.baload, 1) := by decide +kernel
theorem dX3_push_117 : decode cX3_push 117 = .ok (.ifCond .ne 7, 3) := by decide +kernel
theorem dX3_push_120 : decode cX3_push 120 = .ok (.iconst 1, 1) := by decide +kernel
theorem dX3_push_121 : decode cX3_push 121 = .ok (.goto 4, 3) := by decide +kernel
theorem dX3_push_124 : decode cX3_push 124 = .ok (.iconst 0, 1) := by decide +kernel
theorem dX3_push_125 : decode cX3_push 125 = .ok (.bastore, 1) := by decide +kernel
theorem dX3_push_126 : decode cX3_push 126 = .ok (.aload_n 0, 1) := by decide +kernel
theorem dX3_push_127 : decode cX3_push 127 = .ok (.dup, 1) := by decide +kernel
theorem dX3_push_128 : decode cX3_push 128 = .ok (.getfield 38, 3) := by decide +kernel
theorem dX3_push_131 : decode cX3_push 131 = .ok (.iconst 1, 1) := by decide +kernel
theorem dX3_push_132 : decode cX3_push 132 = .ok (.iadd, 1) := by decide +kernel
theorem dX3_push_133 : decode cX3_push 133 = .ok (.putfield 38, 3) := by decide +kernel
theorem dX3_push_136 : decode cX3_push 136 = .ok (.return_, 1) := by decide +kernel
theorem dX3_secondTop_0 : decode cX3_secondTop 0 = .ok (.aload_n 0, 1) := by decide +kernel
theorem dX3_secondTop_1 : decode cX3_secondTop 1 = .ok (.invokevirtual 42, 3) := by decide +kernel
theorem dX3_secondTop_4 : decode cX3_secondTop 4 = .ok (.istore_n 1, 1) := by decide +kernel
theorem dX3_secondTop_5 : decode cX3_secondTop 5 = .ok (.iload_n 1, 1) := by decide +kernel
theorem dX3_secondTop_6 : decode cX3_secondTop 6 = .ok (.iconst (-1), 1) := by decide +kernel
theorem dX3_secondTop_7 : decode cX3_secondTop 7 = .ok (.if_icmp .eq 10, 3) := by decide +kernel
theorem dX3_secondTop_10 : decode cX3_secondTop 10 = .ok (.aload_n 0, 1) := by decide +kernel
theorem dX3_secondTop_11 : decode cX3_secondTop 11 = .ok (.getfield 27, 3) := by decide +kernel
theorem dX3_secondTop_14 : decode cX3_secondTop 14 = .ok (.iload_n 1, 1) := by decide +kernel
theorem dX3_secondTop_15 : decode cX3_secondTop 15 = .ok (.iconst 1, 1) := by decide +kernel
theorem dX3_secondTop_16 : decode cX3_secondTop 16 = .ok (.bastore, 1) := by decide +kernel
theorem dX3_secondTop_17 : decode cX3_secondTop 17 = .ok (.return_, 1) := by decide +kernel
theorem dX3_debateTop_0 : decode cX3_debateTop 0 = .ok (.aload_n 0, 1) := by decide +kernel
theorem dX3_debateTop_1 : decode cX3_debateTop 1 = .ok (.invokevirtual 42, 3) := by decide +kernel
theorem dX3_debateTop_4 : decode cX3_debateTop 4 = .ok (.istore_n 1, 1) := by decide +kernel
theorem dX3_debateTop_5 : decode cX3_debateTop 5 = .ok (.iload_n 1, 1) := by decide +kernel
theorem dX3_debateTop_6 : decode cX3_debateTop 6 = .ok (.iconst (-1), 1) := by decide +kernel
theorem dX3_debateTop_7 : decode cX3_debateTop 7 = .ok (.if_icmp .eq 10, 3) := by decide +kernel
theorem dX3_debateTop_10 : decode cX3_debateTop 10 = .ok (.aload_n 0, 1) := by decide +kernel
theorem dX3_debateTop_11 : decode cX3_debateTop 11 = .ok (.getfield 31, 3) := by decide +kernel
theorem dX3_debateTop_14 : decode cX3_debateTop 14 = .ok (.iload_n 1, 1) := by decide +kernel
theorem dX3_debateTop_15 : decode cX3_debateTop 15 = .ok (.iconst 1, 1) := by decide +kernel
theorem dX3_debateTop_16 : decode cX3_debateTop 16 = .ok (.bastore, 1) := by decide +kernel
theorem dX3_debateTop_17 : decode cX3_debateTop 17 = .ok (.return_, 1) := by decide +kernel
theorem dX3_endDebate_0 : decode cX3_endDebate 0 = .ok (.iconst 0, 1) := by decide +kernel
theorem dX3_endDebate_1 : decode cX3_endDebate 1 = .ok (.istore_n 1, 1) := by decide +kernel
theorem dX3_endDebate_2 : decode cX3_endDebate 2 = .ok (.iload_n 1, 1) := by decide +kernel
theorem dX3_endDebate_3 : decode cX3_endDebate 3 = .ok (.aload_n 0, 1) := by decide +kernel
theorem dX3_endDebate_4 : decode cX3_endDebate 4 = .ok (.getfield 38, 3) := by decide +kernel
theorem dX3_endDebate_7 : decode cX3_endDebate 7 = .ok (.if_icmp .ge 22, 3) := by decide +kernel
theorem dX3_endDebate_10 : decode cX3_endDebate 10 = .ok (.iload_n 1, 1) := by decide +kernel
theorem dX3_endDebate_11 : decode cX3_endDebate 11 = .ok (.bipush 8, 2) := by decide +kernel
theorem dX3_endDebate_13 : decode cX3_endDebate 13 = .ok (.if_icmp .ge 16, 3) := by decide +kernel
theorem dX3_endDebate_16 : decode cX3_endDebate 16 = .ok (.aload_n 0, 1) := by decide +kernel
theorem dX3_endDebate_17 : decode cX3_endDebate 17 = .ok (.getfield 31, 3) := by decide +kernel
theorem dX3_endDebate_20 : decode cX3_endDebate 20 = .ok (.iload_n 1, 1) := by decide +kernel
theorem dX3_endDebate_21 : decode cX3_endDebate 21 = .ok (.iconst 1, 1) := by decide +kernel
theorem dX3_endDebate_22 : decode cX3_endDebate 22 = .ok (.bastore, 1) := by decide +kernel
theorem dX3_endDebate_23 : decode cX3_endDebate 23 = .ok (.iinc 1 1, 3) := by decide +kernel
theorem dX3_endDebate_26 : decode cX3_endDebate 26 = .ok (.goto (-24), 3) := by decide +kernel
theorem dX3_endDebate_29 : decode cX3_endDebate 29 = .ok (.return_, 1) := by decide +kernel
theorem dX3_tell_0 : decode cX3_tell 0 = .ok (.iload_n 1, 1) := by decide +kernel
theorem dX3_tell_1 : decode cX3_tell 1 = .ok (.ifCond .lt 17, 3) := by decide +kernel
theorem dX3_tell_4 : decode cX3_tell 4 = .ok (.iload_n 1, 1) := by decide +kernel
theorem dX3_tell_5 : decode cX3_tell 5 = .ok (.aload_n 0, 1) := by decide +kernel
theorem dX3_tell_6 : decode cX3_tell 6 = .ok (.getfield 38, 3) := by decide +kernel
theorem dX3_tell_9 : decode cX3_tell 9 = .ok (.if_icmp .ge 9, 3) := by decide +kernel
theorem dX3_tell_12 : decode cX3_tell 12 = .ok (.iload_n 1, 1) := by decide +kernel
theorem dX3_tell_13 : decode cX3_tell 13 = .ok (.bipush 8, 2) := by decide +kernel
theorem dX3_tell_15 : decode cX3_tell 15 = .ok (.if_icmp .lt 5, 3) := by decide +kernel
theorem dX3_tell_18 : decode cX3_tell 18 = .ok (.iconst (-1), 1) := by decide +kernel
theorem dX3_tell_19 : decode cX3_tell 19 = .ok (.ireturn, 1) := by decide +kernel
theorem dX3_tell_20 : decode cX3_tell 20 = .ok (.iload_n 2, 1) := by decide +kernel
theorem dX3_tell_21 : decode cX3_tell 21 = .ok (.tableswitch 97 0 5 #[39, 46, 53, 60, 67, 82], 39) := by decide +kernel
theorem dX3_tell_60 : decode cX3_tell 60 = .ok (.aload_n 0, 1) := by decide +kernel
theorem dX3_tell_61 : decode cX3_tell 61 = .ok (.getfield 9, 3) := by decide +kernel
theorem dX3_tell_64 : decode cX3_tell 64 = .ok (.iload_n 1, 1) := by decide +kernel
theorem dX3_tell_65 : decode cX3_tell 65 = .ok (.iaload, 1) := by decide +kernel
theorem dX3_tell_66 : decode cX3_tell 66 = .ok (.ireturn, 1) := by decide +kernel
theorem dX3_tell_67 : decode cX3_tell 67 = .ok (.aload_n 0, 1) := by decide +kernel
theorem dX3_tell_68 : decode cX3_tell 68 = .ok (.getfield 15, 3) := by decide +kernel
theorem dX3_tell_71 : decode cX3_tell 71 = .ok (.iload_n 1, 1) := by decide +kernel
theorem dX3_tell_72 : decode cX3_tell 72 = .ok (.iaload, 1) := by decide +kernel
theorem dX3_tell_73 : decode cX3_tell 73 = .ok (.ireturn, 1) := by decide +kernel
theorem dX3_tell_74 : decode cX3_tell 74 = .ok (.aload_n 0, 1) := by decide +kernel
theorem dX3_tell_75 : decode cX3_tell 75 = .ok (.getfield 18, 3) := by decide +kernel
theorem dX3_tell_78 : decode cX3_tell 78 = .ok (.iload_n 1, 1) := by decide +kernel
theorem dX3_tell_79 : decode cX3_tell 79 = .ok (.iaload, 1) := by decide +kernel
theorem dX3_tell_80 : decode cX3_tell 80 = .ok (.ireturn, 1) := by decide +kernel
theorem dX3_tell_81 : decode cX3_tell 81 = .ok (.aload_n 0, 1) := by decide +kernel
theorem dX3_tell_82 : decode cX3_tell 82 = .ok (.getfield 21, 3) := by decide +kernel
theorem dX3_tell_85 : decode cX3_tell 85 = .ok (.iload_n 1, 1) := by decide +kernel
theorem dX3_tell_86 : decode cX3_tell 86 = .ok (.iaload, 1) := by decide +kernel
theorem dX3_tell_87 : decode cX3_tell 87 = .ok (.ireturn, 1) := by decide +kernel
theorem dX3_tell_88 : decode cX3_tell 88 = .ok (.aload_n 0, 1) := by decide +kernel
theorem dX3_tell_89 : decode cX3_tell 89 = .ok (.getfield 27, 3) := by decide +kernel
theorem dX3_tell_92 : decode cX3_tell 92 = .ok (.iload_n 1, 1) := by decide +kernel
theorem dX3_tell_93 : decode cX3_tell 93 = .ok (.baload, 1) := by decide +kernel
theorem dX3_tell_94 : decode cX3_tell 94 = .ok (.ifCond .eq 7, 3) := by decide +kernel
theorem dX3_tell_97 : decode cX3_tell 97 = .ok (.iconst 1, 1) := by decide +kernel
theorem dX3_tell_98 : decode cX3_tell 98 = .ok (.goto 4, 3) := by decide +kernel
theorem dX3_tell_101 : decode cX3_tell 101 = .ok (.iconst 0, 1) := by decide +kernel
theorem dX3_tell_102 : decode cX3_tell 102 = .ok (.ireturn, 1) := by decide +kernel
theorem dX3_tell_103 : decode cX3_tell 103 = .ok (.aload_n 0, 1) := by decide +kernel
theorem dX3_tell_104 : decode cX3_tell 104 = .ok (.getfield 31, 3) := by decide +kernel
theorem dX3_tell_107 : decode cX3_tell 107 = .ok (.iload_n 1, 1) := by decide +kernel
theorem dX3_tell_108 : decode cX3_tell 108 = .ok (.baload, 1) := by decide +kernel
theorem dX3_tell_109 : decode cX3_tell 109 = .ok (.ifCond .eq 7, 3) := by decide +kernel
theorem dX3_tell_112 : decode cX3_tell 112 = .ok (.iconst 1, 1) := by decide +kernel
theorem dX3_tell_113 : decode cX3_tell 113 = .ok (.goto 4, 3) := by decide +kernel
theorem dX3_tell_116 : decode cX3_tell 116 = .ok (.iconst 0, 1) := by decide +kernel
theorem dX3_tell_117 : decode cX3_tell 117 = .ok (.ireturn, 1) := by decide +kernel
theorem dX3_tell_118 : decode cX3_tell 118 = .ok (.iconst (-1), 1) := by decide +kernel
theorem dX3_tell_119 : decode cX3_tell 119 = .ok (.ireturn, 1) := by decide +kernel
theorem dX4_init_0 : decode cX4_init 0 = .ok (.aload_n 0, 1) := by decide +kernel
theorem dX4_init_1 : decode cX4_init 1 = .ok (.invokespecial 3, 3) := by decide +kernel
theorem dX4_init_4 : decode cX4_init 4 = .ok (.aload_n 0, 1) := by decide +kernel
theorem dX4_init_5 : decode cX4_init 5 = .ok (.sipush 320, 3) := by decide +kernel
theorem dX4_init_8 : decode cX4_init 8 = .ok (.newarray .int, 2) := by decide +kernel
theorem dX4_init_10 : decode cX4_init 10 = .ok (.putfield 9, 3) := by decide +kernel
theorem dX4_init_13 : decode cX4_init 13 = .ok (.aload_n 0, 1) := by decide +kernel
theorem dX4_init_14 : decode cX4_init 14 = .ok (.sipush 320, 3) := by decide +kernel
theorem dX4_init_17 : decode cX4_init 17 = .ok (.newarray .int, 2) := by decide +kernel
theorem dX4_init_19 : decode cX4_init 19 = .ok (.putfield 15, 3) := by decide +kernel
theorem dX4_init_22 : decode cX4_init 22 = .ok (.aload_n 0, 1) := by decide +kernel
theorem dX4_init_23 : decode cX4_init 23 = .ok (.sipush 320, 3) := by decide +kernel
theorem dX4_init_26 : decode cX4_init 26 = .ok (.newarray .int, 2) := by decide +kernel
theorem dX4_init_28 : decode cX4_init 28 = .ok (.putfield 18, 3) := by decide +kernel
theorem dX4_init_31 : decode cX4_init 31 = .ok (.return_, 1) := by decide +kernel
theorem dX4_takeAway_0 : decode cX4_takeAway 0 = .ok (.aload_n 0, 1) := by decide +kernel
theorem dX4_takeAway_1 : decode cX4_takeAway 1 = .ok (.iconst 0, 1) := by decide +kernel
theorem dX4_takeAway_2 : decode cX4_takeAway 2 = .ok (.putfield 21, 3) := by decide +kernel
theorem dX4_takeAway_5 : decode cX4_takeAway 5 = .ok (.aload_n 0, 1) := by decide +kernel
theorem dX4_takeAway_6 : decode cX4_takeAway 6 = .ok (.iconst 0, 1) := by decide +kernel
theorem dX4_takeAway_7 : decode cX4_takeAway 7 = .ok (.putfield 25, 3) := by decide +kernel
theorem dX4_takeAway_10 : decode cX4_takeAway 10 = .ok (.aload_n 0, 1) := by decide +kernel
theorem dX4_takeAway_11 : decode cX4_takeAway 11 = .ok (.iconst 0, 1) := by decide +kernel
theorem dX4_takeAway_12 : decode cX4_takeAway 12 = .ok (.putfield 29, 3) := by decide +kernel
theorem dX4_takeAway_15 : decode cX4_takeAway 15 = .ok (.return_, 1) := by decide +kernel
theorem dX4_lay_0 : decode cX4_lay 0 = .ok (.iload_n 1, 1) := by decide +kernel
theorem dX4_lay_1 : decode cX4_lay 1 = .ok (.iconst 1, 1) := by decide +kernel
theorem dX4_lay_2 : decode cX4_lay 2 = .ok (.if_icmp .lt 9, 3) := by decide +kernel
theorem dX4_lay_5 : decode cX4_lay 5 = .ok (.iload_n 1, 1) := by decide +kernel
theorem dX4_lay_6 : decode cX4_lay 6 = .ok (.bipush 20, 2) := by decide +kernel
theorem dX4_lay_8 : decode cX4_lay 8 = .ok (.if_icmp .le 4, 3) := by decide +kernel
theorem dX4_lay_11 : decode cX4_lay 11 = .ok (.return_, 1) := by decide +kernel
theorem dX4_lay_12 : decode cX4_lay 12 = .ok (.aload_n 0, 1) := by decide +kernel
theorem dX4_lay_13 : decode cX4_lay 13 = .ok (.invokevirtual 32, 3) := by decide +kernel
theorem dX4_lay_16 : decode cX4_lay 16 = .ok (.aload_n 0, 1) := by decide +kernel
theorem dX4_lay_17 : decode cX4_lay 17 = .ok (.iconst 1, 1) := by decide +kernel
theorem dX4_lay_18 : decode cX4_lay 18 = .ok (.putfield 21, 3) := by decide +kernel
theorem dX4_lay_21 : decode cX4_lay 21 = .ok (.iconst 0, 1) := by decide +kernel
theorem dX4_lay_22 : decode cX4_lay 22 = .ok (.istore_n 3, 1) := by decide +kernel
theorem dX4_lay_23 : decode cX4_lay 23 = .ok (.iload_n 3, 1) := by decide +kernel
theorem dX4_lay_24 : decode cX4_lay 24 = .ok (.iload_n 1, 1) := by decide +kernel
theorem dX4_lay_25 : decode cX4_lay 25 = .ok (.if_icmp .ge 24, 3) := by decide +kernel
theorem dX4_lay_28 : decode cX4_lay 28 = .ok (.iload_n 3, 1) := by decide +kernel
theorem dX4_lay_29 : decode cX4_lay 29 = .ok (.sipush 320, 3) := by decide +kernel
theorem dX4_lay_32 : decode cX4_lay 32 = .ok (.if_icmp .ge 17, 3) := by decide +kernel
theorem dX4_lay_35 : decode cX4_lay 35 = .ok (.aload_n 0, 1) := by decide +kernel
theorem dX4_lay_36 : decode cX4_lay 36 = .ok (.iload_n 3, 1) := by decide +kernel
theorem dX4_lay_37 : decode cX4_lay 37 = .ok (.iload_n 2, 1) := by decide +kernel
theorem dX4_lay_38 : decode cX4_lay 38 = .ok (.iload_n 3, 1) := by decide +kernel
theorem dX4_lay_39 : decode cX4_lay 39 = .ok (.iadd, 1) := by decide +kernel
theorem dX4_lay_40 : decode cX4_lay 40 = .ok (.invokevirtual 35, 3) := by decide +kernel
theorem dX4_lay_43 : decode cX4_lay 43 = .ok (.iinc 3 1, 3) := by decide +kernel
theorem dX4_lay_46 : decode cX4_lay 46 = .ok (.goto (-23), 3) := by decide +kernel
theorem dX4_lay_49 : decode cX4_lay 49 = .ok (.return_, 1) := by decide +kernel
theorem dX4_wasEver_0 : decode cX4_wasEver 0 = .ok (.iload_n 1, 1) := by decide +kernel
theorem dX4_wasEver_1 : decode cX4_wasEver 1 = .ok (.ifCond .lt 22, 3) := by decide +kernel
theorem dX4_wasEver_4 : decode cX4_wasEver 4 = .ok (.iload_n 1, 1) := by decide +kernel
theorem dX4_wasEver_5 : decode cX4_wasEver 5 = .ok (.aload_n 0, 1) := by decide +kernel
theorem dX4_wasEver_6 : decode cX4_wasEver 6 = .ok (.getfield 25, 3) := by decide +kernel
theorem dX4_wasEver_9 : decode cX4_wasEver 9 = .ok (.if_icmp .ge 14, 3) := by decide +kernel
theorem dX4_wasEver_12 : decode cX4_wasEver 12 = .ok (.iload_n 1, 1) := by decide +kernel
theorem dX4_wasEver_13 : decode cX4_wasEver 13 = .ok (.sipush 320, 3) := by decide +kernel
theorem dX4_wasEver_16 : decode cX4_wasEver 16 = .ok (.if_icmp .ge 7, 3) := by decide +kernel
theorem dX4_wasEver_19 : decode cX4_wasEver 19 = .ok (.iconst 1, 1) := by decide +kernel
theorem dX4_wasEver_20 : decode cX4_wasEver 20 = .ok (.goto 4, 3) := by decide +kernel
theorem dX4_wasEver_23 : decode cX4_wasEver 23 = .ok (.iconst 0, 1) := by decide +kernel
theorem dX4_wasEver_24 : decode cX4_wasEver 24 = .ok (.ireturn, 1) := by decide +kernel
theorem dX4_isThere_0 : decode cX4_isThere 0 = .ok (.iload_n 1, 1) := by decide +kernel
theorem dX4_isThere_1 : decode cX4_isThere 1 = .ok (.ifCond .lt 31, 3) := by decide +kernel
theorem dX4_isThere_4 : decode cX4_isThere 4 = .ok (.iload_n 1, 1) := by decide +kernel
theorem dX4_isThere_5 : decode cX4_isThere 5 = .ok (.aload_n 0, 1) := by decide +kernel
theorem dX4_isThere_6 : decode cX4_isThere 6 = .ok (.getfield 25, 3) := by decide +kernel
theorem dX4_isThere_9 : decode cX4_isThere 9 = .ok (.if_icmp .ge 23, 3) := by decide +kernel
theorem dX4_isThere_12 : decode cX4_isThere 12 = .ok (.iload_n 1, 1) := by decide +kernel
theorem dX4_isThere_13 : decode cX4_isThere 13 = .ok (.sipush 320, 3) := by decide +kernel
theorem dX4_isThere_16 : decode cX4_isThere 16 = .ok (.if_icmp .ge 16, 3) := by decide +kernel
theorem dX4_isThere_19 : decode cX4_isThere 19 = .ok (.aload_n 0, 1) := by decide +kernel
theorem dX4_isThere_20 : decode cX4_isThere 20 = .ok (.getfield 18, 3) := by decide +kernel
theorem dX4_isThere_23 : decode cX4_isThere 23 = .ok (.iload_n 1, 1) := by decide +kernel
theorem dX4_isThere_24 : decode cX4_isThere 24 = .ok (.iaload, 1) := by decide +kernel
theorem dX4_isThere_25 : decode cX4_isThere 25 = .ok (.ifCond .ne 7, 3) := by decide +kernel
theorem dX4_isThere_28 : decode cX4_isThere 28 = .ok (.iconst 1, 1) := by decide +kernel
theorem dX4_isThere_29 : decode cX4_isThere 29 = .ok (.goto 4, 3) := by decide +kernel
theorem dX4_isThere_32 : decode cX4_isThere 32 = .ok (.iconst 0, 1) := by decide +kernel
theorem dX4_isThere_33 : decode cX4_isThere 33 = .ok (.ireturn, 1) := by decide +kernel
theorem dX4_mayAmend_0 : decode cX4_mayAmend 0 = .ok (.iload_n 1, 1) := by decide +kernel
theorem dX4_mayAmend_1 : decode cX4_mayAmend 1 = .ok (.iconst 4, 1) := by decide +kernel
theorem dX4_mayAmend_2 : decode cX4_mayAmend 2 = .ok (.idiv, 1) := by decide +kernel
theorem dX4_mayAmend_3 : decode cX4_mayAmend 3 = .ok (.istore_n 2, 1) := by decide +kernel
theorem dX4_mayAmend_4 : decode cX4_mayAmend 4 = .ok (.aload_n 0, 1) := by decide +kernel
theorem dX4_mayAmend_5 : decode cX4_mayAmend 5 = .ok (.iload_n 2, 1) := by decide +kernel
theorem dX4_mayAmend_6 : decode cX4_mayAmend 6 = .ok (.invokevirtual 39, 3) := by decide +kernel
theorem dX4_mayAmend_9 : decode cX4_mayAmend 9 = .ok (.ifCond .ne 5, 3) := by decide +kernel
theorem dX4_mayAmend_12 : decode cX4_mayAmend 12 = .ok (.iconst 0, 1) := by decide +kernel
theorem dX4_mayAmend_13 : decode cX4_mayAmend 13 = .ok (.ireturn, 1) := by decide +kernel
theorem dX4_mayAmend_14 : decode cX4_mayAmend 14 = .ok (.iload_n 1, 1) := by decide +kernel
theorem dX4_mayAmend_15 : decode cX4_mayAmend 15 = .ok (.iconst 4, 1) := by decide +kernel
theorem dX4_mayAmend_16 : decode cX4_mayAmend 16 = .ok (.irem, 1) := by decide +kernel
theorem dX4_mayAmend_17 : decode cX4_mayAmend 17 = .ok (.lookupswitch 57 #[(0, 27), (3, 42)], 27) := by decide +kernel
theorem dX4_mayAmend_44 : decode cX4_mayAmend 44 = .ok (.aload_n 0, 1) := by decide +kernel
theorem dX4_mayAmend_45 : decode cX4_mayAmend 45 = .ok (.getfield 29, 3) := by decide +kernel
theorem dX4_mayAmend_48 : decode cX4_mayAmend 48 = .ok (.bipush 40, 2) := by decide +kernel
theorem dX4_mayAmend_50 : decode cX4_mayAmend 50 = .ok (.if_icmp .ge 7, 3) := by decide +kernel
theorem dX4_mayAmend_53 : decode cX4_mayAmend 53 = .ok (.iconst 1, 1) := by decide +kernel
theorem dX4_mayAmend_54 : decode cX4_mayAmend 54 = .ok (.goto 4, 3) := by decide +kernel
theorem dX4_mayAmend_57 : decode cX4_mayAmend 57 = .ok (.iconst 0, 1) := by decide +kernel
theorem dX4_mayAmend_58 : decode cX4_mayAmend 58 = .ok (.ireturn, 1) := by decide +kernel
theorem dX4_mayAmend_59 : decode cX4_mayAmend 59 = .ok (.aload_n 0, 1) := by decide +kernel
theorem dX4_mayAmend_60 : decode cX4_mayAmend 60 = .ok (.iload_n 2, 1) := by decide +kernel
theorem dX4_mayAmend_61 : decode cX4_mayAmend 61 = .ok (.invokevirtual 43, 3) := by decide +kernel
theorem dX4_mayAmend_64 : decode cX4_mayAmend 64 = .ok (.iconst (-1), 1) := by decide +kernel
theorem dX4_mayAmend_65 : decode cX4_mayAmend 65 = .ok (.if_icmp .eq 7, 3) := by decide +kernel
theorem dX4_mayAmend_68 : decode cX4_mayAmend 68 = .ok (.iconst 1, 1) := by decide +kernel
theorem dX4_mayAmend_69 : decode cX4_mayAmend 69 = .ok (.goto 4, 3) := by decide +kernel
theorem dX4_mayAmend_72 : decode cX4_mayAmend 72 = .ok (.iconst 0, 1) := by decide +kernel
theorem dX4_mayAmend_73 : decode cX4_mayAmend 73 = .ok (.ireturn, 1) := by decide +kernel
theorem dX4_mayAmend_74 : decode cX4_mayAmend 74 = .ok (.iconst 1, 1) := by decide +kernel
theorem dX4_mayAmend_75 : decode cX4_mayAmend 75 = .ok (.ireturn, 1) := by decide +kernel
theorem dX4_amend_0 : decode cX4_amend 0 = .ok (.iload_n 1, 1) := by decide +kernel
theorem dX4_amend_1 : decode cX4_amend 1 = .ok (.iconst 4, 1) := by decide +kernel
theorem dX4_amend_2 : decode cX4_amend 2 = .ok (.idiv, 1) := by decide +kernel
theorem dX4_amend_3 : decode cX4_amend 3 = .ok (.istore_n 3, 1) := by decide +kernel
theorem dX4_amend_4 : decode cX4_amend 4 = .ok (.iload_n 1, 1) := by decide +kernel
theorem dX4_amend_5 : decode cX4_amend 5 = .ok (.iconst 4, 1) := by decide +kernel
theorem dX4_amend_6 : decode cX4_amend 6 = .ok (.irem, 1) := by decide +kernel
theorem dX4_amend_7 : decode cX4_amend 7 = .ok (.istore 4, 2) := by decide +kernel
theorem dX4_amend_9 : decode cX4_amend 9 = .ok (.iload 4, 2) := by decide +kernel
theorem dX4_amend_11 : decode cX4_amend 11 = .ok (.ifCond .ne 10, 3) := by decide +kernel
theorem dX4_amend_14 : decode cX4_amend 14 = .ok (.aload_n 0, 1) := by decide +kernel
theorem dX4_amend_15 : decode cX4_amend 15 = .ok (.iload_n 3, 1) := by decide +kernel
theorem dX4_amend_16 : decode cX4_amend 16 = .ok (.iload_n 2, 1) := by decide +kernel
theorem dX4_amend_17 : decode cX4_amend 17 = .ok (.invokevirtual 47, 3) := by decide +kernel
theorem dX4_amend_20 : decode cX4_amend 20 = .ok (.return_, 1) := by decide +kernel
theorem dX4_amend_21 : decode cX4_amend 21 = .ok (.aload_n 0, 1) := by decide +kernel
theorem dX4_amend_22 : decode cX4_amend 22 = .ok (.iload_n 3, 1) := by decide +kernel
theorem dX4_amend_23 : decode cX4_amend 23 = .ok (.invokevirtual 39, 3) := by decide +kernel
theorem dX4_amend_26 : decode cX4_amend 26 = .ok (.ifCond .ne 4, 3) := by decide +kernel
theorem dX4_amend_29 : decode cX4_amend 29 = .ok (.return_, 1) := by decide +kernel
theorem dX4_amend_30 : decode cX4_amend 30 = .ok (.iload 4, 2) := by decide +kernel
theorem dX4_amend_32 : decode cX4_amend 32 = .ok (.iconst 1, 1) := by decide +kernel
theorem dX4_amend_33 : decode cX4_amend 33 = .ok (.if_icmp .ne 11, 3) := by decide +kernel
theorem dX4_amend_36 : decode cX4_amend 36 = .ok (.aload_n 0, 1) := by decide +kernel
theorem dX4_amend_37 : decode cX4_amend 37 = .ok (.iload_n 3, 1) := by decide +kernel
theorem dX4_amend_38 : decode cX4_amend 38 = .ok (.invokevirtual 50, 3) := by decide +kernel
theorem dX4_amend_41 : decode cX4_amend 41 = .ok (.goto 59, 3) := by decide +kernel
theorem dX4_amend_44 : decode cX4_amend 44 = .ok (.iload 4, 2) := by decide +kernel
theorem dX4_amend_46 : decode cX4_amend 46 = .ok (.iconst 2, 1) := by decide +kernel
theorem dX4_amend_47 : decode cX4_amend 47 = .ok (.if_icmp .ne 13, 3) := by decide +kernel
theorem dX4_amend_50 : decode cX4_amend 50 = .ok (.aload_n 0, 1) := by decide +kernel
theorem dX4_amend_51 : decode cX4_amend 51 = .ok (.getfield 15, 3) := by decide +kernel
theorem dX4_amend_54 : decode cX4_amend 54 = .ok (.iload_n 3, 1) := by decide +kernel
theorem dX4_amend_55 : decode cX4_amend 55 = .ok (.iload_n 2, 1) := by decide +kernel
theorem dX4_amend_56 : decode cX4_amend 56 = .ok (.iastore, 1) := by decide +kernel
theorem dX4_amend_57 : decode cX4_amend 57 = .ok (.goto 43, 3) := by decide +kernel
theorem dX4_amend_60 : decode cX4_amend 60 = .ok (.iload 4, 2) := by decide +kernel
theorem dX4_amend_62 : decode cX4_amend 62 = .ok (.iconst 3, 1) := by decide +kernel
theorem dX4_amend_63 : decode cX4_amend 63 = .ok (.if_icmp .ne 37, 3) := by decide +kernel
theorem dX4_amend_66 : decode cX4_amend 66 = .ok (.aload_n 0, 1) := by decide +kernel
theorem dX4_amend_67 : decode cX4_amend 67 = .ok (.iload_n 3, 1) := by decide +kernel
theorem dX4_amend_68 : decode cX4_amend 68 = .ok (.invokevirtual 43, 3) := by decide +kernel
theorem dX4_amend_71 : decode cX4_amend 71 = .ok (.istore 5, 2) := by decide +kernel
theorem dX4_amend_73 : decode cX4_amend 73 = .ok (.aload_n 0, 1) := by decide +kernel
theorem dX4_amend_74 : decode cX4_amend 74 = .ok (.getfield 15, 3) := by decide +kernel
theorem dX4_amend_77 : decode cX4_amend 77 = .ok (.iload_n 3, 1) := by decide +kernel
theorem dX4_amend_78 : decode cX4_amend 78 = .ok (.aload_n 0, 1) := by decide +kernel
theorem dX4_amend_79 : decode cX4_amend 79 = .ok (.getfield 15, 3) := by decide +kernel
theorem dX4_amend_82 : decode cX4_amend 82 = .ok (.iload_n 3, 1) := by decide +kernel
theorem dX4_amend_83 : decode cX4_amend 83 = .ok (.iaload, 1) := by decide +kernel
theorem dX4_amend_84 : decode cX4_amend 84 = .ok (.aload_n 0, 1) := by decide +kernel
theorem dX4_amend_85 : decode cX4_amend 85 = .ok (.iload 5, 2) := by decide +kernel
theorem dX4_amend_87 : decode cX4_amend 87 = .ok (.invokevirtual 54, 3) := by decide +kernel
theorem dX4_amend_90 : decode cX4_amend 90 = .ok (.invokestatic 57, 3) := by decide +kernel
theorem dX4_amend_93 : decode cX4_amend 93 = .ok (.iastore, 1) := by decide +kernel
theorem dX4_amend_94 : decode cX4_amend 94 = .ok (.aload_n 0, 1) := by decide +kernel
theorem dX4_amend_95 : decode cX4_amend 95 = .ok (.iload 5, 2) := by decide +kernel
theorem dX4_amend_97 : decode cX4_amend 97 = .ok (.invokevirtual 50, 3) := by decide +kernel
theorem dX4_amend_100 : decode cX4_amend 100 = .ok (.return_, 1) := by decide +kernel
theorem dX4_numberAt_0 : decode cX4_numberAt 0 = .ok (.iconst 0, 1) := by decide +kernel
theorem dX4_numberAt_1 : decode cX4_numberAt 1 = .ok (.istore_n 2, 1) := by decide +kernel
theorem dX4_numberAt_2 : decode cX4_numberAt 2 = .ok (.iconst 0, 1) := by decide +kernel
theorem dX4_numberAt_3 : decode cX4_numberAt 3 = .ok (.istore_n 3, 1) := by decide +kernel
theorem dX4_numberAt_4 : decode cX4_numberAt 4 = .ok (.iload_n 3, 1) := by decide +kernel
theorem dX4_numberAt_5 : decode cX4_numberAt 5 = .ok (.aload_n 0, 1) := by decide +kernel
theorem dX4_numberAt_6 : decode cX4_numberAt 6 = .ok (.getfield 25, 3) := by decide +kernel
theorem dX4_numberAt_9 : decode cX4_numberAt 9 = .ok (.if_icmp .ge 44, 3) := by decide +kernel
theorem dX4_numberAt_12 : decode cX4_numberAt 12 = .ok (.iload_n 3, 1) := by decide +kernel
theorem dX4_numberAt_13 : decode cX4_numberAt 13 = .ok (.sipush 320, 3) := by decide +kernel
theorem dX4_numberAt_16 : decode cX4_numberAt 16 = .ok (.if_icmp .ge 37, 3) := by decide +kernel
theorem dX4_numberAt_19 : decode cX4_numberAt 19 = .ok (.aload_n 0, 1) := by decide +kernel
theorem dX4_numberAt_20 : decode cX4_numberAt 20 = .ok (.aload_n 0, 1) := by decide +kernel
theorem dX4_numberAt_21 : decode cX4_numberAt 21 = .ok (.getfield 9, 3) := by decide +kernel
theorem dX4_numberAt_24 : decode cX4_numberAt 24 = .ok (.iload_n 3, 1) := by decide +kernel
theorem dX4_numberAt_25 : decode cX4_numberAt 25 = .ok (.iaload, 1) := by decide +kernel
theorem dX4_numberAt_26 : decode cX4_numberAt 26 = .ok (.invokevirtual 39, 3) := by decide +kernel
theorem dX4_numberAt_29 : decode cX4_numberAt 29 = .ok (.ifCond .eq 18, 3) := by decide +kernel
theorem dX4_numberAt_32 : decode cX4_numberAt 32 = .ok (.iload_n 2, 1) := by decide +kernel
theorem dX4_numberAt_33 : decode cX4_numberAt 33 = .ok (.iload_n 1, 1) := by decide +kernel
theorem dX4_numberAt_34 : decode cX4_numberAt 34 = .ok (.if_icmp .ne 10, 3) := by decide +kernel
theorem dX4_numberAt_37 : decode cX4_numberAt 37 = .ok (.aload_n 0, 1) := by decide +kernel
theorem dX4_numberAt_38 : decode cX4_numberAt 38 = .ok (.getfield 9, 3) := by decide +kernel
theorem dX4_numberAt_41 : decode cX4_numberAt 41 = .ok (.iload_n 3, 1) := by decide +kernel
theorem dX4_numberAt_42 : decode cX4_numberAt 42 = .ok (.iaload, 1) := by decide +kernel
theorem dX4_numberAt_43 : decode cX4_numberAt 43 = .ok (.ireturn, 1) := by decide +kernel
theorem dX4_numberAt_44 : decode cX4_numberAt 44 = .ok (.iinc 2 1, 3) := by decide +kernel
theorem dX4_numberAt_47 : decode cX4_numberAt 47 = .ok (.iinc 3 1, 3) := by decide +kernel
theorem dX4_numberAt_50 : decode cX4_numberAt 50 = .ok (.goto (-46), 3) := by decide +kernel
theorem dX4_numberAt_53 : decode cX4_numberAt 53 = .ok (.iconst (-1), 1) := by decide +kernel
theorem dX4_numberAt_54 : decode cX4_numberAt 54 = .ok (.ireturn, 1) := by decide +kernel
theorem dX4_placeOf_0 : decode cX4_placeOf 0 = .ok (.iconst 0, 1) := by decide +kernel
theorem dX4_placeOf_1 : decode cX4_placeOf 1 = .ok (.istore_n 2, 1) := by decide +kernel
theorem dX4_placeOf_2 : decode cX4_placeOf 2 = .ok (.iconst 0, 1) := by decide +kernel
theorem dX4_placeOf_3 : decode cX4_placeOf 3 = .ok (.istore_n 3, 1) := by decide +kernel
theorem dX4_placeOf_4 : decode cX4_placeOf 4 = .ok (.iload_n 3, 1) := by decide +kernel
theorem dX4_placeOf_5 : decode cX4_placeOf 5 = .ok (.aload_n 0, 1) := by decide +kernel
theorem dX4_placeOf_6 : decode cX4_placeOf 6 = .ok (.getfield 25, 3) := by decide +kernel
theorem dX4_placeOf_9 : decode cX4_placeOf 9 = .ok (.if_icmp .ge 44, 3) := by decide +kernel
theorem dX4_placeOf_12 : decode cX4_placeOf 12 = .ok (.iload_n 3, 1) := by decide +kernel
theorem dX4_placeOf_13 : decode cX4_placeOf 13 = .ok (.sipush 320, 3) := by decide +kernel
theorem dX4_placeOf_16 : decode cX4_placeOf 16 = .ok (.if_icmp .ge 37, 3) := by decide +kernel
theorem dX4_placeOf_19 : decode cX4_placeOf 19 = .ok (.aload_n 0, 1) := by decide +kernel
theorem dX4_placeOf_20 : decode cX4_placeOf 20 = .ok (.aload_n 0, 1) := by decide +kernel
theorem dX4_placeOf_21 : decode cX4_placeOf 21 = .ok (.getfield 9, 3) := by decide +kernel
theorem dX4_placeOf_24 : decode cX4_placeOf 24 = .ok (.iload_n 3, 1) := by decide +kernel
theorem dX4_placeOf_25 : decode cX4_placeOf 25 = .ok (.iaload, 1) := by decide +kernel
theorem dX4_placeOf_26 : decode cX4_placeOf 26 = .ok (.invokevirtual 39, 3) := by decide +kernel
theorem dX4_placeOf_29 : decode cX4_placeOf 29 = .ok (.ifCond .eq 18, 3) := by decide +kernel
theorem dX4_placeOf_32 : decode cX4_placeOf 32 = .ok (.aload_n 0, 1) := by decide +kernel
theorem dX4_placeOf_33 : decode cX4_placeOf 33 = .ok (.getfield 9, 3) := by decide +kernel
theorem dX4_placeOf_36 : decode cX4_placeOf 36 = .ok (.iload_n 3, 1) := by decide +kernel
theorem dX4_placeOf_37 : decode cX4_placeOf 37 = .ok (.iaload, 1) := by decide +kernel
theorem dX4_placeOf_38 : decode cX4_placeOf 38 = .ok (.iload_n 1, 1) := by decide +kernel
theorem dX4_placeOf_39 : decode cX4_placeOf 39 = .ok (.if_icmp .ne 5, 3) := by decide +kernel
theorem dX4_placeOf_42 : decode cX4_placeOf 42 = .ok (.iload_n 2, 1) := by decide +kernel
theorem dX4_placeOf_43 : decode cX4_placeOf 43 = .ok (.ireturn, 1) := by decide +kernel
theorem dX4_placeOf_44 : decode cX4_placeOf 44 = .ok (.iinc 2 1, 3) := by decide +kernel
theorem dX4_placeOf_47 : decode cX4_placeOf 47 = .ok (.iinc 3 1, 3) := by decide +kernel
theorem dX4_placeOf_50 : decode cX4_placeOf 50 = .ok (.goto (-46), 3) := by decide +kernel
theorem dX4_placeOf_53 : decode cX4_placeOf 53 = .ok (.iconst (-1), 1) := by decide +kernel
theorem dX4_placeOf_54 : decode cX4_placeOf 54 = .ok (.ireturn, 1) := by decide +kernel
theorem dX4_textOf_0 : decode cX4_textOf 0 = .ok (.aload_n 0, 1) := by decide +kernel
theorem dX4_textOf_1 : decode cX4_textOf 1 = .ok (.iload_n 1, 1) := by decide +kernel
theorem dX4_textOf_2 : decode cX4_textOf 2 = .ok (.invokevirtual 39, 3) := by decide +kernel
theorem dX4_textOf_5 : decode cX4_textOf 5 = .ok (.ifCond .eq 12, 3) := by decide +kernel
theorem dX4_textOf_8 : decode cX4_textOf 8 = .ok (.aload_n 0, 1) := by decide +kernel
theorem dX4_textOf_9 : decode cX4_textOf 9 = .ok (.getfield 15, 3) := by decide +kernel
theorem dX4_textOf_12 : decode cX4_textOf 12 = .ok (.iload_n 1, 1) := by decide +kernel
theorem dX4_textOf_13 : decode cX4_textOf 13 = .ok (.iaload, 1) := by decide +kernel
theorem dX4_textOf_14 : decode cX4_textOf 14 = .ok (.goto 4, 3) := by decide +kernel
theorem dX4_textOf_17 : decode cX4_textOf 17 = .ok (.iconst (-1), 1) := by decide +kernel
theorem dX4_textOf_18 : decode cX4_textOf 18 = .ok (.ireturn, 1) := by decide +kernel
theorem dX4_remove_0 : decode cX4_remove 0 = .ok (.aload_n 0, 1) := by decide +kernel
theorem dX4_remove_1 : decode cX4_remove 1 = .ok (.iload_n 1, 1) := by decide +kernel
theorem dX4_remove_2 : decode cX4_remove 2 = .ok (.invokevirtual 39, 3) := by decide +kernel
theorem dX4_remove_5 : decode cX4_remove 5 = .ok (.ifCond .eq 23, 3) := by decide +kernel
theorem dX4_remove_8 : decode cX4_remove 8 = .ok (.aload_n 0, 1) := by decide +kernel
theorem dX4_remove_9 : decode cX4_remove 9 = .ok (.getfield 18, 3) := by decide +kernel
theorem dX4_remove_12 : decode cX4_remove 12 = .ok (.iload_n 1, 1) := by decide +kernel
theorem dX4_remove_13 : decode cX4_remove 13 = .ok (.aload_n 0, 1) := by decide +kernel
theorem dX4_remove_14 : decode cX4_remove 14 = .ok (.getfield 25, 3) := by decide +kernel
theorem dX4_remove_17 : decode cX4_remove 17 = .ok (.iastore, 1) := by decide +kernel
theorem dX4_remove_18 : decode cX4_remove 18 = .ok (.aload_n 0, 1) := by decide +kernel
theorem dX4_remove_19 : decode cX4_remove 19 = .ok (.dup, 1) := by decide +kernel
theorem dX4_remove_20 : decode cX4_remove 20 = .ok (.getfield 29, 3) := by decide +kernel
theorem dX4_remove_23 : decode cX4_remove 23 = .ok (.iconst 1, 1) := by decide +kernel
theorem dX4_remove_24 : decode cX4_remove 24 = .ok (.isub, 1) := by decide +kernel
theorem dX4_remove_25 : decode cX4_remove 25 = .ok (.putfield 29, 3) := by decide +kernel
theorem dX4_remove_28 : decode cX4_remove 28 = .ok (.return_, 1) := by decide +kernel
theorem dX4_behind_0 : decode cX4_behind 0 = .ok (.iconst 0, 1) := by decide +kernel
theorem dX4_behind_1 : decode cX4_behind 1 = .ok (.istore_n 2, 1) := by decide +kernel
theorem dX4_behind_2 : decode cX4_behind 2 = .ok (.iconst 0, 1) := by decide +kernel
theorem dX4_behind_3 : decode cX4_behind 3 = .ok (.istore_n 3, 1) := by decide +kernel
theorem dX4_behind_4 : decode cX4_behind 4 = .ok (.iload_n 3, 1) := by decide +kernel
theorem dX4_behind_5 : decode cX4_behind 5 = .ok (.aload_n 0, 1) := by decide +kernel
theorem dX4_behind_6 : decode cX4_behind 6 = .ok (.getfield 25, 3) := by decide +kernel
theorem dX4_behind_9 : decode cX4_behind 9 = .ok (.if_icmp .ge 60, 3) := by decide +kernel
theorem dX4_behind_12 : decode cX4_behind 12 = .ok (.iload_n 3, 1) := by decide +kernel
theorem dX4_behind_13 : decode cX4_behind 13 = .ok (.sipush 320, 3) := by decide +kernel
theorem dX4_behind_16 : decode cX4_behind 16 = .ok (.if_icmp .ge 53, 3) := by decide +kernel
theorem dX4_behind_19 : decode cX4_behind 19 = .ok (.iload_n 2, 1) := by decide +kernel
theorem dX4_behind_20 : decode cX4_behind 20 = .ok (.ifCond .eq 23, 3) := by decide +kernel
theorem dX4_behind_23 : decode cX4_behind 23 = .ok (.aload_n 0, 1) := by decide +kernel
theorem dX4_behind_24 : decode cX4_behind 24 = .ok (.aload_n 0, 1) := by decide +kernel
theorem dX4_behind_25 : decode cX4_behind 25 = .ok (.getfield 9, 3) := by decide +kernel
theorem dX4_behind_28 : decode cX4_behind 28 = .ok (.iload_n 3, 1) := by decide +kernel
theorem dX4_behind_29 : decode cX4_behind 29 = .ok (.iaload, 1) := by decide +kernel
theorem dX4_behind_30 : decode cX4_behind 30 = .ok (.invokevirtual 39, 3) := by decide +kernel
theorem dX4_behind_33 : decode cX4_behind 33 = .ok (.ifCond .eq 10, 3) := by decide +kernel
theorem dX4_behind_36 : decode cX4_behind 36 = .ok (.aload_n 0, 1) := by decide +kernel
theorem dX4_behind_37 : decode cX4_behind 37 = .ok (.getfield 9, 3) := by decide +kernel
theorem dX4_behind_40 : decode cX4_behind 40 = .ok (.iload_n 3, 1) := by decide +kernel
theorem dX4_behind_41 : decode cX4_behind 41 = .ok (.iaload, 1) := by decide +kernel
theorem dX4_behind_42 : decode cX4_behind 42 = .ok (.ireturn, 1) := by decide +kernel
theorem dX4_behind_43 : decode cX4_behind 43 = .ok (.iload_n 2, 1) := by decide +kernel
theorem dX4_behind_44 : decode cX4_behind 44 = .ok (.ifCond .ne 13, 3) := by decide +kernel
theorem dX4_behind_47 : decode cX4_behind 47 = .ok (.aload_n 0, 1) := by decide +kernel
theorem dX4_behind_48 : decode cX4_behind 48 = .ok (.getfield 9, 3) := by decide +kernel
theorem dX4_behind_51 : decode cX4_behind 51 = .ok (.iload_n 3, 1) := by decide +kernel
theorem dX4_behind_52 : decode cX4_behind 52 = .ok (.iaload, 1) := by decide +kernel
theorem dX4_behind_53 : decode cX4_behind 53 = .ok (.iload_n 1, 1) := by decide +kernel
theorem dX4_behind_54 : decode cX4_behind 54 = .ok (.if_icmp .ne 7, 3) := by decide +kernel
theorem dX4_behind_57 : decode cX4_behind 57 = .ok (.iconst 1, 1) := by decide +kernel
theorem dX4_behind_58 : decode cX4_behind 58 = .ok (.goto 4, 3) := by decide +kernel
theorem dX4_behind_61 : decode cX4_behind 61 = .ok (.iconst 0, 1) := by decide +kernel
theorem dX4_behind_62 : decode cX4_behind 62 = .ok (.istore_n 2, 1) := by decide +kernel
theorem dX4_behind_63 : decode cX4_behind 63 = .ok (.iinc 3 1, 3) := by decide +kernel
theorem dX4_behind_66 : decode cX4_behind 66 = .ok (.goto (-62), 3) := by decide +kernel
theorem dX4_behind_69 : decode cX4_behind 69 = .ok (.iconst (-1), 1) := by decide +kernel
theorem dX4_behind_70 : decode cX4_behind 70 = .ok (.ireturn, 1) := by decide +kernel
theorem dX4_addBehind_0 : decode cX4_addBehind 0 = .ok (.aload_n 0, 1) := by decide +kernel
theorem dX4_addBehind_1 : decode cX4_addBehind 1 = .ok (.iload_n 1, 1) := by decide +kernel
theorem dX4_addBehind_2 : decode cX4_addBehind 2 = .ok (.invokevirtual 63, 3) := by decide +kernel
theorem dX4_addBehind_5 : decode cX4_addBehind 5 = .ok (.ifCond .eq 12, 3) := by decide +kernel
theorem dX4_addBehind_8 : decode cX4_addBehind 8 = .ok (.aload_n 0, 1) := by decide +kernel
theorem dX4_addBehind_9 : decode cX4_addBehind 9 = .ok (.getfield 29, 3) := by decide +kernel
theorem dX4_addBehind_12 : decode cX4_addBehind 12 = .ok (.bipush 40, 2) := by decide +kernel
theorem dX4_addBehind_14 : decode cX4_addBehind 14 = .ok (.if_icmp .lt 4, 3) := by decide +kernel
theorem dX4_addBehind_17 : decode cX4_addBehind 17 = .ok (.return_, 1) := by decide +kernel
theorem dX4_addBehind_18 : decode cX4_addBehind 18 = .ok (.aload_n 0, 1) := by decide +kernel
theorem dX4_addBehind_19 : decode cX4_addBehind 19 = .ok (.iload_n 1, 1) := by decide +kernel
theorem dX4_addBehind_20 : decode cX4_addBehind 20 = .ok (.invokevirtual 39, 3) := by decide +kernel
theorem dX4_addBehind_23 : decode cX4_addBehind 23 = .ok (.ifCond .eq 10, 3) := by decide +kernel
theorem dX4_addBehind_26 : decode cX4_addBehind 26 = .ok (.aload_n 0, 1) := by decide +kernel
theorem dX4_addBehind_27 : decode cX4_addBehind 27 = .ok (.getfield 25, 3) := by decide +kernel
theorem dX4_addBehind_30 : decode cX4_addBehind 30 = .ok (.goto 9, 3) := by decide +kernel
theorem dX4_addBehind_33 : decode cX4_addBehind 33 = .ok (.aload_n 0, 1) := by decide +kernel
theorem dX4_addBehind_34 : decode cX4_addBehind 34 = .ok (.getfield 18, 3) := by decide +kernel
theorem dX4_addBehind_37 : decode cX4_addBehind 37 = .ok (.iload_n 1, 1) := by decide +kernel
theorem dX4_addBehind_38 : decode cX4_addBehind 38 = .ok (.iaload, 1) := by decide +kernel
theorem dX4_addBehind_39 : decode cX4_addBehind 39 = .ok (.istore_n 3, 1) := by decide +kernel
theorem dX4_addBehind_40 : decode cX4_addBehind 40 = .ok (.iconst 0, 1) := by decide +kernel
theorem dX4_addBehind_41 : decode cX4_addBehind 41 = .ok (.istore 4, 2) := by decide +kernel
theorem dX4_addBehind_43 : decode cX4_addBehind 43 = .ok (.iconst 0, 1) := by decide +kernel
theorem dX4_addBehind_44 : decode cX4_addBehind 44 = .ok (.istore 5, 2) := by decide +kernel
theorem dX4_addBehind_46 : decode cX4_addBehind 46 = .ok (.iload 5, 2) := by decide +kernel
theorem dX4_addBehind_48 : decode cX4_addBehind 48 = .ok (.aload_n 0, 1) := by decide +kernel
theorem dX4_addBehind_49 : decode cX4_addBehind 49 = .ok (.getfield 25, 3) := by decide +kernel
theorem dX4_addBehind_52 : decode cX4_addBehind 52 = .ok (.if_icmp .ge 62, 3) := by decide +kernel
theorem dX4_addBehind_55 : decode cX4_addBehind 55 = .ok (.iload 5, 2) := by decide +kernel
theorem dX4_addBehind_57 : decode cX4_addBehind 57 = .ok (.sipush 320, 3) := by decide +kernel
theorem dX4_addBehind_60 : decode cX4_addBehind 60 = .ok (.if_icmp .ge 54, 3) := by decide +kernel
theorem dX4_addBehind_63 : decode cX4_addBehind 63 = .ok (.aload_n 0, 1) := by decide +kernel
theorem dX4_addBehind_64 : decode cX4_addBehind 64 = .ok (.aload_n 0, 1) := by decide +kernel
theorem dX4_addBehind_65 : decode cX4_addBehind 65 = .ok (.getfield 9, 3) := by decide +kernel
theorem dX4_addBehind_68 : decode cX4_addBehind 68 = .ok (.iload 5, 2) := by decide +kernel
theorem dX4_addBehind_70 : decode cX4_addBehind 70 = .ok (.iaload, 1) := by decide +kernel
theorem dX4_addBehind_71 : decode cX4_addBehind 71 = .ok (.invokevirtual 39, 3) := by decide +kernel
theorem dX4_addBehind_74 : decode cX4_addBehind 74 = .ok (.ifCond .eq 20, 3) := by decide +kernel
theorem dX4_addBehind_77 : decode cX4_addBehind 77 = .ok (.aload_n 0, 1) := by decide +kernel
theorem dX4_addBehind_78 : decode cX4_addBehind 78 = .ok (.getfield 9, 3) := by decide +kernel
theorem dX4_addBehind_81 : decode cX4_addBehind 81 = .ok (.iload 5, 2) := by decide +kernel
theorem dX4_addBehind_83 : decode cX4_addBehind 83 = .ok (.iaload, 1) := by decide +kernel
theorem dX4_addBehind_84 : decode cX4_addBehind 84 = .ok (.iload_n 3, 1) := by decide +kernel
theorem dX4_addBehind_85 : decode cX4_addBehind 85 = .ok (.if_icmp .ge 9, 3) := by decide +kernel
theorem dX4_addBehind_88 : decode cX4_addBehind 88 = .ok (.iload 5, 2) := by decide +kernel
theorem dX4_addBehind_90 : decode cX4_addBehind 90 = .ok (.iconst 1, 1) := by decide +kernel
theorem dX4_addBehind_91 : decode cX4_addBehind 91 = .ok (.iadd, 1) := by decide +kernel
theorem dX4_addBehind_92 : decode cX4_addBehind 92 = .ok (.istore 4, 2) := by decide +kernel
theorem dX4_addBehind_94 : decode cX4_addBehind 94 = .ok (.aload_n 0, 1) := by decide +kernel
theorem dX4_addBehind_95 : decode cX4_addBehind 95 = .ok (.getfield 9, 3) := by decide +kernel
theorem dX4_addBehind_98 : decode cX4_addBehind 98 = .ok (.iload 5, 2) := by decide +kernel
theorem dX4_addBehind_100 : decode cX4_addBehind 100 = .ok (.iaload, 1) := by decide +kernel
theorem dX4_addBehind_101 : decode cX4_addBehind 101 = .ok (.iload_n 1, 1) := by decide +kernel
theorem dX4_addBehind_102 : decode cX4_addBehind 102 = .ok (.if_icmp .ne 6, 3) := by decide +kernel
theorem dX4_addBehind_105 : decode cX4_addBehind 105 = .ok (.goto 9, 3) := by decide +kernel
theorem dX4_addBehind_108 : decode cX4_addBehind 108 = .ok (.iinc 5 1, 3) := by decide +kernel
theorem dX4_addBehind_111 : decode cX4_addBehind 111 = .ok (.goto (-65), 3) := by decide +kernel
theorem dX4_addBehind_114 : decode cX4_addBehind 114 = .ok (.aload_n 0, 1) := by decide +kernel
theorem dX4_addBehind_115 : decode cX4_addBehind 115 = .ok (.iload 4, 2) := by decide +kernel
theorem dX4_addBehind_117 : decode cX4_addBehind 117 = .ok (.iload_n 2, 1) := by decide +kernel
theorem dX4_addBehind_118 : decode cX4_addBehind 118 = .ok (.invokevirtual 35, 3) := by decide +kernel
theorem dX4_addBehind_121 : decode cX4_addBehind 121 = .ok (.return_, 1) := by decide +kernel
theorem dX4_insert_0 : decode cX4_insert 0 = .ok (.aload_n 0, 1) := by decide +kernel
theorem dX4_insert_1 : decode cX4_insert 1 = .ok (.getfield 25, 3) := by decide +kernel
theorem dX4_insert_4 : decode cX4_insert 4 = .ok (.ifCond .lt 25, 3) := by decide +kernel
theorem dX4_insert_7 : decode cX4_insert 7 = .ok (.aload_n 0, 1) := by decide +kernel
theorem dX4_insert_8 : decode cX4_insert 8 = .ok (.getfield 25, 3) := by decide +kernel
theorem dX4_insert_11 : decode cX4_insert 11 = .ok (.sipush 320, 3) := by decide +kernel
theorem dX4_insert_14 : decode cX4_insert 14 = .ok (.if_icmp .ge 15, 3) := by decide +kernel
theorem dX4_insert_17 : decode cX4_insert 17 = .ok (.iload_n 1, 1) := by decide +kernel
theorem dX4_insert_18 : decode cX4_insert 18 = .ok (.ifCond .lt 11, 3) := by decide +kernel
theorem dX4_insert_21 : decode cX4_insert 21 = .ok (.iload_n 1, 1) := by decide +kernel
theorem dX4_insert_22 : decode cX4_insert 22 = .ok (.aload_n 0, 1) := by decide +kernel
