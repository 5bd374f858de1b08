theorem dX0_init_0 : decode cX0_init 0 = .ok (.aload_n 0, 1) := by decide +kernel
theorem dX0_init_1 : decode cX0_init 1 = .ok (.invokespecial 3, 3) := by decide +kernel
theorem dX0_init_4 : decode cX0_init 4 = .ok (.aload_n 0, 1) := by decide +kernel
theorem dX0_init_5 : decode cX0_init 5 = .ok (.bipush 24, 2) := by decide +kernel
theorem dX0_init_7 : decode cX0_init 7 = .ok (.newarray .int, 2) := by decide +kernel
theorem dX0_init_9 : decode cX0_init 9 = .ok (.putfield 9, 3) := by decide +kernel
theorem dX0_init_12 : decode cX0_init 12 = .ok (.aload_n 0, 1) := by decide +kernel
theorem dX0_init_13 : decode cX0_init 13 = .ok (.bipush 24, 2) := by decide +kernel
theorem dX0_init_15 : decode cX0_init 15 = .ok (.newarray .int, 2) := by decide +kernel
theorem dX0_init_17 : decode cX0_init 17 = .ok (.putfield 15, 3) := by decide +kernel
theorem dX0_init_20 : decode cX0_init 20 = .ok (.aload_n 0, 1) := by decide +kernel
theorem dX0_init_21 : decode cX0_init 21 = .ok (.iconst (-1), 1) := by decide +kernel
theorem dX0_init_22 : decode cX0_init 22 = .ok (.putfield 18, 3) := by decide +kernel
theorem dX0_init_25 : decode cX0_init 25 = .ok (.aload_n 0, 1) := by decide +kernel
theorem dX0_init_26 : decode cX0_init 26 = .ok (.aload_n 1, 1) := by decide +kernel
theorem dX0_init_27 : decode cX0_init 27 = .ok (.putfield 22, 3) := by decide +kernel
theorem dX0_init_30 : decode cX0_init 30 = .ok (.aload_n 0, 1) := by decide +kernel
theorem dX0_init_31 : decode cX0_init 31 = .ok (.aload_n 2, 1) := by decide +kernel
theorem dX0_init_32 : decode cX0_init 32 = .ok (.putfield 26, 3) := by decide +kernel
theorem dX0_init_35 : decode cX0_init 35 = .ok (.return_, 1) := by decide +kernel
theorem dX0_clear_0 : decode cX0_clear 0 = .ok (.iconst 0, 1) := by decide +kernel
theorem dX0_clear_1 : decode cX0_clear 1 = .ok (.istore_n 1, 1) := by decide +kernel
theorem dX0_clear_2 : decode cX0_clear 2 = .ok (.iload_n 1, 1) := by decide +kernel
theorem dX0_clear_3 : decode cX0_clear 3 = .ok (.bipush 24, 2) := by decide +kernel
theorem dX0_clear_5 : decode cX0_clear 5 = .ok (.if_icmp .ge 16, 3) := by decide +kernel
theorem dX0_clear_8 : decode cX0_clear 8 = .ok (.aload_n 0, 1) := by decide +kernel
theorem dX0_clear_9 : decode cX0_clear 9 = .ok (.getfield 15, 3) := by decide +kernel
theorem dX0_clear_12 : decode cX0_clear 12 = .ok (.iload_n 1, 1) := by decide +kernel
theorem dX0_clear_13 : decode cX0_clear 13 = .ok (.iconst 0, 1) := by decide +kernel
theorem dX0_clear_14 : decode cX0_clear 14 = .ok (.iastore, 1) := by decide +kernel
theorem dX0_clear_15 : decode cX0_clear 15 = .ok (.iinc 1 1, 3) := by decide +kernel
theorem dX0_clear_18 : decode cX0_clear 18 = .ok (.goto (-16), 3) := by decide +kernel
theorem dX0_clear_21 : decode cX0_clear 21 = .ok (.aload_n 0, 1) := by decide +kernel
theorem dX0_clear_22 : decode cX0_clear 22 = .ok (.iconst 0, 1) := by decide +kernel
theorem dX0_clear_23 : decode cX0_clear 23 = .ok (.putfield 29, 3) := by decide +kernel
theorem dX0_clear_26 : decode cX0_clear 26 = .ok (.aload_n 0, 1) := by decide +kernel
theorem dX0_clear_27 : decode cX0_clear 27 = .ok (.invokevirtual 32, 3) := by decide +kernel
theorem dX0_clear_30 : decode cX0_clear 30 = .ok (.return_, 1) := by decide +kernel
theorem dX0_copyFrom_0 : decode cX0_copyFrom 0 = .ok (.iconst 0, 1) := by decide +kernel
theorem dX0_copyFrom_1 : decode cX0_copyFrom 1 = .ok (.istore_n 2, 1) := by decide +kernel
theorem dX0_copyFrom_2 : decode cX0_copyFrom 2 = .ok (.iload_n 2, 1) := by decide +kernel
theorem dX0_copyFrom_3 : decode cX0_copyFrom 3 = .ok (.bipush 24, 2) := by decide +kernel
theorem dX0_copyFrom_5 : decode cX0_copyFrom 5 = .ok (.if_icmp .ge 33, 3) := by decide +kernel
theorem dX0_copyFrom_8 : decode cX0_copyFrom 8 = .ok (.aload_n 0, 1) := by decide +kernel
theorem dX0_copyFrom_9 : decode cX0_copyFrom 9 = .ok (.getfield 9, 3) := by decide +kernel
theorem dX0_copyFrom_12 : decode cX0_copyFrom 12 = .ok (.iload_n 2, 1) := by decide +kernel
theorem dX0_copyFrom_13 : decode cX0_copyFrom 13 = .ok (.aload_n 1, 1) := by decide +kernel
theorem dX0_copyFrom_14 : decode cX0_copyFrom 14 = .ok (.getfield 9, 3) := by decide +kernel
theorem dX0_copyFrom_17 : decode cX0_copyFrom 17 = .ok (.iload_n 2, 1) := by decide +kernel
theorem dX0_copyFrom_18 : decode cX0_copyFrom 18 = .ok (.iaload, 1) := by decide +kernel
theorem dX0_copyFrom_19 : decode cX0_copyFrom 19 = .ok (.iastore, 1) := by decide +kernel
theorem dX0_copyFrom_20 : decode cX0_copyFrom 20 = .ok (.aload_n 0, 1) := by decide +kernel
theorem dX0_copyFrom_21 : decode cX0_copyFrom 21 = .ok (.getfield 15, 3) := by decide +kernel
theorem dX0_copyFrom_24 : decode cX0_copyFrom 24 = .ok (.iload_n 2, 1) := by decide +kernel
theorem dX0_copyFrom_25 : decode cX0_copyFrom 25 = .ok (.aload_n 1, 1) := by decide +kernel
theorem dX0_copyFrom_26 : decode cX0_copyFrom 26 = .ok (.getfield 15, 3) := by decide +kernel
theorem dX0_copyFrom_29 : decode cX0_copyFrom 29 = .ok (.iload_n 2, 1) := by decide +kernel
theorem dX0_copyFrom_30 : decode cX0_copyFrom 30 = .ok (.iaload, 1) := by decide +kernel
theorem dX0_copyFrom_31 : decode cX0_copyFrom 31 = .ok (.iastore, 1) := by decide +kernel
theorem dX0_copyFrom_32 : decode cX0_copyFrom 32 = .ok (.iinc 2 1, 3) := by decide +kernel
theorem dX0_copyFrom_35 : decode cX0_copyFrom 35 = .ok (.goto (-33), 3) := by decide +kernel
theorem dX0_copyFrom_38 : decode cX0_copyFrom 38 = .ok (.aload_n 0, 1) := by decide +kernel
theorem dX0_copyFrom_39 : decode cX0_copyFrom 39 = .ok (.aload_n 1, 1) := by decide +kernel
theorem dX0_copyFrom_40 : decode cX0_copyFrom 40 = .ok (.getfield 29, 3) := by decide +kernel
theorem dX0_copyFrom_43 : decode cX0_copyFrom 43 = .ok (.putfield 29, 3) := by decide +kernel
theorem dX0_copyFrom_46 : decode cX0_copyFrom 46 = .ok (.aload_n 0, 1) := by decide +kernel
theorem dX0_copyFrom_47 : decode cX0_copyFrom 47 = .ok (.aload_n 1, 1) := by decide +kernel
theorem dX0_copyFrom_48 : decode cX0_copyFrom 48 = .ok (.getfield 18, 3) := by decide +kernel
theorem dX0_copyFrom_51 : decode cX0_copyFrom 51 = .ok (.putfield 18, 3) := by decide +kernel
theorem dX0_copyFrom_54 : decode cX0_copyFrom 54 = .ok (.aload_n 0, 1) := by decide +kernel
theorem dX0_copyFrom_55 : decode cX0_copyFrom 55 = .ok (.aload_n 1, 1) := by decide +kernel
theorem dX0_copyFrom_56 : decode cX0_copyFrom 56 = .ok (.getfield 35, 3) := by decide +kernel
theorem dX0_copyFrom_59 : decode cX0_copyFrom 59 = .ok (.putfield 35, 3) := by decide +kernel
theorem dX0_copyFrom_62 : decode cX0_copyFrom 62 = .ok (.aload_n 0, 1) := by decide +kernel
theorem dX0_copyFrom_63 : decode cX0_copyFrom 63 = .ok (.aload_n 1, 1) := by decide +kernel
theorem dX0_copyFrom_64 : decode cX0_copyFrom 64 = .ok (.getfield 38, 3) := by decide +kernel
theorem dX0_copyFrom_67 : decode cX0_copyFrom 67 = .ok (.putfield 38, 3) := by decide +kernel
theorem dX0_copyFrom_70 : decode cX0_copyFrom 70 = .ok (.return_, 1) := by decide +kernel
theorem dX0_setFree_0 : decode cX0_setFree 0 = .ok (.aload_n 0, 1) := by decide +kernel
theorem dX0_setFree_1 : decode cX0_setFree 1 = .ok (.iconst (-1), 1) := by decide +kernel
theorem dX0_setFree_2 : decode cX0_setFree 2 = .ok (.putfield 18, 3) := by decide +kernel
theorem dX0_setFree_5 : decode cX0_setFree 5 = .ok (.aload_n 0, 1) := by decide +kernel
theorem dX0_setFree_6 : decode cX0_setFree 6 = .ok (.iconst 0, 1) := by decide +kernel
theorem dX0_setFree_7 : decode cX0_setFree 7 = .ok (.putfield 35, 3) := by decide +kernel
theorem dX0_setFree_10 : decode cX0_setFree 10 = .ok (.aload_n 0, 1) := by decide +kernel
theorem dX0_setFree_11 : decode cX0_setFree 11 = .ok (.iconst 0, 1) := by decide +kernel
theorem dX0_setFree_12 : decode cX0_setFree 12 = .ok (.putfield 38, 3) := by decide +kernel
theorem dX0_setFree_15 : decode cX0_setFree 15 = .ok (.return_, 1) := by decide +kernel
theorem dX0_queuePlaceOf_0 : decode cX0_queuePlaceOf 0 = .ok (.iconst 0, 1) := by decide +kernel
theorem dX0_queuePlaceOf_1 : decode cX0_queuePlaceOf 1 = .ok (.istore_n 2, 1) := by decide +kernel
theorem dX0_queuePlaceOf_2 : decode cX0_queuePlaceOf 2 = .ok (.iload_n 2, 1) := by decide +kernel
theorem dX0_queuePlaceOf_3 : decode cX0_queuePlaceOf 3 = .ok (.aload_n 0, 1) := by decide +kernel
theorem dX0_queuePlaceOf_4 : decode cX0_queuePlaceOf 4 = .ok (.getfield 29, 3) := by decide +kernel
theorem dX0_queuePlaceOf_7 : decode cX0_queuePlaceOf 7 = .ok (.if_icmp .ge 27, 3) := by decide +kernel
theorem dX0_queuePlaceOf_10 : decode cX0_queuePlaceOf 10 = .ok (.iload_n 2, 1) := by decide +kernel
theorem dX0_queuePlaceOf_11 : decode cX0_queuePlaceOf 11 = .ok (.bipush 24, 2) := by decide +kernel
theorem dX0_queuePlaceOf_13 : decode cX0_queuePlaceOf 13 = .ok (.if_icmp .ge 21, 3) := by decide +kernel
theorem dX0_queuePlaceOf_16 : decode cX0_queuePlaceOf 16 = .ok (.aload_n 0, 1) := by decide +kernel
theorem dX0_queuePlaceOf_17 : decode cX0_queuePlaceOf 17 = .ok (.getfield 9, 3) := by decide +kernel
theorem dX0_queuePlaceOf_20 : decode cX0_queuePlaceOf 20 = .ok (.iload_n 2, 1) := by decide +kernel
theorem dX0_queuePlaceOf_21 : decode cX0_queuePlaceOf 21 = .ok (.iaload, 1) := by decide +kernel
theorem dX0_queuePlaceOf_22 : decode cX0_queuePlaceOf 22 = .ok (.iload_n 1, 1) := by decide +kernel
theorem dX0_queuePlaceOf_23 : decode cX0_queuePlaceOf 23 = .ok (.if_icmp .ne 5, 3) := by decide +kernel
theorem dX0_queuePlaceOf_26 : decode cX0_queuePlaceOf 26 = .ok (.iload_n 2, 1) := by decide +kernel
theorem dX0_queuePlaceOf_27 : decode cX0_queuePlaceOf 27 = .ok (.ireturn, 1) := by decide +kernel
theorem dX0_queuePlaceOf_28 : decode cX0_queuePlaceOf 28 = .ok (.iinc 2 1, 3) := by decide +kernel
theorem dX0_queuePlaceOf_31 : decode cX0_queuePlaceOf 31 = .ok (.goto (-29), 3) := by decide +kernel
theorem dX0_queuePlaceOf_34 : decode cX0_queuePlaceOf 34 = .ok (.iconst (-1), 1) := by decide +kernel
theorem dX0_queuePlaceOf_35 : decode cX0_queuePlaceOf 35 = .ok (.ireturn, 1) := by decide +kernel
theorem dX0_mayAsk_0 : decode cX0_mayAsk 0 = .ok (.aload_n 0, 1) := by decide +kernel
theorem dX0_mayAsk_1 : decode cX0_mayAsk 1 = .ok (.iload_n 1, 1) := by decide +kernel
theorem dX0_mayAsk_2 : decode cX0_mayAsk 2 = .ok (.invokevirtual 42, 3) := by decide +kernel
theorem dX0_mayAsk_5 : decode cX0_mayAsk 5 = .ok (.iconst (-1), 1) := by decide +kernel
theorem dX0_mayAsk_6 : decode cX0_mayAsk 6 = .ok (.if_icmp .ne 15, 3) := by decide +kernel
theorem dX0_mayAsk_9 : decode cX0_mayAsk 9 = .ok (.aload_n 0, 1) := by decide +kernel
theorem dX0_mayAsk_10 : decode cX0_mayAsk 10 = .ok (.getfield 18, 3) := by decide +kernel
theorem dX0_mayAsk_13 : decode cX0_mayAsk 13 = .ok (.iload_n 1, 1) := by decide +kernel
theorem dX0_mayAsk_14 : decode cX0_mayAsk 14 = .ok (.if_icmp .eq 7, 3) := by decide +kernel
theorem dX0_mayAsk_17 : decode cX0_mayAsk 17 = .ok (.iconst 1, 1) := by decide +kernel
theorem dX0_mayAsk_18 : decode cX0_mayAsk 18 = .ok (.goto 4, 3) := by decide +kernel
theorem dX0_mayAsk_21 : decode cX0_mayAsk 21 = .ok (.iconst 0, 1) := by decide +kernel
theorem dX0_mayAsk_22 : decode cX0_mayAsk 22 = .ok (.ireturn, 1) := by decide +kernel
theorem dX0_mayYieldTo_0 : decode cX0_mayYieldTo 0 = .ok (.aload_n 0, 1) := by decide +kernel
theorem dX0_mayYieldTo_1 : decode cX0_mayYieldTo 1 = .ok (.getfield 22, 3) := by decide +kernel
theorem dX0_mayYieldTo_4 : decode cX0_mayYieldTo 4 = .ok (.getfield 46, 3) := by decide +kernel
theorem dX0_mayYieldTo_7 : decode cX0_mayYieldTo 7 = .ok (.ifCond .eq 30, 3) := by decide +kernel
theorem dX0_mayYieldTo_10 : decode cX0_mayYieldTo 10 = .ok (.aload_n 0, 1) := by decide +kernel
theorem dX0_mayYieldTo_11 : decode cX0_mayYieldTo 11 = .ok (.getfield 18, 3) := by decide +kernel
theorem dX0_mayYieldTo_14 : decode cX0_mayYieldTo 14 = .ok (.iconst (-1), 1) := by decide +kernel
theorem dX0_mayYieldTo_15 : decode cX0_mayYieldTo 15 = .ok (.if_icmp .eq 22, 3) := by decide +kernel
theorem dX0_mayYieldTo_18 : decode cX0_mayYieldTo 18 = .ok (.aload_n 0, 1) := by decide +kernel
theorem dX0_mayYieldTo_19 : decode cX0_mayYieldTo 19 = .ok (.getfield 18, 3) := by decide +kernel
theorem dX0_mayYieldTo_22 : decode cX0_mayYieldTo 22 = .ok (.iload_n 1, 1) := by decide +kernel
theorem dX0_mayYieldTo_23 : decode cX0_mayYieldTo 23 = .ok (.if_icmp .eq 14, 3) := by decide +kernel
theorem dX0_mayYieldTo_26 : decode cX0_mayYieldTo 26 = .ok (.aload_n 0, 1) := by decide +kernel
theorem dX0_mayYieldTo_27 : decode cX0_mayYieldTo 27 = .ok (.getfield 38, 3) := by decide +kernel
theorem dX0_mayYieldTo_30 : decode cX0_mayYieldTo 30 = .ok (.ifCond .ne 7, 3) := by decide +kernel
theorem dX0_mayYieldTo_33 : decode cX0_mayYieldTo 33 = .ok (.iconst 1, 1) := by decide +kernel
theorem dX0_mayYieldTo_34 : decode cX0_mayYieldTo 34 = .ok (.goto 4, 3) := by decide +kernel
theorem dX0_mayYieldTo_37 : decode cX0_mayYieldTo 37 = .ok (.iconst 0, 1) := by decide +kernel
theorem dX0_mayYieldTo_38 : decode cX0_mayYieldTo 38 = .ok (.ireturn, 1) := by decide +kernel
theorem dX0_enqueue_0 : decode cX0_enqueue 0 = .ok (.aload_n 0, 1) := by decide +kernel
theorem dX0_enqueue_1 : decode cX0_enqueue 1 = .ok (.getfield 29, 3) := by decide +kernel
theorem dX0_enqueue_4 : decode cX0_enqueue 4 = .ok (.ifCond .lt 32, 3) := by decide +kernel
theorem dX0_enqueue_7 : decode cX0_enqueue 7 = .ok (.aload_n 0, 1) := by decide +kernel
theorem dX0_enqueue_8 : decode cX0_enqueue 8 = .ok (.getfield 29, 3) := by decide +kernel
theorem dX0_enqueue_11 : decode cX0_enqueue 11 = .ok (.bipush 24, 2) := by decide +kernel
theorem dX0_enqueue_13 : decode cX0_enqueue 13 = .ok (.if_icmp .ge 23, 3) := by decide +kernel
theorem dX0_enqueue_16 : decode cX0_enqueue 16 = .ok (.aload_n 0, 1) := by decide +kernel
theorem dX0_enqueue_17 : decode cX0_enqueue 17 = .ok (.getfield 9, 3) := by decide +kernel
theorem dX0_enqueue_20 : decode cX0_enqueue 20 = .ok (.aload_n 0, 1) := by decide +kernel
theorem dX0_enqueue_21 : decode cX0_enqueue 21 = .ok (.getfield 29, 3) := by decide +kernel
theorem dX0_enqueue_24 : decode cX0_enqueue 24 = .ok (.iload_n 1, 1) := by decide +kernel
theorem dX0_enqueue_25 : decode cX0_enqueue 25 = .ok (.iastore, 1) := by decide +kernel
theorem dX0_enqueue_26 : decode cX0_enqueue 26 = .ok (.aload_n 0, 1) := by decide +kernel
theorem dX0_enqueue_27 : decode cX0_enqueue 27 = .ok (.dup, 1) := by decide +kernel
theorem dX0_enqueue_28 : decode cX0_enqueue 28 = .ok (.getfield 29, 3) := by decide +kernel
theorem dX0_enqueue_31 : decode cX0_enqueue 31 = .ok (.iconst 1, 1) := by decide +kernel
theorem dX0_enqueue_32 : decode cX0_enqueue 32 = .ok (.iadd, 1) := by decide +kernel
theorem dX0_enqueue_33 : decode cX0_enqueue 33 = .ok (.putfield 29, 3) := by decide +kernel
theorem dX0_enqueue_36 : decode cX0_enqueue 36 = .ok (.return_, 1) := by decide +kernel
theorem dX0_dequeue_0 : decode cX0_dequeue 0 = .ok (.iload_n 1, 1) := by decide +kernel
theorem dX0_dequeue_1 : decode cX0_dequeue 1 = .ok (.ifCond .lt 11, 3) := by decide +kernel
theorem dX0_dequeue_4 : decode cX0_dequeue 4 = .ok (.iload_n 1, 1) := by decide +kernel
theorem dX0_dequeue_5 : decode cX0_dequeue 5 = .ok (.aload_n 0, 1) := by decide +kernel
theorem dX0_dequeue_6 : decode cX0_dequeue 6 = .ok (.getfield 29, 3) := by decide +kernel
theorem dX0_dequeue_9 : decode cX0_dequeue 9 = .ok (.if_icmp .lt 4, 3) := by decide +kernel
theorem dX0_dequeue_12 : decode cX0_dequeue 12 = .ok (.return_, 1) := by decide +kernel
theorem dX0_dequeue_13 : decode cX0_dequeue 13 = .ok (.aload_n 0, 1) := by decide +kernel
theorem dX0_dequeue_14 : decode cX0_dequeue 14 = .ok (.dup, 1) := by decide +kernel
theorem dX0_dequeue_15 : decode cX0_dequeue 15 = .ok (.getfield 29, 3) := by decide +kernel
theorem dX0_dequeue_18 : decode cX0_dequeue 18 = .ok (.iconst 1, 1) := by decide +kernel
theorem dX0_dequeue_19 : decode cX0_dequeue 19 = .ok (.isub, 1) := by decide +kernel
theorem dX0_dequeue_20 : decode cX0_dequeue 20 = .ok (.putfield 29, 3) := by decide +kernel
theorem dX0_dequeue_23 : decode cX0_dequeue 23 = .ok (.iload_n 1, 1) := by decide +kernel
theorem dX0_dequeue_24 : decode cX0_dequeue 24 = .ok (.istore_n 2, 1) := by decide +kernel
theorem dX0_dequeue_25 : decode cX0_dequeue 25 = .ok (.iload_n 2, 1) := by decide +kernel
theorem dX0_dequeue_26 : decode cX0_dequeue 26 = .ok (.aload_n 0, 1) := by decide +kernel
theorem dX0_dequeue_27 : decode cX0_dequeue 27 = .ok (.getfield 29, 3) := by decide +kernel
theorem dX0_dequeue_30 : decode cX0_dequeue 30 = .ok (.if_icmp .ge 31, 3) := by decide +kernel
theorem dX0_dequeue_33 : decode cX0_dequeue 33 = .ok (.iload_n 2, 1) := by decide +kernel
theorem dX0_dequeue_34 : decode cX0_dequeue 34 = .ok (.iconst 1, 1) := by decide +kernel
theorem dX0_dequeue_35 : decode cX0_dequeue 35 = .ok (.iadd, 1) := by decide +kernel
theorem dX0_dequeue_36 : decode cX0_dequeue 36 = .ok (.bipush 24, 2) := by decide +kernel
theorem dX0_dequeue_38 : decode cX0_dequeue 38 = .ok (.if_icmp .ge 23, 3) := by decide +kernel
theorem dX0_dequeue_41 : decode cX0_dequeue 41 = .ok (.aload_n 0, 1) := by decide +kernel
theorem dX0_dequeue_42 : decode cX0_dequeue 42 = .ok (.getfield 9, 3) := by decide +kernel
theorem dX0_dequeue_45 : decode cX0_dequeue 45 = .ok (.iload_n 2, 1) := by decide +kernel
theorem dX0_dequeue_46 : decode cX0_dequeue 46 = .ok (.aload_n 0, 1) := by decide +kernel
theorem dX0_dequeue_47 : decode cX0_dequeue 47 = .ok (.getfield 9, 3) := by decide +kernel
theorem dX0_dequeue_50 : decode cX0_dequeue 50 = .ok (.iload_n 2, 1) := by decide +kernel
theorem dX0_dequeue_51 : decode cX0_dequeue 51 = .ok (.iconst 1, 1) := by decide +kernel
theorem dX0_dequeue_52 : decode cX0_dequeue 52 = .ok (.iadd, 1) := by decide +kernel
theorem dX0_dequeue_53 : decode cX0_dequeue 53 = .ok (.iaload, 1) := by decide +kernel
theorem dX0_dequeue_54 : decode cX0_dequeue 54 = .ok (.iastore, 1) := by decide +kernel
theorem dX0_dequeue_55 : decode cX0_dequeue 55 = .ok (.iinc 2 1, 3) := by decide +kernel
theorem dX0_dequeue_58 : decode cX0_dequeue 58 = .ok (.goto (-33), 3) := by decide +kernel
theorem dX0_dequeue_61 : decode cX0_dequeue 61 = .ok (.return_, 1) := by decide +kernel
theorem dX0_drop_0 : decode cX0_drop 0 = .ok (.aload_n 0, 1) := by decide +kernel
theorem dX0_drop_1 : decode cX0_drop 1 = .ok (.aload_n 0, 1) := by decide +kernel
theorem dX0_drop_2 : decode cX0_drop 2 = .ok (.iload_n 1, 1) := by decide +kernel
theorem dX0_drop_3 : decode cX0_drop 3 = .ok (.invokevirtual 42, 3) := by decide +kernel
theorem dX0_drop_6 : decode cX0_drop 6 = .ok (.invokevirtual 51, 3) := by decide +kernel
theorem dX0_drop_9 : decode cX0_drop 9 = .ok (.aload_n 0, 1) := by decide +kernel
theorem dX0_drop_10 : decode cX0_drop 10 = .ok (.getfield 18, 3) := by decide +kernel
theorem dX0_drop_13 : decode cX0_drop 13 = .ok (.iload_n 1, 1) := by decide +kernel
theorem dX0_drop_14 : decode cX0_drop 14 = .ok (.if_icmp .ne 7, 3) := by decide +kernel
theorem dX0_drop_17 : decode cX0_drop 17 = .ok (.aload_n 0, 1) := by decide +kernel
theorem dX0_drop_18 : decode cX0_drop 18 = .ok (.invokevirtual 32, 3) := by decide +kernel
theorem dX0_drop_21 : decode cX0_drop 21 = .ok (.return_, 1) := by decide +kernel
theorem dX0_callNext_0 : decode cX0_callNext 0 = .ok (.aload_n 0, 1) := by decide +kernel
theorem dX0_callNext_1 : decode cX0_callNext 1 = .ok (.invokevirtual 55, 3) := by decide +kernel
theorem dX0_callNext_4 : decode cX0_callNext 4 = .ok (.istore_n 2, 1) := by decide +kernel
theorem dX0_callNext_5 : decode cX0_callNext 5 = .ok (.iload_n 2, 1) := by decide +kernel
theorem dX0_callNext_6 : decode cX0_callNext 6 = .ok (.ifCond .lt 9, 3) := by decide +kernel
theorem dX0_callNext_9 : decode cX0_callNext 9 = .ok (.iload_n 2, 1) := by decide +kernel
theorem dX0_callNext_10 : decode cX0_callNext 10 = .ok (.bipush 24, 2) := by decide +kernel
theorem dX0_callNext_12 : decode cX0_callNext 12 = .ok (.if_icmp .lt 4, 3) := by decide +kernel
theorem dX0_callNext_15 : decode cX0_callNext 15 = .ok (.return_, 1) := by decide +kernel
theorem dX0_callNext_16 : decode cX0_callNext 16 = .ok (.aload_n 0, 1) := by decide +kernel
theorem dX0_callNext_17 : decode cX0_callNext 17 = .ok (.getfield 9, 3) := by decide +kernel
theorem dX0_callNext_20 : decode cX0_callNext 20 = .ok (.iload_n 2, 1) := by decide +kernel
theorem dX0_callNext_21 : decode cX0_callNext 21 = .ok (.iaload, 1) := by decide +kernel
theorem dX0_callNext_22 : decode cX0_callNext 22 = .ok (.istore_n 3, 1) := by decide +kernel
theorem dX0_callNext_23 : decode cX0_callNext 23 = .ok (.aload_n 0, 1) := by decide +kernel
theorem dX0_callNext_24 : decode cX0_callNext 24 = .ok (.iload_n 2, 1) := by decide +kernel
theorem dX0_callNext_25 : decode cX0_callNext 25 = .ok (.invokevirtual 51, 3) := by decide +kernel
theorem dX0_callNext_28 : decode cX0_callNext 28 = .ok (.aload_n 0, 1) := by decide +kernel
theorem dX0_callNext_29 : decode cX0_callNext 29 = .ok (.iload_n 3, 1) := by decide +kernel
theorem dX0_callNext_30 : decode cX0_callNext 30 = .ok (.putfield 18, 3) := by decide +kernel
theorem dX0_callNext_33 : decode cX0_callNext 33 = .ok (.aload_n 0, 1) := by decide +kernel
theorem dX0_callNext_34 : decode cX0_callNext 34 = .ok (.iload_n 1, 1) := by decide +kernel
theorem dX0_callNext_35 : decode cX0_callNext 35 = .ok (.putfield 35, 3) := by decide +kernel
theorem dX0_callNext_38 : decode cX0_callNext 38 = .ok (.aload_n 0, 1) := by decide +kernel
theorem dX0_callNext_39 : decode cX0_callNext 39 = .ok (.iconst 0, 1) := by decide +kernel
theorem dX0_callNext_40 : decode cX0_callNext 40 = .ok (.putfield 38, 3) := by decide +kernel
theorem dX0_callNext_43 : decode cX0_callNext 43 = .ok (.iload_n 3, 1) := by decide +kernel
theorem dX0_callNext_44 : decode cX0_callNext 44 = .ok (.invokestatic 59, 3) := by decide +kernel
theorem dX0_callNext_47 : decode cX0_callNext 47 = .ok (.ifCond .eq 13, 3) := by decide +kernel
theorem dX0_callNext_50 : decode cX0_callNext 50 = .ok (.aload_n 0, 1) := by decide +kernel
theorem dX0_callNext_51 : decode cX0_callNext 51 = .ok (.getfield 15, 3) := by decide +kernel
theorem dX0_callNext_54 : decode cX0_callNext 54 = .ok (.iload_n 3, 1) := by decide +kernel
theorem dX0_callNext_55 : decode cX0_callNext 55 = .ok (.dup2, 1) := by decide +kernel
theorem dX0_callNext_56 : decode cX0_callNext 56 = .ok (.iaload, 1) := by decide +kernel
theorem dX0_callNext_57 : decode cX0_callNext 57 = .ok (.iconst 1, 1) := by decide +kernel
theorem dX0_callNext_58 : decode cX0_callNext 58 = .ok (.iadd, 1) := by decide +kernel
theorem dX0_callNext_59 : decode cX0_callNext 59 = .ok (.iastore, 1) := by decide +kernel
theorem dX0_callNext_60 : decode cX0_callNext 60 = .ok (.return_, 1) := by decide +kernel
theorem dX0_yieldTo_0 : decode cX0_yieldTo 0 = .ok (.aload_n 0, 1) := by decide +kernel
theorem dX0_yieldTo_1 : decode cX0_yieldTo 1 = .ok (.iload_n 1, 1) := by decide +kernel
theorem dX0_yieldTo_2 : decode cX0_yieldTo 2 = .ok (.putfield 18, 3) := by decide +kernel
theorem dX0_yieldTo_5 : decode cX0_yieldTo 5 = .ok (.aload_n 0, 1) := by decide +kernel
theorem dX0_yieldTo_6 : decode cX0_yieldTo 6 = .ok (.iconst 1, 1) := by decide +kernel
theorem dX0_yieldTo_7 : decode cX0_yieldTo 7 = .ok (.putfield 38, 3) := by decide +kernel
theorem dX0_yieldTo_10 : decode cX0_yieldTo 10 = .ok (.return_, 1) := by decide +kernel
theorem dX0_spend_0 : decode cX0_spend 0 = .ok (.aload_n 0, 1) := by decide +kernel
theorem dX0_spend_1 : decode cX0_spend 1 = .ok (.iconst 0, 1) := by decide +kernel
theorem dX0_spend_2 : decode cX0_spend 2 = .ok (.aload_n 0, 1) := by decide +kernel
theorem dX0_spend_3 : decode cX0_spend 3 = .ok (.getfield 35, 3) := by decide +kernel
theorem dX0_spend_6 : decode cX0_spend 6 = .ok (.iload_n 1, 1) := by decide +kernel
theorem dX0_spend_7 : decode cX0_spend 7 = .ok (.isub, 1) := by decide +kernel
theorem dX0_spend_8 : decode cX0_spend 8 = .ok (.invokestatic 63, 3) := by decide +kernel
theorem dX0_spend_11 : decode cX0_spend 11 = .ok (.putfield 35, 3) := by decide +kernel
theorem dX0_spend_14 : decode cX0_spend 14 = .ok (.aload_n 0, 1) := by decide +kernel
theorem dX0_spend_15 : decode cX0_spend 15 = .ok (.getfield 35, 3) := by decide +kernel
theorem dX0_spend_18 : decode cX0_spend 18 = .ok (.ifCond .ne 7, 3) := by decide +kernel
theorem dX0_spend_21 : decode cX0_spend 21 = .ok (.aload_n 0, 1) := by decide +kernel
theorem dX0_spend_22 : decode cX0_spend 22 = .ok (.invokevirtual 32, 3) := by decide +kernel
theorem dX0_spend_25 : decode cX0_spend 25 = .ok (.return_, 1) := by decide +kernel
theorem dX0_nextPlace_0 : decode cX0_nextPlace 0 = .ok (.iconst (-1), 1) := by decide +kernel
theorem dX0_nextPlace_1 : decode cX0_nextPlace 1 = .ok (.istore_n 1, 1) := by decide +kernel
theorem dX0_nextPlace_2 : decode cX0_nextPlace 2 = .ok (.iconst 0, 1) := by decide +kernel
theorem dX0_nextPlace_3 : decode cX0_nextPlace 3 = .ok (.istore_n 2, 1) := by decide +kernel
theorem dX0_nextPlace_4 : decode cX0_nextPlace 4 = .ok (.iconst 0, 1) := by decide +kernel
theorem dX0_nextPlace_5 : decode cX0_nextPlace 5 = .ok (.istore_n 3, 1) := by decide +kernel
theorem dX0_nextPlace_6 : decode cX0_nextPlace 6 = .ok (.iload_n 3, 1) := by decide +kernel
theorem dX0_nextPlace_7 : decode cX0_nextPlace 7 = .ok (.aload_n 0, 1) := by decide +kernel
theorem dX0_nextPlace_8 : decode cX0_nextPlace 8 = .ok (.getfield 29, 3) := by decide +kernel
theorem dX0_nextPlace_11 : decode cX0_nextPlace 11 = .ok (.if_icmp .ge 43, 3) := by decide +kernel
theorem dX0_nextPlace_14 : decode cX0_nextPlace 14 = .ok (.iload_n 3, 1) := by decide +kernel
theorem dX0_nextPlace_15 : decode cX0_nextPlace 15 = .ok (.bipush 24, 2) := by decide +kernel
theorem dX0_nextPlace_17 : decode cX0_nextPlace 17 = .ok (.if_icmp .ge 37, 3) := by decide +kernel
theorem dX0_nextPlace_20 : decode cX0_nextPlace 20 = .ok (.aload_n 0, 1) := by decide +kernel
theorem dX0_nextPlace_21 : decode cX0_nextPlace 21 = .ok (.aload_n 0, 1) := by decide +kernel
theorem dX0_nextPlace_22 : decode cX0_nextPlace 22 = .ok (.getfield 9, 3) := by decide +kernel
theorem dX0_nextPlace_25 : decode cX0_nextPlace 25 = .ok (.iload_n 3, 1) := by decide +kernel
theorem dX0_nextPlace_26 : decode cX0_nextPlace 26 = .ok (.iaload, 1) := by decide +kernel
theorem dX0_nextPlace_27 : decode cX0_nextPlace 27 = .ok (.invokevirtual 69, 3) := by decide +kernel
theorem dX0_nextPlace_30 : decode cX0_nextPlace 30 = .ok (.istore 4, 2) := by decide +kernel
theorem dX0_nextPlace_32 : decode cX0_nextPlace 32 = .ok (.iload_n 1, 1) := by decide +kernel
theorem dX0_nextPlace_33 : decode cX0_nextPlace 33 = .ok (.iconst (-1), 1) := by decide +kernel
theorem dX0_nextPlace_34 : decode cX0_nextPlace 34 = .ok (.if_icmp .eq 9, 3) := by decide +kernel
theorem dX0_nextPlace_37 : decode cX0_nextPlace 37 = .ok (.iload 4, 2) := by decide +kernel
theorem dX0_nextPlace_39 : decode cX0_nextPlace 39 = .ok (.iload_n 2, 1) := by decide +kernel
theorem dX0_nextPlace_40 : decode cX0_nextPlace 40 = .ok (.if_icmp .ge 8, 3) := by decide +kernel
theorem dX0_nextPlace_43 : decode cX0_nextPlace 43 = .ok (.iload_n 3, 1) := by decide +kernel
theorem dX0_nextPlace_44 : decode cX0_nextPlace 44 = .ok (.istore_n 1, 1) := by decide +kernel
theorem dX0_nextPlace_45 : decode cX0_nextPlace 45 = .ok (.iload 4, 2) := by decide +kernel
theorem dX0_nextPlace_47 : decode cX0_nextPlace 47 = .ok (.istore_n 2, 1) := by decide +kernel
theorem dX0_nextPlace_48 : decode cX0_nextPlace 48 = .ok (.iinc 3 1, 3) := by decide +kernel
theorem dX0_nextPlace_51 : decode cX0_nextPlace 51 = .ok (.goto (-45), 3) := by decide +kernel
theorem dX0_nextPlace_54 : decode cX0_nextPlace 54 = .ok (.iload_n 1, 1) := by decide +kernel
theorem dX0_nextPlace_55 : decode cX0_nextPlace 55 = .ok (.ireturn, 1) := by decide +kernel
theorem dX0_countedSpeeches_0 : decode cX0_countedSpeeches 0 = .ok (.iload_n 1, 1) := by decide +kernel
theorem dX0_countedSpeeches_1 : decode cX0_countedSpeeches 1 = .ok (.invokestatic 59, 3) := by decide +kernel
theorem dX0_countedSpeeches_4 : decode cX0_countedSpeeches 4 = .ok (.ifCond .ne 5, 3) := by decide +kernel
theorem dX0_countedSpeeches_7 : decode cX0_countedSpeeches 7 = .ok (.iconst 0, 1) := by decide +kernel
theorem dX0_countedSpeeches_8 : decode cX0_countedSpeeches 8 = .ok (.ireturn, 1) := by decide +kernel
theorem dX0_countedSpeeches_9 : decode cX0_countedSpeeches 9 = .ok (.aload_n 0, 1) := by decide +kernel
theorem dX0_countedSpeeches_10 : decode cX0_countedSpeeches 10 = .ok (.getfield 22, 3) := by decide +kernel
theorem dX0_countedSpeeches_13 : decode cX0_countedSpeeches 13 = .ok (.getfield 72, 3) := by decide +kernel
theorem dX0_countedSpeeches_16 : decode cX0_countedSpeeches 16 = .ok (.ifCond .ne 10, 3) := by decide +kernel
theorem dX0_countedSpeeches_19 : decode cX0_countedSpeeches 19 = .ok (.aload_n 0, 1) := by decide +kernel
theorem dX0_countedSpeeches_20 : decode cX0_countedSpeeches 20 = .ok (.getfield 15, 3) := by decide +kernel
theorem dX0_countedSpeeches_23 : decode cX0_countedSpeeches 23 = .ok (.iload_n 1, 1) := by decide +kernel
theorem dX0_countedSpeeches_24 : decode cX0_countedSpeeches 24 = .ok (.iaload, 1) := by decide +kernel
theorem dX0_countedSpeeches_25 : decode cX0_countedSpeeches 25 = .ok (.ireturn, 1) := by decide +kernel
theorem dX0_countedSpeeches_26 : decode cX0_countedSpeeches 26 = .ok (.iconst 0, 1) := by decide +kernel
theorem dX0_countedSpeeches_27 : decode cX0_countedSpeeches 27 = .ok (.istore_n 2, 1) := by decide +kernel
theorem dX0_countedSpeeches_28 : decode cX0_countedSpeeches 28 = .ok (.iconst 0, 1) := by decide +kernel
theorem dX0_countedSpeeches_29 : decode cX0_countedSpeeches 29 = .ok (.istore_n 3, 1) := by decide +kernel
theorem dX0_countedSpeeches_30 : decode cX0_countedSpeeches 30 = .ok (.iload_n 3, 1) := by decide +kernel
theorem dX0_countedSpeeches_31 : decode cX0_countedSpeeches 31 = .ok (.bipush 24, 2) := by decide +kernel
theorem dX0_countedSpeeches_33 : decode cX0_countedSpeeches 33 = .ok (.if_icmp .ge 33, 3) := by decide +kernel
theorem dX0_countedSpeeches_36 : decode cX0_countedSpeeches 36 = .ok (.aload_n 0, 1) := by decide +kernel
theorem dX0_countedSpeeches_37 : decode cX0_countedSpeeches 37 = .ok (.getfield 26, 3) := by decide +kernel
theorem dX0_countedSpeeches_40 : decode cX0_countedSpeeches 40 = .ok (.iload_n 3, 1) := by decide +kernel
theorem dX0_countedSpeeches_41 : decode cX0_countedSpeeches 41 = .ok (.iaload, 1) := by decide +kernel
theorem dX0_countedSpeeches_42 : decode cX0_countedSpeeches 42 = .ok (.aload_n 0, 1) := by decide +kernel
theorem dX0_countedSpeeches_43 : decode cX0_countedSpeeches 43 = .ok (.getfield 26, 3) := by decide +kernel
theorem dX0_countedSpeeches_46 : decode cX0_countedSpeeches 46 = .ok (.iload_n 1, 1) := by decide +kernel
theorem dX0_countedSpeeches_47 : decode cX0_countedSpeeches 47 = .ok (.iaload, 1) := by decide +kernel
theorem dX0_countedSpeeches_48 : decode cX0_countedSpeeches 48 = .ok (.if_icmp .ne 12, 3) := by decide +kernel
theorem dX0_countedSpeeches_51 : decode cX0_countedSpeeches 51 = .ok (.iload_n 2, 1) := by decide +kernel
theorem dX0_countedSpeeches_52 : decode cX0_countedSpeeches 52 = .ok (.aload_n 0, 1) := by decide +kernel
theorem dX0_countedSpeeches_53 : decode cX0_countedSpeeches 53 = .ok (.getfield 15, 3) := by decide +kernel
theorem dX0_countedSpeeches_56 : decode cX0_countedSpeeches 56 = .ok (.iload_n 3, 1) := by decide +kernel
theorem dX0_countedSpeeches_57 : decode cX0_countedSpeeches 57 = .ok (.iaload, 1) := by decide +kernel
theorem dX0_countedSpeeches_58 : decode cX0_countedSpeeches 58 = .ok (.iadd, 1) := by decide +kernel
theorem dX0_countedSpeeches_59 : decode cX0_countedSpeeches 59 = .ok (.istore_n 2, 1) := by decide +kernel
theorem dX0_countedSpeeches_60 : decode cX0_countedSpeeches 60 = .ok (.iinc 3 1, 3) := by decide +kernel
theorem dX0_countedSpeeches_63 : decode cX0_countedSpeeches 63 = .ok (.goto (-33), 3) := by decide +kernel
theorem dX0_countedSpeeches_66 : decode cX0_countedSpeeches 66 = .ok (.iload_n 2, 1) := by decide +kernel
theorem dX0_countedSpeeches_67 : decode cX0_countedSpeeches 67 = .ok (.ireturn, 1) := by decide +kernel
theorem dX1_init_0 : decode cX1_init 0 = .ok (.aload_n 0, 1) := by decide +kernel
theorem dX1_init_1 : decode cX1_init 1 = .ok (.invokespecial 3, 3) := by decide +kernel
theorem dX1_init_4 : decode cX1_init 4 = .ok (.aload_n 0, 1) := by decide +kernel
theorem dX1_init_5 : decode cX1_init 5 = .ok (.bipush 6, 2) := by decide +kernel
theorem dX1_init_7 : decode cX1_init 7 = .ok (.newarray .int, 2) := by decide +kernel
theorem dX1_init_9 : decode cX1_init 9 = .ok (.putfield 9, 3) := by decide +kernel
theorem dX1_init_12 : decode cX1_init 12 = .ok (.aload_n 0, 1) := by decide +kernel
theorem dX1_init_13 : decode cX1_init 13 = .ok (.bipush 6, 2) := by decide +kernel
theorem dX1_init_15 : decode cX1_init 15 = .ok (.bipush 24, 2) := by decide +kernel
theorem dX1_init_17 : decode cX1_init 17 = .ok (.multianewarray 15 2, 4) := by decide +kernel
theorem dX1_init_21 : decode cX1_init 21 = .ok (.putfield 17, 3) := by decide +kernel
theorem dX1_init_24 : decode cX1_init 24 = .ok (.aload_n 0, 1) := by decide +kernel
theorem dX1_init_25 : decode cX1_init 25 = .ok (.bipush 24, 2) := by decide +kernel
theorem dX1_init_27 : decode cX1_init 27 = .ok (.newarray .int, 2) := by decide +kernel
theorem dX1_init_29 : decode cX1_init 29 = .ok (.putfield 20, 3) := by decide +kernel
theorem dX1_init_32 : decode cX1_init 32 = .ok (.aload_n 0, 1) := by decide +kernel
theorem dX1_init_33 : decode cX1_init 33 = .ok (.aload_n 1, 1) := by decide +kernel
theorem dX1_init_34 : decode cX1_init 34 = .ok (.putfield 23, 3) := by decide +kernel
theorem dX1_init_37 : decode cX1_init 37 = .ok (.iconst 0, 1) := by decide +kernel
theorem dX1_init_38 : decode cX1_init 38 = .ok (.istore_n 2, 1) := by decide +kernel
theorem dX1_init_39 : decode cX1_init 39 = .ok (.iload_n 2, 1) := by decide +kernel
theorem dX1_init_40 : decode cX1_init 40 = .ok (.bipush 6, 2) := by decide +kernel
theorem dX1_init_42 : decode cX1_init 42 = .ok (.if_icmp .ge 39, 3) := by decide +kernel
theorem dX1_init_45 : decode cX1_init 45 = .ok (.aload_n 0, 1) := by decide +kernel
theorem dX1_init_46 : decode cX1_init 46 = .ok (.getfield 9, 3) := by decide +kernel
theorem dX1_init_49 : decode cX1_init 49 = .ok (.iload_n 2, 1) := by decide +kernel
theorem dX1_init_50 : decode cX1_init 50 = .ok (.iconst (-1), 1) := by decide +kernel
theorem dX1_init_51 : decode cX1_init 51 = .ok (.iastore, 1) := by decide +kernel
theorem dX1_init_52 : decode cX1_init 52 = .ok (.iconst 0, 1) := by decide +kernel
theorem dX1_init_53 : decode cX1_init 53 = .ok (.istore_n 3, 1) := by decide +kernel
theorem dX1_init_54 : decode cX1_init 54 = .ok (.iload_n 3, 1) := by decide +kernel
theorem dX1_init_55 : decode cX1_init 55 = .ok (.bipush 24, 2) := by decide +kernel
theorem dX1_init_57 : decode cX1_init 57 = .ok (.if_icmp .ge 18, 3) := by decide +kernel
theorem dX1_init_60 : decode cX1_init 60 = .ok (.aload_n 0, 1) := by decide +kernel
theorem dX1_init_61 : decode cX1_init 61 = .ok (.getfield 17, 3) := by decide +kernel
theorem dX1_init_64 : decode cX1_init 64 = .ok (.iload_n 2, 1) := by decide +kernel
theorem dX1_init_65 : decode cX1_init 65 = .ok (.aaload, 1) := by decide +kernel
theorem dX1_init_66 : decode cX1_init 66 = .ok (.iload_n 3, 1) := by decide +kernel
theorem dX1_init_67 : decode cX1_init 67 = .ok (.iconst (-1), 1) := by decide +kernel
theorem dX1_init_68 : decode cX1_init 68 = .ok (.iastore, 1) := by decide +kernel
theorem dX1_init_69 : decode cX1_init 69 = .ok (.iinc 3 1, 3) := by decide +kernel
theorem dX1_init_72 : decode cX1_init 72 = .ok (.goto (-18), 3) := by decide +kernel
theorem dX1_init_75 : decode cX1_init 75 = .ok (.iinc 2 1, 3) := by decide +kernel
theorem dX1_init_78 : decode cX1_init 78 = .ok (.goto (-39), 3) := by decide +kernel
theorem dX1_init_81 : decode cX1_init 81 = .ok (.return_, 1) := by decide +kernel
theorem dX1_take_0 : decode cX1_take 0 = .ok (.iload_n 1, 1) := by decide +kernel
theorem dX1_take_1 : decode cX1_take 1 = .ok (.ifCond .lt 23, 3) := by decide +kernel
theorem dX1_take_4 : decode cX1_take 4 = .ok (.iload_n 1, 1) := by decide +kernel
theorem dX1_take_5 : decode cX1_take 5 = .ok (.bipush 6, 2) := by decide +kernel
theorem dX1_take_7 : decode cX1_take 7 = .ok (.if_icmp .ge 17, 3) := by decide +kernel
theorem dX1_take_10 : decode cX1_take 10 = .ok (.iload_n 2, 1) := by decide +kernel
theorem dX1_take_11 : decode cX1_take 11 = .ok (.invokestatic 26, 3) := by decide +kernel
theorem dX1_take_14 : decode cX1_take 14 = .ok (.ifCond .eq 10, 3) := by decide +kernel
theorem dX1_take_17 : decode cX1_take 17 = .ok (.iload_n 3, 1) := by decide +kernel
theorem dX1_take_18 : decode cX1_take 18 = .ok (.invokestatic 30, 3) := by decide +kernel
theorem dX1_take_21 : decode cX1_take 21 = .ok (.ifCond .ne 5, 3) := by decide +kernel
theorem dX1_take_24 : decode cX1_take 24 = .ok (.iconst 0, 1) := by decide +kernel
theorem dX1_take_25 : decode cX1_take 25 = .ok (.ireturn, 1) := by decide +kernel
theorem dX1_take_26 : decode cX1_take 26 = .ok (.iload 4, 2) := by decide +kernel
theorem dX1_take_28 : decode cX1_take 28 = .ok (.ifCond .lt 10, 3) := by decide +kernel
theorem dX1_take_31 : decode cX1_take 31 = .ok (.iload 4, 2) := by decide +kernel
theorem dX1_take_33 : decode cX1_take 33 = .ok (.bipush 100, 2) := by decide +kernel
theorem dX1_take_35 : decode cX1_take 35 = .ok (.if_icmp .le 5, 3) := by decide +kernel
theorem dX1_take_38 : decode cX1_take 38 = .ok (.iconst 0, 1) := by decide +kernel
theorem dX1_take_39 : decode cX1_take 39 = .ok (.ireturn, 1) := by decide +kernel
theorem dX1_take_40 : decode cX1_take 40 = .ok (.aload_n 0, 1) := by decide +kernel
theorem dX1_take_41 : decode cX1_take 41 = .ok (.getfield 9, 3) := by decide +kernel
theorem dX1_take_44 : decode cX1_take 44 = .ok (.iload_n 1, 1) := by decide +kernel
theorem dX1_take_45 : decode cX1_take 45 = .ok (.iaload, 1) := by decide +kernel
theorem dX1_take_46 : decode cX1_take 46 = .ok (.iconst (-1), 1) := by decide +kernel
theorem dX1_take_47 : decode cX1_take 47 = .ok (.if_icmp .eq 15, 3) := by decide +kernel
theorem dX1_take_50 : decode cX1_take 50 = .ok (.aload_n 0, 1) := by decide +kernel
theorem dX1_take_51 : decode cX1_take 51 = .ok (.getfield 9, 3) := by decide +kernel
theorem dX1_take_54 : decode cX1_take 54 = .ok (.iload_n 1, 1) := by decide +kernel
theorem dX1_take_55 : decode cX1_take 55 = .ok (.iaload, 1) := by decide +kernel
theorem dX1_take_56 : decode cX1_take 56 = .ok (.iload_n 2, 1) := by decide +kernel
theorem dX1_take_57 : decode cX1_take 57 = .ok (.if_icmp .eq 5, 3) := by decide +kernel
theorem dX1_take_60 : decode cX1_take 60 = .ok (.iconst 0, 1) := by decide +kernel
theorem dX1_take_61 : decode cX1_take 61 = .ok (.ireturn, 1) := by decide +kernel
theorem dX1_take_62 : decode cX1_take 62 = .ok (.aload_n 0, 1) := by decide +kernel
theorem dX1_take_63 : decode cX1_take 63 = .ok (.getfield 9, 3) := by decide +kernel
theorem dX1_take_66 : decode cX1_take 66 = .ok (.iload_n 1, 1) := by decide +kernel
theorem dX1_take_67 : decode cX1_take 67 = .ok (.iload_n 2, 1) := by decide +kernel
theorem dX1_take_68 : decode cX1_take 68 = .ok (.iastore, 1) := by decide +kernel
theorem dX1_take_69 : decode cX1_take 69 = .ok (.aload_n 0, 1) := by decide +kernel
theorem dX1_take_70 : decode cX1_take 70 = .ok (.getfield 17, 3) := by decide +kernel
theorem dX1_take_73 : decode cX1_take 73 = .ok (.iload_n 1, 1) := by decide +kernel
theorem dX1_take_74 : decode cX1_take 74 = .ok (.aaload, 1) := by decide +kernel
theorem dX1_take_75 : decode cX1_take 75 = .ok (.iload_n 3, 1) := by decide +kernel
theorem dX1_take_76 : decode cX1_take 76 = .ok (.iload 4, 2) := by decide +kernel
theorem dX1_take_78 : decode cX1_take 78 = .ok (.iastore, 1) := by decide +kernel
theorem dX1_take_79 : decode cX1_take 79 = .ok (.iconst 1, 1) := by decide +kernel
theorem dX1_take_80 : decode cX1_take 80 = .ok (.ireturn, 1) := by decide +kernel
theorem dX1_meanOf_0 : decode cX1_meanOf 0 = .ok (.iconst 0, 1) := by decide +kernel
theorem dX1_meanOf_1 : decode cX1_meanOf 1 = .ok (.istore_n 2, 1) := by decide +kernel
theorem dX1_meanOf_2 : decode cX1_meanOf 2 = .ok (.iconst 0, 1) := by decide +kernel
theorem dX1_meanOf_3 : decode cX1_meanOf 3 = .ok (.istore_n 3, 1) := by decide +kernel
theorem dX1_meanOf_4 : decode cX1_meanOf 4 = .ok (.iconst 0, 1) := by decide +kernel
theorem dX1_meanOf_5 : decode cX1_meanOf 5 = .ok (.istore 4, 2) := by decide +kernel
theorem dX1_meanOf_7 : decode cX1_meanOf 7 = .ok (.iload 4, 2) := by decide +kernel
theorem dX1_meanOf_9 : decode cX1_meanOf 9 = .ok (.bipush 6, 2) := by decide +kernel
theorem dX1_meanOf_11 : decode cX1_meanOf 11 = .ok (.if_icmp .ge 32, 3) := by decide +kernel
theorem dX1_meanOf_14 : decode cX1_meanOf 14 = .ok (.aload_n 0, 1) := by decide +kernel
theorem dX1_meanOf_15 : decode cX1_meanOf 15 = .ok (.iload 4, 2) := by decide +kernel
theorem dX1_meanOf_17 : decode cX1_meanOf 17 = .ok (.iload_n 1, 1) := by decide +kernel
theorem dX1_meanOf_18 : decode cX1_meanOf 18 = .ok (.invokevirtual 33, 3) := by decide +kernel
theorem dX1_meanOf_21 : decode cX1_meanOf 21 = .ok (.ifCond .eq 16, 3) := by decide +kernel
theorem dX1_meanOf_24 : decode cX1_meanOf 24 = .ok (.iload_n 2, 1) := by decide +kernel
theorem dX1_meanOf_25 : decode cX1_meanOf 25 = .ok (.aload_n 0, 1) := by decide +kernel
theorem dX1_meanOf_26 : decode cX1_meanOf 26 = .ok (.iload 4, 2) := by decide +kernel
theorem dX1_meanOf_28 : decode cX1_meanOf 28 = .ok (.iload_n 1, 1) := by decide +kernel
theorem dX1_meanOf_29 : decode cX1_meanOf 29 = .ok (.invokevirtual 37, 3) := by decide +kernel
theorem dX1_meanOf_32 : decode cX1_meanOf 32 = .ok (.iadd, 1) := by decide +kernel
theorem dX1_meanOf_33 : decode cX1_meanOf 33 = .ok (.istore_n 2, 1) := by decide +kernel
theorem dX1_meanOf_34 : decode cX1_meanOf 34 = .ok (.iinc 3 1, 3) := by decide +kernel
theorem dX1_meanOf_37 : decode cX1_meanOf 37 = .ok (.iinc 4 1, 3) := by decide +kernel
theorem dX1_meanOf_40 : decode cX1_meanOf 40 = .ok (.goto (-33), 3) := by decide +kernel
theorem dX1_meanOf_43 : decode cX1_meanOf 43 = .ok (.iload_n 3, 1) := by decide +kernel
theorem dX1_meanOf_44 : decode cX1_meanOf 44 = .ok (.ifCond .le 9, 3) := by decide +kernel
theorem dX1_meanOf_47 : decode cX1_meanOf 47 = .ok (.iload_n 2, 1) := by decide +kernel
theorem dX1_meanOf_48 : decode cX1_meanOf 48 = .ok (.iload_n 3, 1) := by decide +kernel
theorem dX1_meanOf_49 : decode cX1_meanOf 49 = .ok (.idiv, 1) := by decide +kernel
theorem dX1_meanOf_50 : decode cX1_meanOf 50 = .ok (.goto 4, 3) := by decide +kernel
theorem dX1_meanOf_53 : decode cX1_meanOf 53 = .ok (.iconst (-1), 1) := by decide +kernel
theorem dX1_meanOf_54 : decode cX1_meanOf 54 = .ok (.ireturn, 1) := by decide +kernel
theorem dX1_memberAt_0 : decode cX1_memberAt 0 = .ok (.iconst 0, 1) := by decide +kernel
theorem dX1_memberAt_1 : decode cX1_memberAt 1 = .ok (.istore_n 2, 1) := by decide +kernel
theorem dX1_memberAt_2 : decode cX1_memberAt 2 = .ok (.iload_n 2, 1) := by decide +kernel
theorem dX1_memberAt_3 : decode cX1_memberAt 3 = .ok (.bipush 24, 2) := by decide +kernel
theorem dX1_memberAt_5 : decode cX1_memberAt 5 = .ok (.if_icmp .ge 20, 3) := by decide +kernel
theorem dX1_memberAt_8 : decode cX1_memberAt 8 = .ok (.aload_n 0, 1) := by decide +kernel
theorem dX1_memberAt_9 : decode cX1_memberAt 9 = .ok (.getfield 20, 3) := by decide +kernel
theorem dX1_memberAt_12 : decode cX1_memberAt 12 = .ok (.iload_n 2, 1) := by decide +kernel
theorem dX1_memberAt_13 : decode cX1_memberAt 13 = .ok (.aload_n 0, 1) := by decide +kernel
theorem dX1_memberAt_14 : decode cX1_memberAt 14 = .ok (.iload_n 2, 1) := by decide +kernel
theorem dX1_memberAt_15 : decode cX1_memberAt 15 = .ok (.invokevirtual 41, 3) := by decide +kernel
theorem dX1_memberAt_18 : decode cX1_memberAt 18 = .ok (.iastore, 1) := by decide +kernel
theorem dX1_memberAt_19 : decode cX1_memberAt 19 = .ok (.iinc 2 1, 3) := by decide +kernel
theorem dX1_memberAt_22 : decode cX1_memberAt 22 = .ok (.goto (-20), 3) := by decide +kernel
theorem dX1_memberAt_25 : decode cX1_memberAt 25 = .ok (.iconst 0, 1) := by decide +kernel
theorem dX1_memberAt_26 : decode cX1_memberAt 26 = .ok (.istore_n 2, 1) := by decide +kernel
theorem dX1_memberAt_27 : decode cX1_memberAt 27 = .ok (.iload_n 2, 1) := by decide +kernel
theorem dX1_memberAt_28 : decode cX1_memberAt 28 = .ok (.bipush 24, 2) := by decide +kernel
theorem dX1_memberAt_30 : decode cX1_memberAt 30 = .ok (.if_icmp .ge 30, 3) := by decide +kernel
theorem dX1_memberAt_33 : decode cX1_memberAt 33 = .ok (.aload_n 0, 1) := by decide +kernel
theorem dX1_memberAt_34 : decode cX1_memberAt 34 = .ok (.getfield 20, 3) := by decide +kernel
theorem dX1_memberAt_37 : decode cX1_memberAt 37 = .ok (.iload_n 2, 1) := by decide +kernel
theorem dX1_memberAt_38 : decode cX1_memberAt 38 = .ok (.iaload, 1) := by decide +kernel
theorem dX1_memberAt_39 : decode cX1_memberAt 39 = .ok (.iconst (-1), 1) := by decide +kernel
theorem dX1_memberAt_40 : decode cX1_memberAt 40 = .ok (.if_icmp .eq 14, 3) := by decide +kernel
theorem dX1_memberAt_43 : decode cX1_memberAt 43 = .ok (.aload_n 0, 1) := by decide +kernel
theorem dX1_memberAt_44 : decode cX1_memberAt 44 = .ok (.iload_n 2, 1) := by decide +kernel
theorem dX1_memberAt_45 : decode cX1_memberAt 45 = .ok (.invokevirtual 45, 3) := by decide +kernel
theorem dX1_memberAt_48 : decode cX1_memberAt 48 = .ok (.iload_n 1, 1) := by decide +kernel
theorem dX1_memberAt_49 : decode cX1_memberAt 49 = .ok (.if_icmp .ne 5, 3) := by decide +kernel
theorem dX1_memberAt_52 : decode cX1_memberAt 52 = .ok (.iload_n 2, 1) := by decide +kernel
theorem dX1_memberAt_53 : decode cX1_memberAt 53 = .ok (.ireturn, 1) := by decide +kernel
theorem dX1_memberAt_54 : decode cX1_memberAt 54 = .ok (.iinc 2 1, 3) := by decide +kernel
theorem dX1_memberAt_57 : decode cX1_memberAt 57 = .ok (.goto (-30), 3) := by decide +kernel
theorem dX1_memberAt_60 : decode cX1_memberAt 60 = .ok (.iconst (-1), 1) := by decide +kernel
theorem dX1_memberAt_61 : decode cX1_memberAt 61 = .ok (.ireturn, 1) := by decide +kernel
theorem dX1_countAheadOf_0 : decode cX1_countAheadOf 0 = .ok (.iconst 0, 1) := by decide +kernel
theorem dX1_countAheadOf_1 : decode cX1_countAheadOf 1 = .ok (.istore_n 2, 1) := by decide +kernel
theorem dX1_countAheadOf_2 : decode cX1_countAheadOf 2 = .ok (.iconst 0, 1) := by decide +kernel
theorem dX1_countAheadOf_3 : decode cX1_countAheadOf 3 = .ok (.istore_n 3, 1) := by decide +kernel
theorem dX1_countAheadOf_4 : decode cX1_countAheadOf 4 = .ok (.iload_n 3, 1) := by decide +kernel
theorem dX1_countAheadOf_5 : decode cX1_countAheadOf 5 = .ok (.bipush 24, 2) := by decide +kernel
theorem dX1_countAheadOf_7 : decode cX1_countAheadOf 7 = .ok (.if_icmp .ge 47, 3) := by decide +kernel
theorem dX1_countAheadOf_10 : decode cX1_countAheadOf 10 = .ok (.aload_n 0, 1) := by decide +kernel
theorem dX1_countAheadOf_11 : decode cX1_countAheadOf 11 = .ok (.getfield 20, 3) := by decide +kernel
theorem dX1_countAheadOf_14 : decode cX1_countAheadOf 14 = .ok (.iload_n 3, 1) := by decide +kernel
theorem dX1_countAheadOf_15 : decode cX1_countAheadOf 15 = .ok (.iaload, 1) := by decide +kernel
theorem dX1_countAheadOf_16 : decode cX1_countAheadOf 16 = .ok (.aload_n 0, 1) := by decide +kernel
theorem dX1_countAheadOf_17 : decode cX1_countAheadOf 17 = .ok (.getfield 20, 3) := by decide +kernel
theorem dX1_countAheadOf_20 : decode cX1_countAheadOf 20 = .ok (.iload_n 1, 1) := by decide +kernel
theorem dX1_countAheadOf_21 : decode cX1_countAheadOf 21 = .ok (.iaload, 1) := by decide +kernel
theorem dX1_countAheadOf_22 : decode cX1_countAheadOf 22 = .ok (.if_icmp .gt 23, 3) := by decide +kernel
theorem dX1_countAheadOf_25 : decode cX1_countAheadOf 25 = .ok (.aload_n 0, 1) := by decide +kernel
theorem dX1_countAheadOf_26 : decode cX1_countAheadOf 26 = .ok (.getfield 20, 3) := by decide +kernel
theorem dX1_countAheadOf_29 : decode cX1_countAheadOf 29 = .ok (.iload_n 3, 1) := by decide +kernel
theorem dX1_countAheadOf_30 : decode cX1_countAheadOf 30 = .ok (.iaload, 1) := by decide +kernel
theorem dX1_countAheadOf_31 : decode cX1_countAheadOf 31 = .ok (.aload_n 0, 1) := by decide +kernel
theorem dX1_countAheadOf_32 : decode cX1_countAheadOf 32 = .ok (.getfield 20, 3) := by decide +kernel
theorem dX1_countAheadOf_35 : decode cX1_countAheadOf 35 = .ok (.iload_n 1, 1) := by decide +kernel
theorem dX1_countAheadOf_36 : decode cX1_countAheadOf 36 = .ok (.iaload, 1) := by decide +kernel
theorem dX1_countAheadOf_37 : decode cX1_countAheadOf 37 = .ok (.if_icmp .ne 11, 3) := by decide +kernel
theorem dX1_countAheadOf_40 : decode cX1_countAheadOf 40 = .ok (.iload_n 3, 1) := by decide +kernel
theorem dX1_countAheadOf_41 : decode cX1_countAheadOf 41 = .ok (.iload_n 1, 1) := by decide +kernel
theorem dX1_countAheadOf_42 : decode cX1_countAheadOf 42 = .ok (.if_icmp .ge 6, 3) := by decide +kernel
theorem dX1_countAheadOf_45 : decode cX1_countAheadOf 45 = .ok (.iinc 2 1, 3) := by decide +kernel
theorem dX1_countAheadOf_48 : decode cX1_countAheadOf 48 = .ok (.iinc 3 1, 3) := by decide +kernel
theorem dX1_countAheadOf_51 : decode cX1_countAheadOf 51 = .ok (.goto (-47), 3) := by decide +kernel
theorem dX1_countAheadOf_54 : decode cX1_countAheadOf 54 = .ok (.iload_n 2, 1) := by decide +kernel
theorem dX1_countAheadOf_55 : decode cX1_countAheadOf 55 = .ok (.ireturn, 1) := by decide +kernel
theorem dX1_counts_0 : decode cX1_counts 0 = .ok (.iload_n 1, 1) := by decide +kernel
theorem dX1_counts_1 : decode cX1_counts 1 = .ok (.ifCond .lt 47, 3) := by decide +kernel
theorem dX1_counts_4 : decode cX1_counts 4 = .ok (.iload_n 1, 1) := by decide +kernel
theorem dX1_counts_5 : decode cX1_counts 5 = .ok (.bipush 6, 2) := by decide +kernel
theorem dX1_counts_7 : decode cX1_counts 7 = .ok (.if_icmp .ge 41, 3) := by decide +kernel
theorem dX1_counts_10 : decode cX1_counts 10 = .ok (.iload_n 2, 1) := by decide +kernel
theorem dX1_counts_11 : decode cX1_counts 11 = .ok (.invokestatic 30, 3) := by decide +kernel
theorem dX1_counts_14 : decode cX1_counts 14 = .ok (.ifCond .eq 34, 3) := by decide +kernel
theorem dX1_counts_17 : decode cX1_counts 17 = .ok (.aload_n 0, 1) := by decide +kernel
theorem dX1_counts_18 : decode cX1_counts 18 = .ok (.getfield 17, 3) := by decide +kernel
theorem dX1_counts_21 : decode cX1_counts 21 = .ok (.iload_n 1, 1) := by decide +kernel
theorem dX1_counts_22 : decode cX1_counts 22 = .ok (.aaload, 1) := by decide +kernel
theorem dX1_counts_23 : decode cX1_counts 23 = .ok (.iload_n 2, 1) := by decide +kernel
theorem dX1_counts_24 : decode cX1_counts 24 = .ok (.iaload, 1) := by decide +kernel
theorem dX1_counts_25 : decode cX1_counts 25 = .ok (.iconst (-1), 1) := by decide +kernel
theorem dX1_counts_26 : decode cX1_counts 26 = .ok (.if_icmp .eq 22, 3) := by decide +kernel
theorem dX1_counts_29 : decode cX1_counts 29 = .ok (.aload_n 0, 1) := by decide +kernel
theorem dX1_counts_30 : decode cX1_counts 30 = .ok (.getfield 9, 3) := by decide +kernel
theorem dX1_counts_33 : decode cX1_counts 33 = .ok (.iload_n 1, 1) := by decide +kernel
theorem dX1_counts_34 : decode cX1_counts 34 = .ok (.iaload, 1) := by decide +kernel
theorem dX1_counts_35 : decode cX1_counts 35 = .ok (.aload_n 0, 1) := by decide +kernel
theorem dX1_counts_36 : decode cX1_counts 36 = .ok (.getfield 23, 3) := by decide +kernel
theorem dX1_counts_39 : decode cX1_counts 39 = .ok (.iload_n 2, 1) := by decide +kernel
theorem dX1_counts_40 : decode cX1_counts 40 = .ok (.iaload, 1) := by decide +kernel
theorem dX1_counts_41 : decode cX1_counts 41 = .ok (.if_icmp .eq 7, 3) := by decide +kernel
theorem dX1_counts_44 : decode cX1_counts 44 = .ok (.iconst 1, 1) := by decide +kernel
theorem dX1_counts_45 : decode cX1_counts 45 = .ok (.goto 4, 3) := by decide +kernel
theorem dX1_counts_48 : decode cX1_counts 48 = .ok (.iconst 0, 1) := by decide +kernel
theorem dX1_counts_49 : decode cX1_counts 49 = .ok (.ireturn, 1) := by decide +kernel
theorem dX1_scaled_0 : decode cX1_scaled 0 = .ok (.bipush 100, 2) := by decide +kernel
theorem dX1_scaled_2 : decode cX1_scaled 2 = .ok (.istore_n 3, 1) := by decide +kernel
theorem dX1_scaled_3 : decode cX1_scaled 3 = .ok (.iconst 0, 1) := by decide +kernel
theorem dX1_scaled_4 : decode cX1_scaled 4 = .ok (.istore 4, 2) := by decide +kernel
theorem dX1_scaled_6 : decode cX1_scaled 6 = .ok (.iconst 0, 1) := by decide +kernel
theorem dX1_scaled_7 : decode cX1_scaled 7 = .ok (.istore 5, 2) := by decide +kernel
theorem dX1_scaled_9 : decode cX1_scaled 9 = .ok (.iload 5, 2) := by decide +kernel
theorem dX1_scaled_11 : decode cX1_scaled 11 = .ok (.bipush 24, 2) := by decide +kernel
theorem dX1_scaled_13 : decode cX1_scaled 13 = .ok (.if_icmp .ge 49, 3) := by decide +kernel
theorem dX1_scaled_16 : decode cX1_scaled 16 = .ok (.aload_n 0, 1) := by decide +kernel
theorem dX1_scaled_17 : decode cX1_scaled 17 = .ok (.iload_n 1, 1) := by decide +kernel
theorem dX1_scaled_18 : decode cX1_scaled 18 = .ok (.iload 5, 2) := by decide +kernel
theorem dX1_scaled_20 : decode cX1_scaled 20 = .ok (.invokevirtual 33, 3) := by decide +kernel
theorem dX1_scaled_23 : decode cX1_scaled 23 = .ok (.ifCond .eq 33, 3) := by decide +kernel
theorem dX1_scaled_26 : decode cX1_scaled 26 = .ok (.iload_n 3, 1) := by decide +kernel
theorem dX1_scaled_27 : decode cX1_scaled 27 = .ok (.aload_n 0, 1) := by decide +kernel
theorem dX1_scaled_28 : decode cX1_scaled 28 = .ok (.getfield 17, 3) := by decide +kernel
theorem dX1_scaled_31 : decode cX1_scaled 31 = .ok (.iload_n 1, 1) := by decide +kernel
theorem dX1_scaled_32 : decode cX1_scaled 32 = .ok (.aaload, 1) := by decide +kernel
theorem dX1_scaled_33 : decode cX1_scaled 33 = .ok (.iload 5, 2) := by decide +kernel
theorem dX1_scaled_35 : decode cX1_scaled 35 = .ok (.iaload, 1) := by decide +kernel
theorem dX1_scaled_36 : decode cX1_scaled 36 = .ok (.invokestatic 48, 3) := by decide +kernel
theorem dX1_scaled_39 : decode cX1_scaled 39 = .ok (.istore_n 3, 1) := by decide +kernel
theorem dX1_scaled_40 : decode cX1_scaled 40 = .ok (.iload 4, 2) := by decide +kernel
theorem dX1_scaled_42 : decode cX1_scaled 42 = .ok (.aload_n 0, 1) := by decide +kernel
theorem dX1_scaled_43 : decode cX1_scaled 43 = .ok (.getfield 17, 3) := by decide +kernel
theorem dX1_scaled_46 : decode cX1_scaled 46 = .ok (.iload_n 1, 1) := by decide +kernel
theorem dX1_scaled_47 : decode cX1_scaled 47 = .ok (.aaload, 1) := by decide +kernel
theorem dX1_scaled_48 : decode cX1_scaled 48 = .ok (.iload 5, 2) := by decide +kernel
theorem dX1_scaled_50 : decode cX1_scaled 50 = .ok (.iaload, 1) := by decide +kernel
theorem dX1_scaled_51 : decode cX1_scaled 51 = .ok (.invokestatic 53, 3) := by decide +kernel
theorem dX1_scaled_54 : decode cX1_scaled 54 = .ok (.istore 4, 2) := by decide +kernel
theorem dX1_scaled_56 : decode cX1_scaled 56 = .ok (.iinc 5 1, 3) := by decide +kernel
theorem dX1_scaled_59 : decode cX1_scaled 59 = .ok (.goto (-50), 3) := by decide +kernel
theorem dX1_scaled_62 : decode cX1_scaled 62 = .ok (.iload 4, 2) := by decide +kernel
theorem dX1_scaled_64 : decode cX1_scaled 64 = .ok (.iload_n 3, 1) := by decide +kernel
theorem dX1_scaled_65 : decode cX1_scaled 65 = .ok (.if_icmp .le 25, 3) := by decide +kernel
theorem dX1_scaled_68 : decode cX1_scaled 68 = .ok (.aload_n 0, 1) := by decide +kernel
theorem dX1_scaled_69 : decode cX1_scaled 69 = .ok (.getfield 17, 3) := by decide +kernel
theorem dX1_scaled_72 : decode cX1_scaled 72 = .ok (.iload_n 1, 1) := by decide +kernel
theorem dX1_scaled_73 : decode cX1_scaled 73 = .ok (.aaload, 1) := by decide +kernel
theorem dX1_scaled_74 : decode cX1_scaled 74 = .ok (.iload_n 2, 1) := by decide +kernel
theorem dX1_scaled_75 : decode cX1_scaled 75 = .ok (.iaload, 1) := by decide +kernel
theorem dX1_scaled_76 : decode cX1_scaled 76 = .ok (.iload_n 3, 1) := by decide +kernel
theorem dX1_scaled_77 : decode cX1_scaled 77 = .ok (.isub, 1) := by decide +kernel
theorem dX1_scaled_78 : decode cX1_scaled 78 = .ok (.sipush 1000, 3) := by decide +kernel
theorem dX1_scaled_81 : decode cX1_scaled 81 = .ok (.imul, 1) := by decide +kernel
theorem dX1_scaled_82 : decode cX1_scaled 82 = .ok (.iload 4, 2) := by decide +kernel
theorem dX1_scaled_84 : decode cX1_scaled 84 = .ok (.iload_n 3, 1) := by decide +kernel
theorem dX1_scaled_85 : decode cX1_scaled 85 = .ok (.isub, 1) := by decide +kernel
theorem dX1_scaled_86 : decode cX1_scaled 86 = .ok (.idiv, 1) := by decide +kernel
theorem dX1_scaled_87 : decode cX1_scaled 87 = .ok (.goto 6, 3) := by decide +kernel
theorem dX1_scaled_90 : decode cX1_scaled 90 = .ok (.sipush 500, 3) := by decide +kernel
theorem dX1_scaled_93 : decode cX1_scaled 93 = .ok (.ireturn, 1) := by decide +kernel
theorem dX2_init_0 : decode cX2_init 0 = .ok (.aload_n 0, 1) := by decide +kernel
theorem dX2_init_1 : decode cX2_init 1 = .ok (.invokespecial 3, 3) := by decide +kernel
theorem dX2_init_4 : decode cX2_init 4 = .ok (.aload_n 0, 1) := by decide +kernel
theorem dX2_init_5 : decode cX2_init 5 = .ok (.sipush 300, 3) := by decide +kernel
theorem dX2_init_8 : decode cX2_init 8 = .ok (.newarray .int, 2) := by decide +kernel
theorem dX2_init_10 : decode cX2_init 10 = .ok (.putfield 9, 3) := by decide +kernel
theorem dX2_init_13 : decode cX2_init 13 = .ok (.aload_n 0, 1) := by decide +kernel
theorem dX2_init_14 : decode cX2_init 14 = .ok (.sipush 300, 3) := by decide +kernel
theorem dX2_init_17 : decode cX2_init 17 = .ok (.newarray .int, 2) := by decide +kernel
theorem dX2_init_19 : decode cX2_init 19 = .ok (.putfield 15, 3) := by decide +kernel
theorem dX2_init_22 : decode cX2_init 22 = .ok (.aload_n 0, 1) := by decide +kernel
theorem dX2_init_23 : decode cX2_init 23 = .ok (.sipush 300, 3) := by decide +kernel
theorem dX2_init_26 : decode cX2_init 26 = .ok (.newarray .int, 2) := by decide +kernel
theorem dX2_init_28 : decode cX2_init 28 = .ok (.putfield 18, 3) := by decide +kernel
theorem dX2_init_31 : decode cX2_init 31 = .ok (.aload_n 0, 1) := by decide +kernel
theorem dX2_init_32 : decode cX2_init 32 = .ok (.sipush 300, 3) := by decide +kernel
theorem dX2_init_35 : decode cX2_init 35 = .ok (.newarray .int, 2) := by decide +kernel
theorem dX2_init_37 : decode cX2_init 37 = .ok (.putfield 21, 3) := by decide +kernel
theorem dX2_init_40 : decode cX2_init 40 = .ok (.aload_n 0, 1) := by decide +kernel
theorem dX2_init_41 : decode cX2_init 41 = .ok (.sipush 300, 3) := by decide +kernel
theorem dX2_init_44 : decode cX2_init 44 = .ok (.newarray .int, 2) := by decide +kernel
theorem dX2_init_46 : decode cX2_init 46 = .ok (.putfield 24, 3) := by decide +kernel
theorem dX2_init_49 : decode cX2_init 49 = .ok (.return_, 1) := by decide +kernel
theorem dX2_add_0 : decode cX2_add 0 = .ok (.aload_n 0, 1) := by decide +kernel
theorem dX2_add_1 : decode cX2_add 1 = .ok (.getfield 27, 3) := by decide +kernel
theorem dX2_add_4 : decode cX2_add 4 = .ok (.invokestatic 31, 3) := by decide +kernel
theorem dX2_add_7 : decode cX2_add 7 = .ok (.ifCond .ne 4, 3) := by decide +kernel
theorem dX2_add_10 : decode cX2_add 10 = .ok (.return_, 1) := by decide +kernel
theorem dX2_add_11 : decode cX2_add 11 = .ok (.aload_n 0, 1) := by decide +kernel
theorem dX2_add_12 : decode cX2_add 12 = .ok (.getfield 9, 3) := by decide +kernel
theorem dX2_add_15 : decode cX2_add 15 = .ok (.aload_n 0, 1) := by decide +kernel
theorem dX2_add_16 : decode cX2_add 16 = .ok (.getfield 27, 3) := by decide +kernel
theorem dX2_add_19 : decode cX2_add 19 = .ok (.iload_n 1, 1) := by decide +kernel
theorem dX2_add_20 : decode cX2_add 20 = .ok (.iastore, 1) := by decide +kernel
theorem dX2_add_21 : decode cX2_add 21 = .ok (.aload_n 0, 1) := by decide +kernel
theorem dX2_add_22 : decode cX2_add 22 = .ok (.getfield 15, 3) := by decide +kernel
theorem dX2_add_25 : decode cX2_add 25 = .ok (.aload_n 0, 1) := by decide +kernel
theorem dX2_add_26 : decode cX2_add 26 = .ok (.getfield 27, 3) := by decide +kernel
theorem dX2_add_29 : decode cX2_add 29 = .ok (.iload_n 2, 1) := by decide +kernel
theorem dX2_add_30 : decode cX2_add 30 = .ok (.iastore, 1) := by decide +kernel
theorem dX2_add_31 : decode cX2_add 31 = .ok (.aload_n 0, 1) := by decide +kernel
theorem dX2_add_32 : decode cX2_add 32 = .ok (.getfield 18, 3) := by decide +kernel
theorem dX2_add_35 : decode cX2_add 35 = .ok (.aload_n 0, 1) := by decide +kernel
theorem dX2_add_36 : decode cX2_add 36 = .ok (.getfield 27, 3) := by decide +kernel
theorem dX2_add_39 : decode cX2_add 39 = .ok (.iload_n 3, 1) := by decide +kernel
theorem dX2_add_40 : decode cX2_add 40 = .ok (.iastore, 1) := by decide +kernel
theorem dX2_add_41 : decode cX2_add 41 = .ok (.aload_n 0, 1) := by decide +kernel
theorem dX2_add_42 : decode cX2_add 42 = .ok (.getfield 21, 3) := by decide +kernel
theorem dX2_add_45 : decode cX2_add 45 = .ok (.aload_n 0, 1) := by decide +kernel
theorem dX2_add_46 : decode cX2_add 46 = .ok (.getfield 27, 3) := by decide +kernel
theorem dX2_add_49 : decode cX2_add 49 = .ok (.iload 4, 2) := by decide +kernel
theorem dX2_add_51 : decode cX2_add 51 = .ok (.iastore, 1) := by decide +kernel
theorem dX2_add_52 : decode cX2_add 52 = .ok (.aload_n 0, 1) := by decide +kernel
theorem dX2_add_53 : decode cX2_add 53 = .ok (.getfield 24, 3) := by decide +kernel
theorem dX2_add_56 : decode cX2_add 56 = .ok (.aload_n 0, 1) := by decide +kernel
theorem dX2_add_57 : decode cX2_add 57 = .ok (.getfield 27, 3) := by decide +kernel
theorem dX2_add_60 : decode cX2_add 60 = .ok (.iload 5, 2) := by decide +kernel
theorem dX2_add_62 : decode cX2_add 62 = .ok (.iastore, 1) := by decide +kernel
theorem dX2_add_63 : decode cX2_add 63 = .ok (.aload_n 0, 1) := by decide +kernel
theorem dX2_add_64 : decode cX2_add 64 = .ok (.dup, 1) := by decide +kernel
theorem dX2_add_65 : decode cX2_add 65 = .ok (.getfield 27, 3) := by decide +kernel
theorem dX2_add_68 : decode cX2_add 68 = .ok (.iconst 1, 1) := by decide +kernel
theorem dX2_add_69 : decode cX2_add 69 = .ok (.iadd, 1) := by decide +kernel
theorem dX2_add_70 : decode cX2_add 70 = .ok (.putfield 27, 3) := by decide +kernel
theorem dX2_add_73 : decode cX2_add 73 = .ok (.return_, 1) := by decide +kernel
theorem dX3_init_0 : decode cX3_init 0 = .ok (.aload_n 0, 1) := by decide +kernel
theorem dX3_init_1 : decode cX3_init 1 = .ok (.invokespecial 3, 3) := by decide +kernel
theorem dX3_init_4 : decode cX3_init 4 = .ok (.aload_n 0, 1) := by decide +kernel
theorem dX3_init_5 : decode cX3_init 5 = .ok (.bipush 8, 2) := by decide +kernel
theorem dX3_init_7 : decode cX3_init 7 = .ok (.newarray .int, 2) := by decide +kernel
theorem dX3_init_9 : decode cX3_init 9 = .ok (.putfield 9, 3) := by decide +kernel
theorem dX3_init_12 : decode cX3_init 12 = .ok (.aload_n 0, 1) := by decide +kernel
theorem dX3_init_13 : decode cX3_init 13 = .ok (.bipush 8, 2) := by decide +kernel
theorem dX3_init_15 : decode cX3_init 15 = .ok (.newarray .int, 2) := by decide +kernel
theorem dX3_init_17 : decode cX3_init 17 = .ok (.putfield 15, 3) := by decide +kernel
theorem dX3_init_20 : decode cX3_init 20 = .ok (.aload_n 0, 1) := by decide +kernel
theorem dX3_init_21 : decode cX3_init 21 = .ok (.bipush 8, 2) := by decide +kernel
theorem dX3_init_23 : decode cX3_init 23 = .ok (.newarray .int, 2) := by decide +kernel
theorem dX3_init_25 : decode cX3_init 25 = .ok (.putfield 18, 3) := by decide +kernel
