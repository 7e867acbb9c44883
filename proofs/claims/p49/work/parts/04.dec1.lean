theorem dX1_init_0 : decode cX1_init 0 = .ok (.aload_n 0, 1) := by decide +kernel
theorem dX1_init_1 : decode cX1_init 1 = .ok (.invokespecial 3, 3) := by decide +kernel
theorem dX1_init_4 : decode cX1_init 4 = .ok (.aload_n 0, 1) := by decide +kernel
theorem dX1_init_5 : decode cX1_init 5 = .ok (.bipush 9, 2) := by decide +kernel
theorem dX1_init_7 : decode cX1_init 7 = .ok (.anewarray 11, 3) := by decide +kernel
theorem dX1_init_10 : decode cX1_init 10 = .ok (.putfield 13, 3) := by decide +kernel
theorem dX1_init_13 : decode cX1_init 13 = .ok (.aload_n 0, 1) := by decide +kernel
theorem dX1_init_14 : decode cX1_init 14 = .ok (.iconst 0, 1) := by decide +kernel
theorem dX1_init_15 : decode cX1_init 15 = .ok (.putfield 17, 3) := by decide +kernel
theorem dX1_init_18 : decode cX1_init 18 = .ok (.aload_n 0, 1) := by decide +kernel
theorem dX1_init_19 : decode cX1_init 19 = .ok (.iconst 0, 1) := by decide +kernel
theorem dX1_init_20 : decode cX1_init 20 = .ok (.putfield 21, 3) := by decide +kernel
theorem dX1_init_23 : decode cX1_init 23 = .ok (.iconst 0, 1) := by decide +kernel
theorem dX1_init_24 : decode cX1_init 24 = .ok (.istore_n 1, 1) := by decide +kernel
theorem dX1_init_25 : decode cX1_init 25 = .ok (.iload_n 1, 1) := by decide +kernel
theorem dX1_init_26 : decode cX1_init 26 = .ok (.aload_n 0, 1) := by decide +kernel
theorem dX1_init_27 : decode cX1_init 27 = .ok (.getfield 13, 3) := by decide +kernel
theorem dX1_init_30 : decode cX1_init 30 = .ok (.arraylength, 1) := by decide +kernel
theorem dX1_init_31 : decode cX1_init 31 = .ok (.if_icmp .ge 22, 3) := by decide +kernel
theorem dX1_init_34 : decode cX1_init 34 = .ok (.aload_n 0, 1) := by decide +kernel
theorem dX1_init_35 : decode cX1_init 35 = .ok (.getfield 13, 3) := by decide +kernel
theorem dX1_init_38 : decode cX1_init 38 = .ok (.iload_n 1, 1) := by decide +kernel
theorem dX1_init_39 : decode cX1_init 39 = .ok (.new 11, 3) := by decide +kernel
theorem dX1_init_42 : decode cX1_init 42 = .ok (.dup, 1) := by decide +kernel
theorem dX1_init_43 : decode cX1_init 43 = .ok (.invokespecial 24, 3) := by decide +kernel
theorem dX1_init_46 : decode cX1_init 46 = .ok (.aastore, 1) := by decide +kernel
theorem dX1_init_47 : decode cX1_init 47 = .ok (.iinc 1 1, 3) := by decide +kernel
theorem dX1_init_50 : decode cX1_init 50 = .ok (.goto (-25), 3) := by decide +kernel
theorem dX1_init_53 : decode cX1_init 53 = .ok (.return_, 1) := by decide +kernel
theorem dX1_count_0 : decode cX1_count 0 = .ok (.aload_n 0, 1) := by decide +kernel
theorem dX1_count_1 : decode cX1_count 1 = .ok (.getfield 21, 3) := by decide +kernel
theorem dX1_count_4 : decode cX1_count 4 = .ok (.ireturn, 1) := by decide +kernel
theorem dX1_clear_0 : decode cX1_clear 0 = .ok (.aload_n 0, 1) := by decide +kernel
theorem dX1_clear_1 : decode cX1_clear 1 = .ok (.iconst 0, 1) := by decide +kernel
theorem dX1_clear_2 : decode cX1_clear 2 = .ok (.putfield 21, 3) := by decide +kernel
theorem dX1_clear_5 : decode cX1_clear 5 = .ok (.return_, 1) := by decide +kernel
theorem dX1_prepare_0 : decode cX1_prepare 0 = .ok (.aload_n 0, 1) := by decide +kernel
theorem dX1_prepare_1 : decode cX1_prepare 1 = .ok (.invokevirtual 25, 3) := by decide +kernel
theorem dX1_prepare_4 : decode cX1_prepare 4 = .ok (.astore_n 2, 1) := by decide +kernel
theorem dX1_prepare_5 : decode cX1_prepare 5 = .ok (.aload_n 2, 1) := by decide +kernel
theorem dX1_prepare_6 : decode cX1_prepare 6 = .ok (.ifnull 8, 3) := by decide +kernel
theorem dX1_prepare_9 : decode cX1_prepare 9 = .ok (.aload_n 2, 1) := by decide +kernel
theorem dX1_prepare_10 : decode cX1_prepare 10 = .ok (.aload_n 1, 1) := by decide +kernel
theorem dX1_prepare_11 : decode cX1_prepare 11 = .ok (.invokevirtual 29, 3) := by decide +kernel
theorem dX1_prepare_14 : decode cX1_prepare 14 = .ok (.return_, 1) := by decide +kernel
theorem dX1_keep_0 : decode cX1_keep 0 = .ok (.aload_n 0, 1) := by decide +kernel
theorem dX1_keep_1 : decode cX1_keep 1 = .ok (.getfield 21, 3) := by decide +kernel
theorem dX1_keep_4 : decode cX1_keep 4 = .ok (.bipush 8, 2) := by decide +kernel
theorem dX1_keep_6 : decode cX1_keep 6 = .ok (.if_icmp .ge 16, 3) := by decide +kernel
theorem dX1_keep_9 : decode cX1_keep 9 = .ok (.aload_n 0, 1) := by decide +kernel
theorem dX1_keep_10 : decode cX1_keep 10 = .ok (.dup, 1) := by decide +kernel
theorem dX1_keep_11 : decode cX1_keep 11 = .ok (.getfield 21, 3) := by decide +kernel
theorem dX1_keep_14 : decode cX1_keep 14 = .ok (.iconst 1, 1) := by decide +kernel
theorem dX1_keep_15 : decode cX1_keep 15 = .ok (.iadd, 1) := by decide +kernel
theorem dX1_keep_16 : decode cX1_keep 16 = .ok (.putfield 21, 3) := by decide +kernel
theorem dX1_keep_19 : decode cX1_keep 19 = .ok (.goto 16, 3) := by decide +kernel
theorem dX1_keep_22 : decode cX1_keep 22 = .ok (.aload_n 0, 1) := by decide +kernel
theorem dX1_keep_23 : decode cX1_keep 23 = .ok (.aload_n 0, 1) := by decide +kernel
theorem dX1_keep_24 : decode cX1_keep 24 = .ok (.getfield 17, 3) := by decide +kernel
theorem dX1_keep_27 : decode cX1_keep 27 = .ok (.iconst 1, 1) := by decide +kernel
theorem dX1_keep_28 : decode cX1_keep 28 = .ok (.iadd, 1) := by decide +kernel
theorem dX1_keep_29 : decode cX1_keep 29 = .ok (.bipush 9, 2) := by decide +kernel
theorem dX1_keep_31 : decode cX1_keep 31 = .ok (.irem, 1) := by decide +kernel
theorem dX1_keep_32 : decode cX1_keep 32 = .ok (.putfield 17, 3) := by decide +kernel
theorem dX1_keep_35 : decode cX1_keep 35 = .ok (.return_, 1) := by decide +kernel
theorem dX1_takeBack_0 : decode cX1_takeBack 0 = .ok (.aload_n 0, 1) := by decide +kernel
theorem dX1_takeBack_1 : decode cX1_takeBack 1 = .ok (.getfield 21, 3) := by decide +kernel
theorem dX1_takeBack_4 : decode cX1_takeBack 4 = .ok (.ifCond .ne 5, 3) := by decide +kernel
theorem dX1_takeBack_7 : decode cX1_takeBack 7 = .ok (.iconst 0, 1) := by decide +kernel
theorem dX1_takeBack_8 : decode cX1_takeBack 8 = .ok (.ireturn, 1) := by decide +kernel
theorem dX1_takeBack_9 : decode cX1_takeBack 9 = .ok (.aload_n 0, 1) := by decide +kernel
theorem dX1_takeBack_10 : decode cX1_takeBack 10 = .ok (.dup, 1) := by decide +kernel
theorem dX1_takeBack_11 : decode cX1_takeBack 11 = .ok (.getfield 21, 3) := by decide +kernel
theorem dX1_takeBack_14 : decode cX1_takeBack 14 = .ok (.iconst 1, 1) := by decide +kernel
theorem dX1_takeBack_15 : decode cX1_takeBack 15 = .ok (.isub, 1) := by decide +kernel
theorem dX1_takeBack_16 : decode cX1_takeBack 16 = .ok (.putfield 21, 3) := by decide +kernel
theorem dX1_takeBack_19 : decode cX1_takeBack 19 = .ok (.aload_n 0, 1) := by decide +kernel
theorem dX1_takeBack_20 : decode cX1_takeBack 20 = .ok (.invokevirtual 25, 3) := by decide +kernel
theorem dX1_takeBack_23 : decode cX1_takeBack 23 = .ok (.astore_n 2, 1) := by decide +kernel
theorem dX1_takeBack_24 : decode cX1_takeBack 24 = .ok (.aload_n 2, 1) := by decide +kernel
theorem dX1_takeBack_25 : decode cX1_takeBack 25 = .ok (.ifnull 8, 3) := by decide +kernel
theorem dX1_takeBack_28 : decode cX1_takeBack 28 = .ok (.aload_n 1, 1) := by decide +kernel
theorem dX1_takeBack_29 : decode cX1_takeBack 29 = .ok (.aload_n 2, 1) := by decide +kernel
theorem dX1_takeBack_30 : decode cX1_takeBack 30 = .ok (.invokevirtual 29, 3) := by decide +kernel
theorem dX1_takeBack_33 : decode cX1_takeBack 33 = .ok (.iconst 1, 1) := by decide +kernel
theorem dX1_takeBack_34 : decode cX1_takeBack 34 = .ok (.ireturn, 1) := by decide +kernel
theorem dX1_slotBehindKept_0 : decode cX1_slotBehindKept 0 = .ok (.aload_n 0, 1) := by decide +kernel
theorem dX1_slotBehindKept_1 : decode cX1_slotBehindKept 1 = .ok (.getfield 17, 3) := by decide +kernel
theorem dX1_slotBehindKept_4 : decode cX1_slotBehindKept 4 = .ok (.aload_n 0, 1) := by decide +kernel
theorem dX1_slotBehindKept_5 : decode cX1_slotBehindKept 5 = .ok (.getfield 21, 3) := by decide +kernel
theorem dX1_slotBehindKept_8 : decode cX1_slotBehindKept 8 = .ok (.iadd, 1) := by decide +kernel
theorem dX1_slotBehindKept_9 : decode cX1_slotBehindKept 9 = .ok (.bipush 9, 2) := by decide +kernel
theorem dX1_slotBehindKept_11 : decode cX1_slotBehindKept 11 = .ok (.irem, 1) := by decide +kernel
theorem dX1_slotBehindKept_12 : decode cX1_slotBehindKept 12 = .ok (.istore_n 1, 1) := by decide +kernel
theorem dX1_slotBehindKept_13 : decode cX1_slotBehindKept 13 = .ok (.iload_n 1, 1) := by decide +kernel
theorem dX1_slotBehindKept_14 : decode cX1_slotBehindKept 14 = .ok (.ifCond .lt 21, 3) := by decide +kernel
theorem dX1_slotBehindKept_17 : decode cX1_slotBehindKept 17 = .ok (.iload_n 1, 1) := by decide +kernel
theorem dX1_slotBehindKept_18 : decode cX1_slotBehindKept 18 = .ok (.aload_n 0, 1) := by decide +kernel
theorem dX1_slotBehindKept_19 : decode cX1_slotBehindKept 19 = .ok (.getfield 13, 3) := by decide +kernel
theorem dX1_slotBehindKept_22 : decode cX1_slotBehindKept 22 = .ok (.arraylength, 1) := by decide +kernel
theorem dX1_slotBehindKept_23 : decode cX1_slotBehindKept 23 = .ok (.if_icmp .ge 12, 3) := by decide +kernel
theorem dX1_slotBehindKept_26 : decode cX1_slotBehindKept 26 = .ok (.aload_n 0, 1) := by decide +kernel
theorem dX1_slotBehindKept_27 : decode cX1_slotBehindKept 27 = .ok (.getfield 13, 3) := by decide +kernel
theorem dX1_slotBehindKept_30 : decode cX1_slotBehindKept 30 = .ok (.iload_n 1, 1) := by decide +kernel
theorem dX1_slotBehindKept_31 : decode cX1_slotBehindKept 31 = .ok (.aaload, 1) := by decide +kernel
theorem dX1_slotBehindKept_32 : decode cX1_slotBehindKept 32 = .ok (.goto 4, 3) := by decide +kernel
theorem dX1_slotBehindKept_35 : decode cX1_slotBehindKept 35 = .ok (.aconst_null, 1) := by decide +kernel
theorem dX1_slotBehindKept_36 : decode cX1_slotBehindKept 36 = .ok (.areturn, 1) := by decide +kernel
theorem dX2_init_0 : decode cX2_init 0 = .ok (.aload_n 0, 1) := by decide +kernel
theorem dX2_init_1 : decode cX2_init 1 = .ok (.invokespecial 3, 3) := by decide +kernel
theorem dX2_init_4 : decode cX2_init 4 = .ok (.aload_n 0, 1) := by decide +kernel
theorem dX2_init_5 : decode cX2_init 5 = .ok (.iconst 0, 1) := by decide +kernel
theorem dX2_init_6 : decode cX2_init 6 = .ok (.putfield 9, 3) := by decide +kernel
theorem dX2_init_9 : decode cX2_init 9 = .ok (.aload_n 0, 1) := by decide +kernel
theorem dX2_init_10 : decode cX2_init 10 = .ok (.iload_n 1, 1) := by decide +kernel
theorem dX2_init_11 : decode cX2_init 11 = .ok (.ifCond .ge 7, 3) := by decide +kernel
theorem dX2_init_14 : decode cX2_init 14 = .ok (.iconst 0, 1) := by decide +kernel
theorem dX2_init_15 : decode cX2_init 15 = .ok (.goto 4, 3) := by decide +kernel
theorem dX2_init_18 : decode cX2_init 18 = .ok (.iload_n 1, 1) := by decide +kernel
theorem dX2_init_19 : decode cX2_init 19 = .ok (.newarray .int, 2) := by decide +kernel
theorem dX2_init_21 : decode cX2_init 21 = .ok (.putfield 15, 3) := by decide +kernel
theorem dX2_init_24 : decode cX2_init 24 = .ok (.return_, 1) := by decide +kernel
theorem dX2_count_0 : decode cX2_count 0 = .ok (.aload_n 0, 1) := by decide +kernel
theorem dX2_count_1 : decode cX2_count 1 = .ok (.getfield 9, 3) := by decide +kernel
theorem dX2_count_4 : decode cX2_count 4 = .ok (.ireturn, 1) := by decide +kernel
theorem dX2_get_0 : decode cX2_get 0 = .ok (.iload_n 1, 1) := by decide +kernel
theorem dX2_get_1 : decode cX2_get 1 = .ok (.ifCond .lt 20, 3) := by decide +kernel
theorem dX2_get_4 : decode cX2_get 4 = .ok (.iload_n 1, 1) := by decide +kernel
theorem dX2_get_5 : decode cX2_get 5 = .ok (.aload_n 0, 1) := by decide +kernel
theorem dX2_get_6 : decode cX2_get 6 = .ok (.getfield 9, 3) := by decide +kernel
theorem dX2_get_9 : decode cX2_get 9 = .ok (.if_icmp .ge 12, 3) := by decide +kernel
theorem dX2_get_12 : decode cX2_get 12 = .ok (.aload_n 0, 1) := by decide +kernel
theorem dX2_get_13 : decode cX2_get 13 = .ok (.getfield 15, 3) := by decide +kernel
theorem dX2_get_16 : decode cX2_get 16 = .ok (.iload_n 1, 1) := by decide +kernel
theorem dX2_get_17 : decode cX2_get 17 = .ok (.iaload, 1) := by decide +kernel
theorem dX2_get_18 : decode cX2_get 18 = .ok (.goto 4, 3) := by decide +kernel
theorem dX2_get_21 : decode cX2_get 21 = .ok (.iconst (-1), 1) := by decide +kernel
theorem dX2_get_22 : decode cX2_get 22 = .ok (.ireturn, 1) := by decide +kernel
theorem dX2_set_0 : decode cX2_set 0 = .ok (.iload_n 1, 1) := by decide +kernel
theorem dX2_set_1 : decode cX2_set 1 = .ok (.ifCond .lt 18, 3) := by decide +kernel
theorem dX2_set_4 : decode cX2_set 4 = .ok (.iload_n 1, 1) := by decide +kernel
theorem dX2_set_5 : decode cX2_set 5 = .ok (.aload_n 0, 1) := by decide +kernel
theorem dX2_set_6 : decode cX2_set 6 = .ok (.getfield 9, 3) := by decide +kernel
theorem dX2_set_9 : decode cX2_set 9 = .ok (.if_icmp .ge 10, 3) := by decide +kernel
theorem dX2_set_12 : decode cX2_set 12 = .ok (.aload_n 0, 1) := by decide +kernel
theorem dX2_set_13 : decode cX2_set 13 = .ok (.getfield 15, 3) := by decide +kernel
theorem dX2_set_16 : decode cX2_set 16 = .ok (.iload_n 1, 1) := by decide +kernel
theorem dX2_set_17 : decode cX2_set 17 = .ok (.iload_n 2, 1) := by decide +kernel
theorem dX2_set_18 : decode cX2_set 18 = .ok (.iastore, 1) := by decide +kernel
theorem dX2_set_19 : decode cX2_set 19 = .ok (.return_, 1) := by decide +kernel
theorem dX2_raise_0 : decode cX2_raise 0 = .ok (.iload_n 1, 1) := by decide +kernel
theorem dX2_raise_1 : decode cX2_raise 1 = .ok (.ifCond .lt 21, 3) := by decide +kernel
theorem dX2_raise_4 : decode cX2_raise 4 = .ok (.iload_n 1, 1) := by decide +kernel
theorem dX2_raise_5 : decode cX2_raise 5 = .ok (.aload_n 0, 1) := by decide +kernel
theorem dX2_raise_6 : decode cX2_raise 6 = .ok (.getfield 9, 3) := by decide +kernel
theorem dX2_raise_9 : decode cX2_raise 9 = .ok (.if_icmp .ge 13, 3) := by decide +kernel
theorem dX2_raise_12 : decode cX2_raise 12 = .ok (.aload_n 0, 1) := by decide +kernel
theorem dX2_raise_13 : decode cX2_raise 13 = .ok (.getfield 15, 3) := by decide +kernel
theorem dX2_raise_16 : decode cX2_raise 16 = .ok (.iload_n 1, 1) := by decide +kernel
theorem dX2_raise_17 : decode cX2_raise 17 = .ok (.dup2, 1) := by decide +kernel
theorem dX2_raise_18 : decode cX2_raise 18 = .ok (.iaload, 1) := by decide +kernel
theorem dX2_raise_19 : decode cX2_raise 19 = .ok (.iload_n 2, 1) := by decide +kernel
theorem dX2_raise_20 : decode cX2_raise 20 = .ok (.iadd, 1) := by decide +kernel
theorem dX2_raise_21 : decode cX2_raise 21 = .ok (.iastore, 1) := by decide +kernel
theorem dX2_raise_22 : decode cX2_raise 22 = .ok (.return_, 1) := by decide +kernel
theorem dX2_add_0 : decode cX2_add 0 = .ok (.aload_n 0, 1) := by decide +kernel
theorem dX2_add_1 : decode cX2_add 1 = .ok (.getfield 9, 3) := by decide +kernel
theorem dX2_add_4 : decode cX2_add 4 = .ok (.ifCond .lt 35, 3) := by decide +kernel
theorem dX2_add_7 : decode cX2_add 7 = .ok (.aload_n 0, 1) := by decide +kernel
theorem dX2_add_8 : decode cX2_add 8 = .ok (.getfield 9, 3) := by decide +kernel
theorem dX2_add_11 : decode cX2_add 11 = .ok (.aload_n 0, 1) := by decide +kernel
theorem dX2_add_12 : decode cX2_add 12 = .ok (.getfield 15, 3) := by decide +kernel
theorem dX2_add_15 : decode cX2_add 15 = .ok (.arraylength, 1) := by decide +kernel
theorem dX2_add_16 : decode cX2_add 16 = .ok (.if_icmp .ge 23, 3) := by decide +kernel
theorem dX2_add_19 : decode cX2_add 19 = .ok (.aload_n 0, 1) := by decide +kernel
theorem dX2_add_20 : decode cX2_add 20 = .ok (.getfield 15, 3) := by decide +kernel
theorem dX2_add_23 : decode cX2_add 23 = .ok (.aload_n 0, 1) := by decide +kernel
theorem dX2_add_24 : decode cX2_add 24 = .ok (.getfield 9, 3) := by decide +kernel
theorem dX2_add_27 : decode cX2_add 27 = .ok (.iload_n 1, 1) := by decide +kernel
theorem dX2_add_28 : decode cX2_add 28 = .ok (.iastore, 1) := by decide +kernel
theorem dX2_add_29 : decode cX2_add 29 = .ok (.aload_n 0, 1) := by decide +kernel
theorem dX2_add_30 : decode cX2_add 30 = .ok (.dup, 1) := by decide +kernel
theorem dX2_add_31 : decode cX2_add 31 = .ok (.getfield 9, 3) := by decide +kernel
theorem dX2_add_34 : decode cX2_add 34 = .ok (.iconst 1, 1) := by decide +kernel
theorem dX2_add_35 : decode cX2_add 35 = .ok (.iadd, 1) := by decide +kernel
theorem dX2_add_36 : decode cX2_add 36 = .ok (.putfield 9, 3) := by decide +kernel
theorem dX2_add_39 : decode cX2_add 39 = .ok (.return_, 1) := by decide +kernel
theorem dX2_insert_0 : decode cX2_insert 0 = .ok (.iload_n 1, 1) := by decide +kernel
theorem dX2_insert_1 : decode cX2_insert 1 = .ok (.ifCond .lt 23, 3) := by decide +kernel
theorem dX2_insert_4 : decode cX2_insert 4 = .ok (.iload_n 1, 1) := by decide +kernel
theorem dX2_insert_5 : decode cX2_insert 5 = .ok (.aload_n 0, 1) := by decide +kernel
theorem dX2_insert_6 : decode cX2_insert 6 = .ok (.getfield 9, 3) := by decide +kernel
theorem dX2_insert_9 : decode cX2_insert 9 = .ok (.if_icmp .gt 15, 3) := by decide +kernel
theorem dX2_insert_12 : decode cX2_insert 12 = .ok (.aload_n 0, 1) := by decide +kernel
theorem dX2_insert_13 : decode cX2_insert 13 = .ok (.getfield 9, 3) := by decide +kernel
theorem dX2_insert_16 : decode cX2_insert 16 = .ok (.aload_n 0, 1) := by decide +kernel
theorem dX2_insert_17 : decode cX2_insert 17 = .ok (.getfield 15, 3) := by decide +kernel
theorem dX2_insert_20 : decode cX2_insert 20 = .ok (.arraylength, 1) := by decide +kernel
theorem dX2_insert_21 : decode cX2_insert 21 = .ok (.if_icmp .lt 4, 3) := by decide +kernel
theorem dX2_insert_24 : decode cX2_insert 24 = .ok (.return_, 1) := by decide +kernel
theorem dX2_insert_25 : decode cX2_insert 25 = .ok (.aload_n 0, 1) := by decide +kernel
theorem dX2_insert_26 : decode cX2_insert 26 = .ok (.getfield 9, 3) := by decide +kernel
theorem dX2_insert_29 : decode cX2_insert 29 = .ok (.istore_n 3, 1) := by decide +kernel
theorem dX2_insert_30 : decode cX2_insert 30 = .ok (.iload_n 3, 1) := by decide +kernel
theorem dX2_insert_31 : decode cX2_insert 31 = .ok (.iload_n 1, 1) := by decide +kernel
theorem dX2_insert_32 : decode cX2_insert 32 = .ok (.if_icmp .le 23, 3) := by decide +kernel
theorem dX2_insert_35 : decode cX2_insert 35 = .ok (.aload_n 0, 1) := by decide +kernel
theorem dX2_insert_36 : decode cX2_insert 36 = .ok (.getfield 15, 3) := by decide +kernel
theorem dX2_insert_39 : decode cX2_insert 39 = .ok (.iload_n 3, 1) := by decide +kernel
theorem dX2_insert_40 : decode cX2_insert 40 = .ok (.aload_n 0, 1) := by decide +kernel
theorem dX2_insert_41 : decode cX2_insert 41 = .ok (.getfield 15, 3) := by decide +kernel
theorem dX2_insert_44 : decode cX2_insert 44 = .ok (.iload_n 3, 1) := by decide +kernel
theorem dX2_insert_45 : decode cX2_insert 45 = .ok (.iconst 1, 1) := by decide +kernel
theorem dX2_insert_46 : decode cX2_insert 46 = .ok (.isub, 1) := by decide +kernel
theorem dX2_insert_47 : decode cX2_insert 47 = .ok (.iaload, 1) := by decide +kernel
theorem dX2_insert_48 : decode cX2_insert 48 = .ok (.iastore, 1) := by decide +kernel
theorem dX2_insert_49 : decode cX2_insert 49 = .ok (.iinc 3 (-1), 3) := by decide +kernel
theorem dX2_insert_52 : decode cX2_insert 52 = .ok (.goto (-22), 3) := by decide +kernel
theorem dX2_insert_55 : decode cX2_insert 55 = .ok (.aload_n 0, 1) := by decide +kernel
theorem dX2_insert_56 : decode cX2_insert 56 = .ok (.getfield 15, 3) := by decide +kernel
theorem dX2_insert_59 : decode cX2_insert 59 = .ok (.iload_n 1, 1) := by decide +kernel
theorem dX2_insert_60 : decode cX2_insert 60 = .ok (.iload_n 2, 1) := by decide +kernel
theorem dX2_insert_61 : decode cX2_insert 61 = .ok (.iastore, 1) := by decide +kernel
theorem dX2_insert_62 : decode cX2_insert 62 = .ok (.aload_n 0, 1) := by decide +kernel
theorem dX2_insert_63 : decode cX2_insert 63 = .ok (.dup, 1) := by decide +kernel
theorem dX2_insert_64 : decode cX2_insert 64 = .ok (.getfield 9, 3) := by decide +kernel
theorem dX2_insert_67 : decode cX2_insert 67 = .ok (.iconst 1, 1) := by decide +kernel
theorem dX2_insert_68 : decode cX2_insert 68 = .ok (.iadd, 1) := by decide +kernel
theorem dX2_insert_69 : decode cX2_insert 69 = .ok (.putfield 9, 3) := by decide +kernel
theorem dX2_insert_72 : decode cX2_insert 72 = .ok (.return_, 1) := by decide +kernel
theorem dX2_removeAt_0 : decode cX2_removeAt 0 = .ok (.iload_n 1, 1) := by decide +kernel
theorem dX2_removeAt_1 : decode cX2_removeAt 1 = .ok (.ifCond .lt 11, 3) := by decide +kernel
theorem dX2_removeAt_4 : decode cX2_removeAt 4 = .ok (.iload_n 1, 1) := by decide +kernel
theorem dX2_removeAt_5 : decode cX2_removeAt 5 = .ok (.aload_n 0, 1) := by decide +kernel
theorem dX2_removeAt_6 : decode cX2_removeAt 6 = .ok (.getfield 9, 3) := by decide +kernel
theorem dX2_removeAt_9 : decode cX2_removeAt 9 = .ok (.if_icmp .lt 4, 3) := by decide +kernel
theorem dX2_removeAt_12 : decode cX2_removeAt 12 = .ok (.return_, 1) := by decide +kernel
theorem dX2_removeAt_13 : decode cX2_removeAt 13 = .ok (.aload_n 0, 1) := by decide +kernel
theorem dX2_removeAt_14 : decode cX2_removeAt 14 = .ok (.dup, 1) := by decide +kernel
theorem dX2_removeAt_15 : decode cX2_removeAt 15 = .ok (.getfield 9, 3) := by decide +kernel
theorem dX2_removeAt_18 : decode cX2_removeAt 18 = .ok (.iconst 1, 1) := by decide +kernel
theorem dX2_removeAt_19 : decode cX2_removeAt 19 = .ok (.isub, 1) := by decide +kernel
theorem dX2_removeAt_20 : decode cX2_removeAt 20 = .ok (.putfield 9, 3) := by decide +kernel
theorem dX2_removeAt_23 : decode cX2_removeAt 23 = .ok (.iload_n 1, 1) := by decide +kernel
theorem dX2_removeAt_24 : decode cX2_removeAt 24 = .ok (.istore_n 2, 1) := by decide +kernel
theorem dX2_removeAt_25 : decode cX2_removeAt 25 = .ok (.iload_n 2, 1) := by decide +kernel
theorem dX2_removeAt_26 : decode cX2_removeAt 26 = .ok (.aload_n 0, 1) := by decide +kernel
theorem dX2_removeAt_27 : decode cX2_removeAt 27 = .ok (.getfield 9, 3) := by decide +kernel
theorem dX2_removeAt_30 : decode cX2_removeAt 30 = .ok (.if_icmp .ge 23, 3) := by decide +kernel
theorem dX2_removeAt_33 : decode cX2_removeAt 33 = .ok (.aload_n 0, 1) := by decide +kernel
theorem dX2_removeAt_34 : decode cX2_removeAt 34 = .ok (.getfield 15, 3) := by decide +kernel
theorem dX2_removeAt_37 : decode cX2_removeAt 37 = .ok (.iload_n 2, 1) := by decide +kernel
theorem dX2_removeAt_38 : decode cX2_removeAt 38 = .ok (.aload_n 0, 1) := by decide +kernel
theorem dX2_removeAt_39 : decode cX2_removeAt 39 = .ok (.getfield 15, 3) := by decide +kernel
theorem dX2_removeAt_42 : decode cX2_removeAt 42 = .ok (.iload_n 2, 1) := by decide +kernel
theorem dX2_removeAt_43 : decode cX2_removeAt 43 = .ok (.iconst 1, 1) := by decide +kernel
theorem dX2_removeAt_44 : decode cX2_removeAt 44 = .ok (.iadd, 1) := by decide +kernel
theorem dX2_removeAt_45 : decode cX2_removeAt 45 = .ok (.iaload, 1) := by decide +kernel
theorem dX2_removeAt_46 : decode cX2_removeAt 46 = .ok (.iastore, 1) := by decide +kernel
theorem dX2_removeAt_47 : decode cX2_removeAt 47 = .ok (.iinc 2 1, 3) := by decide +kernel
theorem dX2_removeAt_50 : decode cX2_removeAt 50 = .ok (.goto (-25), 3) := by decide +kernel
theorem dX2_removeAt_53 : decode cX2_removeAt 53 = .ok (.return_, 1) := by decide +kernel
theorem dX2_placeOf_0 : decode cX2_placeOf 0 = .ok (.iconst 0, 1) := by decide +kernel
theorem dX2_placeOf_1 : decode cX2_placeOf 1 = .ok (.istore_n 2, 1) := by decide +kernel
theorem dX2_placeOf_2 : decode cX2_placeOf 2 = .ok (.iload_n 2, 1) := by decide +kernel
theorem dX2_placeOf_3 : decode cX2_placeOf 3 = .ok (.aload_n 0, 1) := by decide +kernel
theorem dX2_placeOf_4 : decode cX2_placeOf 4 = .ok (.getfield 9, 3) := by decide +kernel
theorem dX2_placeOf_7 : decode cX2_placeOf 7 = .ok (.if_icmp .ge 21, 3) := by decide +kernel
theorem dX2_placeOf_10 : decode cX2_placeOf 10 = .ok (.aload_n 0, 1) := by decide +kernel
theorem dX2_placeOf_11 : decode cX2_placeOf 11 = .ok (.getfield 15, 3) := by decide +kernel
theorem dX2_placeOf_14 : decode cX2_placeOf 14 = .ok (.iload_n 2, 1) := by decide +kernel
theorem dX2_placeOf_15 : decode cX2_placeOf 15 = .ok (.iaload, 1) := by decide +kernel
theorem dX2_placeOf_16 : decode cX2_placeOf 16 = .ok (.iload_n 1, 1) := by decide +kernel
theorem dX2_placeOf_17 : decode cX2_placeOf 17 = .ok (.if_icmp .ne 5, 3) := by decide +kernel
theorem dX2_placeOf_20 : decode cX2_placeOf 20 = .ok (.iload_n 2, 1) := by decide +kernel
theorem dX2_placeOf_21 : decode cX2_placeOf 21 = .ok (.ireturn, 1) := by decide +kernel
theorem dX2_placeOf_22 : decode cX2_placeOf 22 = .ok (.iinc 2 1, 3) := by decide +kernel
theorem dX2_placeOf_25 : decode cX2_placeOf 25 = .ok (.goto (-23), 3) := by decide +kernel
theorem dX2_placeOf_28 : decode cX2_placeOf 28 = .ok (.iconst (-1), 1) := by decide +kernel
theorem dX2_placeOf_29 : decode cX2_placeOf 29 = .ok (.ireturn, 1) := by decide +kernel
theorem dX2_countOf_0 : decode cX2_countOf 0 = .ok (.iconst 0, 1) := by decide +kernel
theorem dX2_countOf_1 : decode cX2_countOf 1 = .ok (.istore_n 2, 1) := by decide +kernel
theorem dX2_countOf_2 : decode cX2_countOf 2 = .ok (.iconst 0, 1) := by decide +kernel
theorem dX2_countOf_3 : decode cX2_countOf 3 = .ok (.istore_n 3, 1) := by decide +kernel
theorem dX2_countOf_4 : decode cX2_countOf 4 = .ok (.iload_n 3, 1) := by decide +kernel
theorem dX2_countOf_5 : decode cX2_countOf 5 = .ok (.aload_n 0, 1) := by decide +kernel
theorem dX2_countOf_6 : decode cX2_countOf 6 = .ok (.getfield 9, 3) := by decide +kernel
theorem dX2_countOf_9 : decode cX2_countOf 9 = .ok (.if_icmp .ge 22, 3) := by decide +kernel
theorem dX2_countOf_12 : decode cX2_countOf 12 = .ok (.aload_n 0, 1) := by decide +kernel
theorem dX2_countOf_13 : decode cX2_countOf 13 = .ok (.getfield 15, 3) := by decide +kernel
theorem dX2_countOf_16 : decode cX2_countOf 16 = .ok (.iload_n 3, 1) := by decide +kernel
theorem dX2_countOf_17 : decode cX2_countOf 17 = .ok (.iaload, 1) := by decide +kernel
theorem dX2_countOf_18 : decode cX2_countOf 18 = .ok (.iload_n 1, 1) := by decide +kernel
theorem dX2_countOf_19 : decode cX2_countOf 19 = .ok (.if_icmp .ne 6, 3) := by decide +kernel
theorem dX2_countOf_22 : decode cX2_countOf 22 = .ok (.iinc 2 1, 3) := by decide +kernel
theorem dX2_countOf_25 : decode cX2_countOf 25 = .ok (.iinc 3 1, 3) := by decide +kernel
theorem dX2_countOf_28 : decode cX2_countOf 28 = .ok (.goto (-24), 3) := by decide +kernel
theorem dX2_countOf_31 : decode cX2_countOf 31 = .ok (.iload_n 2, 1) := by decide +kernel
theorem dX2_countOf_32 : decode cX2_countOf 32 = .ok (.ireturn, 1) := by decide +kernel
theorem dX2_clear_0 : decode cX2_clear 0 = .ok (.aload_n 0, 1) := by decide +kernel
theorem dX2_clear_1 : decode cX2_clear 1 = .ok (.iconst 0, 1) := by decide +kernel
theorem dX2_clear_2 : decode cX2_clear 2 = .ok (.putfield 9, 3) := by decide +kernel
theorem dX2_clear_5 : decode cX2_clear 5 = .ok (.return_, 1) := by decide +kernel
theorem dX2_fillWithZeros_0 : decode cX2_fillWithZeros 0 = .ok (.aload_n 0, 1) := by decide +kernel
theorem dX2_fillWithZeros_1 : decode cX2_fillWithZeros 1 = .ok (.invokevirtual 19, 3) := by decide +kernel
theorem dX2_fillWithZeros_4 : decode cX2_fillWithZeros 4 = .ok (.iconst 0, 1) := by decide +kernel
theorem dX2_fillWithZeros_5 : decode cX2_fillWithZeros 5 = .ok (.istore_n 2, 1) := by decide +kernel
theorem dX2_fillWithZeros_6 : decode cX2_fillWithZeros 6 = .ok (.iload_n 2, 1) := by decide +kernel
theorem dX2_fillWithZeros_7 : decode cX2_fillWithZeros 7 = .ok (.iload_n 1, 1) := by decide +kernel
theorem dX2_fillWithZeros_8 : decode cX2_fillWithZeros 8 = .ok (.if_icmp .ge 14, 3) := by decide +kernel
theorem dX2_fillWithZeros_11 : decode cX2_fillWithZeros 11 = .ok (.aload_n 0, 1) := by decide +kernel
theorem dX2_fillWithZeros_12 : decode cX2_fillWithZeros 12 = .ok (.iconst 0, 1) := by decide +kernel
theorem dX2_fillWithZeros_13 : decode cX2_fillWithZeros 13 = .ok (.invokevirtual 22, 3) := by decide +kernel
theorem dX2_fillWithZeros_16 : decode cX2_fillWithZeros 16 = .ok (.iinc 2 1, 3) := by decide +kernel
theorem dX2_fillWithZeros_19 : decode cX2_fillWithZeros 19 = .ok (.goto (-13), 3) := by decide +kernel
theorem dX2_fillWithZeros_22 : decode cX2_fillWithZeros 22 = .ok (.return_, 1) := by decide +kernel
theorem dX2_copyFrom_0 : decode cX2_copyFrom 0 = .ok (.aload_n 0, 1) := by decide +kernel
theorem dX2_copyFrom_1 : decode cX2_copyFrom 1 = .ok (.aload_n 1, 1) := by decide +kernel
theorem dX2_copyFrom_2 : decode cX2_copyFrom 2 = .ok (.getfield 9, 3) := by decide +kernel
theorem dX2_copyFrom_5 : decode cX2_copyFrom 5 = .ok (.aload_n 0, 1) := by decide +kernel
theorem dX2_copyFrom_6 : decode cX2_copyFrom 6 = .ok (.getfield 15, 3) := by decide +kernel
theorem dX2_copyFrom_9 : decode cX2_copyFrom 9 = .ok (.arraylength, 1) := by decide +kernel
theorem dX2_copyFrom_10 : decode cX2_copyFrom 10 = .ok (.invokestatic 26, 3) := by decide +kernel
theorem dX2_copyFrom_13 : decode cX2_copyFrom 13 = .ok (.putfield 9, 3) := by decide +kernel
theorem dX2_copyFrom_16 : decode cX2_copyFrom 16 = .ok (.iconst 0, 1) := by decide +kernel
theorem dX2_copyFrom_17 : decode cX2_copyFrom 17 = .ok (.istore_n 2, 1) := by decide +kernel
theorem dX2_copyFrom_18 : decode cX2_copyFrom 18 = .ok (.iload_n 2, 1) := by decide +kernel
theorem dX2_copyFrom_19 : decode cX2_copyFrom 19 = .ok (.aload_n 0, 1) := by decide +kernel
theorem dX2_copyFrom_20 : decode cX2_copyFrom 20 = .ok (.getfield 9, 3) := by decide +kernel
theorem dX2_copyFrom_23 : decode cX2_copyFrom 23 = .ok (.if_icmp .ge 21, 3) := by decide +kernel
theorem dX2_copyFrom_26 : decode cX2_copyFrom 26 = .ok (.aload_n 0, 1) := by decide +kernel
theorem dX2_copyFrom_27 : decode cX2_copyFrom 27 = .ok (.getfield 15, 3) := by decide +kernel
theorem dX2_copyFrom_30 : decode cX2_copyFrom 30 = .ok (.iload_n 2, 1) := by decide +kernel
theorem dX2_copyFrom_31 : decode cX2_copyFrom 31 = .ok (.aload_n 1, 1) := by decide +kernel
theorem dX2_copyFrom_32 : decode cX2_copyFrom 32 = .ok (.getfield 15, 3) := by decide +kernel
theorem dX2_copyFrom_35 : decode cX2_copyFrom 35 = .ok (.iload_n 2, 1) := by decide +kernel
theorem dX2_copyFrom_36 : decode cX2_copyFrom 36 = .ok (.iaload, 1) := by decide +kernel
theorem dX2_copyFrom_37 : decode cX2_copyFrom 37 = .ok (.iastore, 1) := by decide +kernel
theorem dX2_copyFrom_38 : decode cX2_copyFrom 38 = .ok (.iinc 2 1, 3) := by decide +kernel
theorem dX2_copyFrom_41 : decode cX2_copyFrom 41 = .ok (.goto (-23), 3) := by decide +kernel
theorem dX2_copyFrom_44 : decode cX2_copyFrom 44 = .ok (.return_, 1) := by decide +kernel
theorem dX4_init_0 : decode cX4_init 0 = .ok (.aload_n 0, 1) := by decide +kernel
theorem dX4_init_1 : decode cX4_init 1 = .ok (.invokespecial 3, 3) := by decide +kernel
theorem dX4_init_4 : decode cX4_init 4 = .ok (.aload_n 0, 1) := by decide +kernel
theorem dX4_init_5 : decode cX4_init 5 = .ok (.iconst 0, 1) := by decide +kernel
theorem dX4_init_6 : decode cX4_init 6 = .ok (.putfield 9, 3) := by decide +kernel
theorem dX4_init_9 : decode cX4_init 9 = .ok (.aload_n 0, 1) := by decide +kernel
theorem dX4_init_10 : decode cX4_init 10 = .ok (.iconst (-1), 1) := by decide +kernel
theorem dX4_init_11 : decode cX4_init 11 = .ok (.putfield 15, 3) := by decide +kernel
theorem dX4_init_14 : decode cX4_init 14 = .ok (.aload_n 0, 1) := by decide +kernel
theorem dX4_init_15 : decode cX4_init 15 = .ok (.new 18, 3) := by decide +kernel
theorem dX4_init_18 : decode cX4_init 18 = .ok (.dup, 1) := by decide +kernel
theorem dX4_init_19 : decode cX4_init 19 = .ok (.aload_n 1, 1) := by decide +kernel
theorem dX4_init_20 : decode cX4_init 20 = .ok (.invokespecial 20, 3) := by decide +kernel
theorem dX4_init_23 : decode cX4_init 23 = .ok (.putfield 23, 3) := by decide +kernel
theorem dX4_init_26 : decode cX4_init 26 = .ok (.return_, 1) := by decide +kernel
theorem dX4_errorPlace_0 : decode cX4_errorPlace 0 = .ok (.aload_n 0, 1) := by decide +kernel
theorem dX4_errorPlace_1 : decode cX4_errorPlace 1 = .ok (.getfield 15, 3) := by decide +kernel
theorem dX4_errorPlace_4 : decode cX4_errorPlace 4 = .ok (.ireturn, 1) := by decide +kernel
theorem dX4_readArchive_0 : decode cX4_readArchive 0 = .ok (.aload_n 0, 1) := by decide +kernel
theorem dX4_readArchive_1 : decode cX4_readArchive 1 = .ok (.iload_n 1, 1) := by decide +kernel
theorem dX4_readArchive_2 : decode cX4_readArchive 2 = .ok (.invokevirtual 27, 3) := by decide +kernel
theorem dX4_readArchive_5 : decode cX4_readArchive 5 = .ok (.aload_n 0, 1) := by decide +kernel
theorem dX4_readArchive_6 : decode cX4_readArchive 6 = .ok (.aload_n 2, 1) := by decide +kernel
theorem dX4_readArchive_7 : decode cX4_readArchive 7 = .ok (.invokevirtual 31, 3) := by decide +kernel
theorem dX4_readArchive_10 : decode cX4_readArchive 10 = .ok (.ifCond .ne 8, 3) := by decide +kernel
theorem dX4_readArchive_13 : decode cX4_readArchive 13 = .ok (.aload_n 0, 1) := by decide +kernel
theorem dX4_readArchive_14 : decode cX4_readArchive 14 = .ok (.getfield 9, 3) := by decide +kernel
theorem dX4_readArchive_17 : decode cX4_readArchive 17 = .ok (.ireturn, 1) := by decide +kernel
theorem dX4_readArchive_18 : decode cX4_readArchive 18 = .ok (.aload_n 0, 1) := by decide +kernel
theorem dX4_readArchive_19 : decode cX4_readArchive 19 = .ok (.getfield 23, 3) := by decide +kernel
theorem dX4_readArchive_22 : decode cX4_readArchive 22 = .ok (.invokevirtual 35, 3) := by decide +kernel
theorem dX4_readArchive_25 : decode cX4_readArchive 25 = .ok (.iconst 0, 1) := by decide +kernel
theorem dX4_readArchive_26 : decode cX4_readArchive 26 = .ok (.istore_n 3, 1) := by decide +kernel
theorem dX4_readArchive_27 : decode cX4_readArchive 27 = .ok (.iload_n 3, 1) := by decide +kernel
theorem dX4_readArchive_28 : decode cX4_readArchive 28 = .ok (.bipush 24, 2) := by decide +kernel
theorem dX4_readArchive_30 : decode cX4_readArchive 30 = .ok (.if_icmp .gt 85, 3) := by decide +kernel
theorem dX4_readArchive_33 : decode cX4_readArchive 33 = .ok (.iload_n 3, 1) := by decide +kernel
theorem dX4_readArchive_34 : decode cX4_readArchive 34 = .ok (.ifCond .le 15, 3) := by decide +kernel
theorem dX4_readArchive_37 : decode cX4_readArchive 37 = .ok (.aload_n 0, 1) := by decide +kernel
theorem dX4_readArchive_38 : decode cX4_readArchive 38 = .ok (.getfield 23, 3) := by decide +kernel
theorem dX4_readArchive_41 : decode cX4_readArchive 41 = .ok (.invokevirtual 38, 3) := by decide +kernel
theorem dX4_readArchive_44 : decode cX4_readArchive 44 = .ok (.ifCond .ne 5, 3) := by decide +kernel
theorem dX4_readArchive_47 : decode cX4_readArchive 47 = .ok (.iconst 0, 1) := by decide +kernel
theorem dX4_readArchive_48 : decode cX4_readArchive 48 = .ok (.ireturn, 1) := by decide +kernel
theorem dX4_readArchive_49 : decode cX4_readArchive 49 = .ok (.aload_n 0, 1) := by decide +kernel
theorem dX4_readArchive_50 : decode cX4_readArchive 50 = .ok (.getfield 23, 3) := by decide +kernel
theorem dX4_readArchive_53 : decode cX4_readArchive 53 = .ok (.ldc 42, 2) := by decide +kernel
theorem dX4_readArchive_55 : decode cX4_readArchive 55 = .ok (.invokevirtual 44, 3) := by decide +kernel
theorem dX4_readArchive_58 : decode cX4_readArchive 58 = .ok (.ifCond .ne 14, 3) := by decide +kernel
theorem dX4_readArchive_61 : decode cX4_readArchive 61 = .ok (.aload_n 0, 1) := by decide +kernel
theorem dX4_readArchive_62 : decode cX4_readArchive 62 = .ok (.iconst 1, 1) := by decide +kernel
theorem dX4_readArchive_63 : decode cX4_readArchive 63 = .ok (.invokevirtual 48, 3) := by decide +kernel
theorem dX4_readArchive_66 : decode cX4_readArchive 66 = .ok (.pop, 1) := by decide +kernel
theorem dX4_readArchive_67 : decode cX4_readArchive 67 = .ok (.aload_n 0, 1) := by decide +kernel
theorem dX4_readArchive_68 : decode cX4_readArchive 68 = .ok (.getfield 9, 3) := by decide +kernel
theorem dX4_readArchive_71 : decode cX4_readArchive 71 = .ok (.ireturn, 1) := by decide +kernel
theorem dX4_readArchive_72 : decode cX4_readArchive 72 = .ok (.iload_n 3, 1) := by decide +kernel
theorem dX4_readArchive_73 : decode cX4_readArchive 73 = .ok (.bipush 24, 2) := by decide +kernel
theorem dX4_readArchive_75 : decode cX4_readArchive 75 = .ok (.if_icmp .ne 14, 3) := by decide +kernel
theorem dX4_readArchive_78 : decode cX4_readArchive 78 = .ok (.aload_n 0, 1) := by decide +kernel
theorem dX4_readArchive_79 : decode cX4_readArchive 79 = .ok (.iconst 4, 1) := by decide +kernel
theorem dX4_readArchive_80 : decode cX4_readArchive 80 = .ok (.invokevirtual 48, 3) := by decide +kernel
theorem dX4_readArchive_83 : decode cX4_readArchive 83 = .ok (.pop, 1) := by decide +kernel
theorem dX4_readArchive_84 : decode cX4_readArchive 84 = .ok (.aload_n 0, 1) := by decide +kernel
theorem dX4_readArchive_85 : decode cX4_readArchive 85 = .ok (.getfield 9, 3) := by decide +kernel
theorem dX4_readArchive_88 : decode cX4_readArchive 88 = .ok (.ireturn, 1) := by decide +kernel
theorem dX4_readArchive_89 : decode cX4_readArchive 89 = .ok (.aload_n 0, 1) := by decide +kernel
theorem dX4_readArchive_90 : decode cX4_readArchive 90 = .ok (.aload_n 2, 1) := by decide +kernel
theorem dX4_readArchive_91 : decode cX4_readArchive 91 = .ok (.invokevirtual 52, 3) := by decide +kernel
theorem dX4_readArchive_94 : decode cX4_readArchive 94 = .ok (.ifCond .ne 8, 3) := by decide +kernel
theorem dX4_readArchive_97 : decode cX4_readArchive 97 = .ok (.aload_n 0, 1) := by decide +kernel
theorem dX4_readArchive_98 : decode cX4_readArchive 98 = .ok (.getfield 9, 3) := by decide +kernel
theorem dX4_readArchive_101 : decode cX4_readArchive 101 = .ok (.ireturn, 1) := by decide +kernel
theorem dX4_readArchive_102 : decode cX4_readArchive 102 = .ok (.aload_n 0, 1) := by decide +kernel
theorem dX4_readArchive_103 : decode cX4_readArchive 103 = .ok (.getfield 23, 3) := by decide +kernel
theorem dX4_readArchive_106 : decode cX4_readArchive 106 = .ok (.invokevirtual 35, 3) := by decide +kernel
theorem dX4_readArchive_109 : decode cX4_readArchive 109 = .ok (.iinc 3 1, 3) := by decide +kernel
theorem dX4_readArchive_112 : decode cX4_readArchive 112 = .ok (.goto (-85), 3) := by decide +kernel
theorem dX4_readArchive_115 : decode cX4_readArchive 115 = .ok (.aload_n 0, 1) := by decide +kernel
theorem dX4_readArchive_116 : decode cX4_readArchive 116 = .ok (.getfield 9, 3) := by decide +kernel
theorem dX4_readArchive_119 : decode cX4_readArchive 119 = .ok (.ireturn, 1) := by decide +kernel
theorem dX4_begin_0 : decode cX4_begin 0 = .ok (.aload_n 0, 1) := by decide +kernel
theorem dX4_begin_1 : decode cX4_begin 1 = .ok (.iconst 0, 1) := by decide +kernel
theorem dX4_begin_2 : decode cX4_begin 2 = .ok (.putfield 9, 3) := by decide +kernel
theorem dX4_begin_5 : decode cX4_begin 5 = .ok (.aload_n 0, 1) := by decide +kernel
theorem dX4_begin_6 : decode cX4_begin 6 = .ok (.iconst (-1), 1) := by decide +kernel
theorem dX4_begin_7 : decode cX4_begin 7 = .ok (.putfield 15, 3) := by decide +kernel
theorem dX4_begin_10 : decode cX4_begin 10 = .ok (.aload_n 0, 1) := by decide +kernel
theorem dX4_begin_11 : decode cX4_begin 11 = .ok (.getfield 23, 3) := by decide +kernel
theorem dX4_begin_14 : decode cX4_begin 14 = .ok (.iload_n 1, 1) := by decide +kernel
theorem dX4_begin_15 : decode cX4_begin 15 = .ok (.invokevirtual 68, 3) := by decide +kernel
theorem dX4_begin_18 : decode cX4_begin 18 = .ok (.return_, 1) := by decide +kernel
theorem dX4_readHead_0 : decode cX4_readHead 0 = .ok (.aload_n 0, 1) := by decide +kernel
theorem dX4_readHead_1 : decode cX4_readHead 1 = .ok (.getfield 23, 3) := by decide +kernel
theorem dX4_readHead_4 : decode cX4_readHead 4 = .ok (.invokevirtual 35, 3) := by decide +kernel
theorem dX4_readHead_7 : decode cX4_readHead 7 = .ok (.aload_n 0, 1) := by decide +kernel
theorem dX4_readHead_8 : decode cX4_readHead 8 = .ok (.getfield 23, 3) := by decide +kernel
theorem dX4_readHead_11 : decode cX4_readHead 11 = .ok (.ldc 69, 2) := by decide +kernel
theorem dX4_readHead_13 : decode cX4_readHead 13 = .ok (.invokevirtual 44, 3) := by decide +kernel
theorem dX4_readHead_16 : decode cX4_readHead 16 = .ok (.ifCond .ne 9, 3) := by decide +kernel
theorem dX4_readHead_19 : decode cX4_readHead 19 = .ok (.aload_n 0, 1) := by decide +kernel
theorem dX4_readHead_20 : decode cX4_readHead 20 = .ok (.iconst 1, 1) := by decide +kernel
theorem dX4_readHead_21 : decode cX4_readHead 21 = .ok (.invokevirtual 48, 3) := by decide +kernel
theorem dX4_readHead_24 : decode cX4_readHead 24 = .ok (.ireturn, 1) := by decide +kernel
theorem dX4_readHead_25 : decode cX4_readHead 25 = .ok (.aload_n 0, 1) := by decide +kernel
theorem dX4_readHead_26 : decode cX4_readHead 26 = .ok (.iconst 1, 1) := by decide +kernel
theorem dX4_readHead_27 : decode cX4_readHead 27 = .ok (.bipush 14, 2) := by decide +kernel
theorem dX4_readHead_29 : decode cX4_readHead 29 = .ok (.invokevirtual 71, 3) := by decide +kernel
theorem dX4_readHead_32 : decode cX4_readHead 32 = .ok (.ifCond .ne 5, 3) := by decide +kernel
theorem dX4_readHead_35 : decode cX4_readHead 35 = .ok (.iconst 0, 1) := by decide +kernel
theorem dX4_readHead_36 : decode cX4_readHead 36 = .ok (.ireturn, 1) := by decide +kernel
theorem dX4_readHead_37 : decode cX4_readHead 37 = .ok (.aload_n 0, 1) := by decide +kernel
theorem dX4_readHead_38 : decode cX4_readHead 38 = .ok (.getfield 23, 3) := by decide +kernel
theorem dX4_readHead_41 : decode cX4_readHead 41 = .ok (.invokevirtual 75, 3) := by decide +kernel
theorem dX4_readHead_44 : decode cX4_readHead 44 = .ok (.istore_n 2, 1) := by decide +kernel
theorem dX4_readHead_45 : decode cX4_readHead 45 = .ok (.aload_n 0, 1) := by decide +kernel
theorem dX4_readHead_46 : decode cX4_readHead 46 = .ok (.iconst 1, 1) := by decide +kernel
theorem dX4_readHead_47 : decode cX4_readHead 47 = .ok (.bipush 6, 2) := by decide +kernel
theorem dX4_readHead_49 : decode cX4_readHead 49 = .ok (.invokevirtual 71, 3) := by decide +kernel
theorem dX4_readHead_52 : decode cX4_readHead 52 = .ok (.ifCond .ne 5, 3) := by decide +kernel
theorem dX4_readHead_55 : decode cX4_readHead 55 = .ok (.iconst 0, 1) := by decide +kernel
theorem dX4_readHead_56 : decode cX4_readHead 56 = .ok (.ireturn, 1) := by decide +kernel
theorem dX4_readHead_57 : decode cX4_readHead 57 = .ok (.aload_n 0, 1) := by decide +kernel
theorem dX4_readHead_58 : decode cX4_readHead 58 = .ok (.getfield 23, 3) := by decide +kernel
theorem dX4_readHead_61 : decode cX4_readHead 61 = .ok (.invokevirtual 75, 3) := by decide +kernel
theorem dX4_readHead_64 : decode cX4_readHead 64 = .ok (.istore_n 3, 1) := by decide +kernel
theorem dX4_readHead_65 : decode cX4_readHead 65 = .ok (.aload_n 0, 1) := by decide +kernel
theorem dX4_readHead_66 : decode cX4_readHead 66 = .ok (.iconst 1, 1) := by decide +kernel
theorem dX4_readHead_67 : decode cX4_readHead 67 = .ok (.bipush 8, 2) := by decide +kernel
theorem dX4_readHead_69 : decode cX4_readHead 69 = .ok (.invokevirtual 71, 3) := by decide +kernel
theorem dX4_readHead_72 : decode cX4_readHead 72 = .ok (.ifCond .ne 5, 3) := by decide +kernel
theorem dX4_readHead_75 : decode cX4_readHead 75 = .ok (.iconst 0, 1) := by decide +kernel
theorem dX4_readHead_76 : decode cX4_readHead 76 = .ok (.ireturn, 1) := by decide +kernel
theorem dX4_readHead_77 : decode cX4_readHead 77 = .ok (.aload_n 0, 1) := by decide +kernel
theorem dX4_readHead_78 : decode cX4_readHead 78 = .ok (.getfield 23, 3) := by decide +kernel
theorem dX4_readHead_81 : decode cX4_readHead 81 = .ok (.invokevirtual 75, 3) := by decide +kernel
theorem dX4_readHead_84 : decode cX4_readHead 84 = .ok (.istore 4, 2) := by decide +kernel
theorem dX4_readHead_86 : decode cX4_readHead 86 = .ok (.aload_n 0, 1) := by decide +kernel
theorem dX4_readHead_87 : decode cX4_readHead 87 = .ok (.iconst 1, 1) := by decide +kernel
theorem dX4_readHead_88 : decode cX4_readHead 88 = .ok (.iconst 5, 1) := by decide +kernel
theorem dX4_readHead_89 : decode cX4_readHead 89 = .ok (.invokevirtual 71, 3) := by decide +kernel
theorem dX4_readHead_92 : decode cX4_readHead 92 = .ok (.ifCond .ne 5, 3) := by decide +kernel
theorem dX4_readHead_95 : decode cX4_readHead 95 = .ok (.iconst 0, 1) := by decide +kernel
theorem dX4_readHead_96 : decode cX4_readHead 96 = .ok (.ireturn, 1) := by decide +kernel
theorem dX4_readHead_97 : decode cX4_readHead 97 = .ok (.aload_n 1, 1) := by decide +kernel
theorem dX4_readHead_98 : decode cX4_readHead 98 = .ok (.iload_n 2, 1) := by decide +kernel
theorem dX4_readHead_99 : decode cX4_readHead 99 = .ok (.iload_n 3, 1) := by decide +kernel
theorem dX4_readHead_100 : decode cX4_readHead 100 = .ok (.iload 4, 2) := by decide +kernel
theorem dX4_readHead_102 : decode cX4_readHead 102 = .ok (.aload_n 0, 1) := by decide +kernel
theorem dX4_readHead_103 : decode cX4_readHead 103 = .ok (.getfield 23, 3) := by decide +kernel
theorem dX4_readHead_106 : decode cX4_readHead 106 = .ok (.invokevirtual 75, 3) := by decide +kernel
theorem dX4_readHead_109 : decode cX4_readHead 109 = .ok (.invokevirtual 78, 3) := by decide +kernel
theorem dX4_readHead_112 : decode cX4_readHead 112 = .ok (.aload_n 0, 1) := by decide +kernel
theorem dX4_readHead_113 : decode cX4_readHead 113 = .ok (.getfield 23, 3) := by decide +kernel
theorem dX4_readHead_116 : decode cX4_readHead 116 = .ok (.invokevirtual 35, 3) := by decide +kernel
theorem dX4_readHead_119 : decode cX4_readHead 119 = .ok (.aload_n 0, 1) := by decide +kernel
theorem dX4_readHead_120 : decode cX4_readHead 120 = .ok (.invokevirtual 83, 3) := by decide +kernel
theorem dX4_readHead_123 : decode cX4_readHead 123 = .ok (.ireturn, 1) := by decide +kernel
theorem dX4_readFolder_0 : decode cX4_readFolder 0 = .ok (.aload_n 0, 1) := by decide +kernel
theorem dX4_readFolder_1 : decode cX4_readFolder 1 = .ok (.iconst 0, 1) := by decide +kernel
theorem dX4_readFolder_2 : decode cX4_readFolder 2 = .ok (.sipush 9999, 3) := by decide +kernel
theorem dX4_readFolder_5 : decode cX4_readFolder 5 = .ok (.invokevirtual 71, 3) := by decide +kernel
theorem dX4_readFolder_8 : decode cX4_readFolder 8 = .ok (.ifCond .ne 5, 3) := by decide +kernel
theorem dX4_readFolder_11 : decode cX4_readFolder 11 = .ok (.iconst 0, 1) := by decide +kernel
theorem dX4_readFolder_12 : decode cX4_readFolder 12 = .ok (.ireturn, 1) := by decide +kernel
theorem dX4_readFolder_13 : decode cX4_readFolder 13 = .ok (.aload_n 0, 1) := by decide +kernel
theorem dX4_readFolder_14 : decode cX4_readFolder 14 = .ok (.getfield 23, 3) := by decide +kernel
theorem dX4_readFolder_17 : decode cX4_readFolder 17 = .ok (.invokevirtual 75, 3) := by decide +kernel
theorem dX4_readFolder_20 : decode cX4_readFolder 20 = .ok (.istore_n 2, 1) := by decide +kernel
theorem dX4_readFolder_21 : decode cX4_readFolder 21 = .ok (.aload_n 1, 1) := by decide +kernel
theorem dX4_readFolder_22 : decode cX4_readFolder 22 = .ok (.getfield 87, 3) := by decide +kernel
theorem dX4_readFolder_25 : decode cX4_readFolder 25 = .ok (.iload_n 2, 1) := by decide +kernel
theorem dX4_readFolder_26 : decode cX4_readFolder 26 = .ok (.invokevirtual 91, 3) := by decide +kernel
theorem dX4_readFolder_29 : decode cX4_readFolder 29 = .ok (.iconst (-1), 1) := by decide +kernel
theorem dX4_readFolder_30 : decode cX4_readFolder 30 = .ok (.if_icmp .eq 9, 3) := by decide +kernel
theorem dX4_readFolder_33 : decode cX4_readFolder 33 = .ok (.aload_n 0, 1) := by decide +kernel
theorem dX4_readFolder_34 : decode cX4_readFolder 34 = .ok (.iconst 3, 1) := by decide +kernel
theorem dX4_readFolder_35 : decode cX4_readFolder 35 = .ok (.invokevirtual 48, 3) := by decide +kernel
theorem dX4_readFolder_38 : decode cX4_readFolder 38 = .ok (.ireturn, 1) := by decide +kernel
theorem dX4_readFolder_39 : decode cX4_readFolder 39 = .ok (.iconst 0, 1) := by decide +kernel
theorem dX4_readFolder_40 : decode cX4_readFolder 40 = .ok (.istore_n 3, 1) := by decide +kernel
theorem dX4_readFolder_41 : decode cX4_readFolder 41 = .ok (.aload_n 0, 1) := by decide +kernel
theorem dX4_readFolder_42 : decode cX4_readFolder 42 = .ok (.getfield 23, 3) := by decide +kernel
theorem dX4_readFolder_45 : decode cX4_readFolder 45 = .ok (.invokevirtual 35, 3) := by decide +kernel
theorem dX4_readFolder_48 : decode cX4_readFolder 48 = .ok (.aload_n 0, 1) := by decide +kernel
theorem dX4_readFolder_49 : decode cX4_readFolder 49 = .ok (.getfield 23, 3) := by decide +kernel
theorem dX4_readFolder_52 : decode cX4_readFolder 52 = .ok (.ldc 97, 2) := by decide +kernel
theorem dX4_readFolder_54 : decode cX4_readFolder 54 = .ok (.invokevirtual 44, 3) := by decide +kernel
theorem dX4_readFolder_57 : decode cX4_readFolder 57 = .ok (.ifCond .eq 31, 3) := by decide +kernel
theorem dX4_readFolder_60 : decode cX4_readFolder 60 = .ok (.aload_n 0, 1) := by decide +kernel
theorem dX4_readFolder_61 : decode cX4_readFolder 61 = .ok (.iconst 0, 1) := by decide +kernel
theorem dX4_readFolder_62 : decode cX4_readFolder 62 = .ok (.sipush 999, 3) := by decide +kernel
theorem dX4_readFolder_65 : decode cX4_readFolder 65 = .ok (.invokevirtual 71, 3) := by decide +kernel
theorem dX4_readFolder_68 : decode cX4_readFolder 68 = .ok (.ifCond .ne 5, 3) := by decide +kernel
theorem dX4_readFolder_71 : decode cX4_readFolder 71 = .ok (.iconst 0, 1) := by decide +kernel
theorem dX4_readFolder_72 : decode cX4_readFolder 72 = .ok (.ireturn, 1) := by decide +kernel
theorem dX4_readFolder_73 : decode cX4_readFolder 73 = .ok (.aload_n 0, 1) := by decide +kernel
theorem dX4_readFolder_74 : decode cX4_readFolder 74 = .ok (.getfield 23, 3) := by decide +kernel
theorem dX4_readFolder_77 : decode cX4_readFolder 77 = .ok (.invokevirtual 75, 3) := by decide +kernel
theorem dX4_readFolder_80 : decode cX4_readFolder 80 = .ok (.istore_n 3, 1) := by decide +kernel
theorem dX4_readFolder_81 : decode cX4_readFolder 81 = .ok (.aload_n 0, 1) := by decide +kernel
theorem dX4_readFolder_82 : decode cX4_readFolder 82 = .ok (.getfield 23, 3) := by decide +kernel
theorem dX4_readFolder_85 : decode cX4_readFolder 85 = .ok (.invokevirtual 35, 3) := by decide +kernel
theorem dX4_readFolder_88 : decode cX4_readFolder 88 = .ok (.aload_n 1, 1) := by decide +kernel
theorem dX4_readFolder_89 : decode cX4_readFolder 89 = .ok (.iload_n 2, 1) := by decide +kernel
theorem dX4_readFolder_90 : decode cX4_readFolder 90 = .ok (.iload_n 3, 1) := by decide +kernel
theorem dX4_readFolder_91 : decode cX4_readFolder 91 = .ok (.invokevirtual 99, 3) := by decide +kernel
theorem dX4_readFolder_94 : decode cX4_readFolder 94 = .ok (.aload_n 0, 1) := by decide +kernel
theorem dX4_readFolder_95 : decode cX4_readFolder 95 = .ok (.invokevirtual 83, 3) := by decide +kernel
theorem dX4_readFolder_98 : decode cX4_readFolder 98 = .ok (.ireturn, 1) := by decide +kernel
theorem dX4_readNumber_0 : decode cX4_readNumber 0 = .ok (.aload_n 0, 1) := by decide +kernel
theorem dX4_readNumber_1 : decode cX4_readNumber 1 = .ok (.getfield 23, 3) := by decide +kernel
theorem dX4_readNumber_4 : decode cX4_readNumber 4 = .ok (.invokevirtual 35, 3) := by decide +kernel
theorem dX4_readNumber_7 : decode cX4_readNumber 7 = .ok (.aload_n 0, 1) := by decide +kernel
theorem dX4_readNumber_8 : decode cX4_readNumber 8 = .ok (.getfield 23, 3) := by decide +kernel
theorem dX4_readNumber_11 : decode cX4_readNumber 11 = .ok (.invokevirtual 38, 3) := by decide +kernel
theorem dX4_readNumber_14 : decode cX4_readNumber 14 = .ok (.iconst 2, 1) := by decide +kernel
theorem dX4_readNumber_15 : decode cX4_readNumber 15 = .ok (.if_icmp .eq 9, 3) := by decide +kernel
theorem dX4_readNumber_18 : decode cX4_readNumber 18 = .ok (.aload_n 0, 1) := by decide +kernel
theorem dX4_readNumber_19 : decode cX4_readNumber 19 = .ok (.iconst 1, 1) := by decide +kernel
theorem dX4_readNumber_20 : decode cX4_readNumber 20 = .ok (.invokevirtual 48, 3) := by decide +kernel
theorem dX4_readNumber_23 : decode cX4_readNumber 23 = .ok (.ireturn, 1) := by decide +kernel
theorem dX4_readNumber_24 : decode cX4_readNumber 24 = .ok (.aload_n 0, 1) := by decide +kernel
theorem dX4_readNumber_25 : decode cX4_readNumber 25 = .ok (.getfield 23, 3) := by decide +kernel
theorem dX4_readNumber_28 : decode cX4_readNumber 28 = .ok (.invokevirtual 75, 3) := by decide +kernel
theorem dX4_readNumber_31 : decode cX4_readNumber 31 = .ok (.iload_n 1, 1) := by decide +kernel
theorem dX4_readNumber_32 : decode cX4_readNumber 32 = .ok (.if_icmp .lt 14, 3) := by decide +kernel
theorem dX4_readNumber_35 : decode cX4_readNumber 35 = .ok (.aload_n 0, 1) := by decide +kernel
theorem dX4_readNumber_36 : decode cX4_readNumber 36 = .ok (.getfield 23, 3) := by decide +kernel
theorem dX4_readNumber_39 : decode cX4_readNumber 39 = .ok (.invokevirtual 75, 3) := by decide +kernel
theorem dX4_readNumber_42 : decode cX4_readNumber 42 = .ok (.iload_n 2, 1) := by decide +kernel
theorem dX4_readNumber_43 : decode cX4_readNumber 43 = .ok (.if_icmp .le 9, 3) := by decide +kernel
theorem dX4_readNumber_46 : decode cX4_readNumber 46 = .ok (.aload_n 0, 1) := by decide +kernel
theorem dX4_readNumber_47 : decode cX4_readNumber 47 = .ok (.iconst 2, 1) := by decide +kernel
theorem dX4_readNumber_48 : decode cX4_readNumber 48 = .ok (.invokevirtual 48, 3) := by decide +kernel
theorem dX4_readNumber_51 : decode cX4_readNumber 51 = .ok (.ireturn, 1) := by decide +kernel
theorem dX4_readNumber_52 : decode cX4_readNumber 52 = .ok (.iconst 1, 1) := by decide +kernel
theorem dX4_readNumber_53 : decode cX4_readNumber 53 = .ok (.ireturn, 1) := by decide +kernel
theorem dX4_isEnded_0 : decode cX4_isEnded 0 = .ok (.aload_n 0, 1) := by decide +kernel
theorem dX4_isEnded_1 : decode cX4_isEnded 1 = .ok (.getfield 23, 3) := by decide +kernel
theorem dX4_isEnded_4 : decode cX4_isEnded 4 = .ok (.invokevirtual 38, 3) := by decide +kernel
theorem dX4_isEnded_7 : decode cX4_isEnded 7 = .ok (.iconst 3, 1) := by decide +kernel
theorem dX4_isEnded_8 : decode cX4_isEnded 8 = .ok (.if_icmp .eq 11, 3) := by decide +kernel
theorem dX4_isEnded_11 : decode cX4_isEnded 11 = .ok (.aload_n 0, 1) := by decide +kernel
theorem dX4_isEnded_12 : decode cX4_isEnded 12 = .ok (.iconst 1, 1) := by decide +kernel
theorem dX4_isEnded_13 : decode cX4_isEnded 13 = .ok (.invokevirtual 48, 3) := by decide +kernel
theorem dX4_isEnded_16 : decode cX4_isEnded 16 = .ok (.ifCond .eq 7, 3) := by decide +kernel
theorem dX4_isEnded_19 : decode cX4_isEnded 19 = .ok (.iconst 1, 1) := by decide +kernel
theorem dX4_isEnded_20 : decode cX4_isEnded 20 = .ok (.goto 4, 3) := by decide +kernel
theorem dX4_isEnded_23 : decode cX4_isEnded 23 = .ok (.iconst 0, 1) := by decide +kernel
theorem dX4_isEnded_24 : decode cX4_isEnded 24 = .ok (.ireturn, 1) := by decide +kernel
theorem dX4_fail_0 : decode cX4_fail 0 = .ok (.aload_n 0, 1) := by decide +kernel
theorem dX4_fail_1 : decode cX4_fail 1 = .ok (.iload_n 1, 1) := by decide +kernel
theorem dX4_fail_2 : decode cX4_fail 2 = .ok (.putfield 9, 3) := by decide +kernel
theorem dX4_fail_5 : decode cX4_fail 5 = .ok (.aload_n 0, 1) := by decide +kernel
theorem dX4_fail_6 : decode cX4_fail 6 = .ok (.aload_n 0, 1) := by decide +kernel
theorem dX4_fail_7 : decode cX4_fail 7 = .ok (.getfield 23, 3) := by decide +kernel
theorem dX4_fail_10 : decode cX4_fail 10 = .ok (.invokevirtual 126, 3) := by decide +kernel
theorem dX4_fail_13 : decode cX4_fail 13 = .ok (.putfield 15, 3) := by decide +kernel
theorem dX4_fail_16 : decode cX4_fail 16 = .ok (.iconst 0, 1) := by decide +kernel
theorem dX4_fail_17 : decode cX4_fail 17 = .ok (.ireturn, 1) := by decide +kernel
theorem dX5_init_0 : decode cX5_init 0 = .ok (.aload_n 0, 1) := by decide +kernel
theorem dX5_init_1 : decode cX5_init 1 = .ok (.invokespecial 3, 3) := by decide +kernel
theorem dX5_init_4 : decode cX5_init 4 = .ok (.aload_n 0, 1) := by decide +kernel
theorem dX5_init_5 : decode cX5_init 5 = .ok (.new 9, 3) := by decide +kernel
theorem dX5_init_8 : decode cX5_init 8 = .ok (.dup, 1) := by decide +kernel
theorem dX5_init_9 : decode cX5_init 9 = .ok (.bipush 24, 2) := by decide +kernel
theorem dX5_init_11 : decode cX5_init 11 = .ok (.invokespecial 11, 3) := by decide +kernel
theorem dX5_init_14 : decode cX5_init 14 = .ok (.putfield 14, 3) := by decide +kernel
theorem dX5_init_17 : decode cX5_init 17 = .ok (.aload_n 0, 1) := by decide +kernel
theorem dX5_init_18 : decode cX5_init 18 = .ok (.new 9, 3) := by decide +kernel
theorem dX5_init_21 : decode cX5_init 21 = .ok (.dup, 1) := by decide +kernel
theorem dX5_init_22 : decode cX5_init 22 = .ok (.bipush 24, 2) := by decide +kernel
theorem dX5_init_24 : decode cX5_init 24 = .ok (.invokespecial 11, 3) := by decide +kernel
theorem dX5_init_27 : decode cX5_init 27 = .ok (.putfield 20, 3) := by decide +kernel
theorem dX5_init_30 : decode cX5_init 30 = .ok (.aload_n 0, 1) := by decide +kernel
theorem dX5_init_31 : decode cX5_init 31 = .ok (.new 9, 3) := by decide +kernel
theorem dX5_init_34 : decode cX5_init 34 = .ok (.dup, 1) := by decide +kernel
theorem dX5_init_35 : decode cX5_init 35 = .ok (.bipush 24, 2) := by decide +kernel
theorem dX5_init_37 : decode cX5_init 37 = .ok (.invokespecial 11, 3) := by decide +kernel
theorem dX5_init_40 : decode cX5_init 40 = .ok (.putfield 23, 3) := by decide +kernel
theorem dX5_init_43 : decode cX5_init 43 = .ok (.aload_n 0, 1) := by decide +kernel
theorem dX5_init_44 : decode cX5_init 44 = .ok (.aload_n 1, 1) := by decide +kernel
theorem dX5_init_45 : decode cX5_init 45 = .ok (.putfield 26, 3) := by decide +kernel
theorem dX5_init_48 : decode cX5_init 48 = .ok (.return_, 1) := by decide +kernel
theorem dX5_markAt_0 : decode cX5_markAt 0 = .ok (.aload_n 0, 1) := by decide +kernel
theorem dX5_markAt_1 : decode cX5_markAt 1 = .ok (.getfield 26, 3) := by decide +kernel
theorem dX5_markAt_4 : decode cX5_markAt 4 = .ok (.aload_n 0, 1) := by decide +kernel
theorem dX5_markAt_5 : decode cX5_markAt 5 = .ok (.getfield 14, 3) := by decide +kernel
theorem dX5_markAt_8 : decode cX5_markAt 8 = .ok (.iload_n 1, 1) := by decide +kernel
theorem dX5_markAt_9 : decode cX5_markAt 9 = .ok (.invokevirtual 29, 3) := by decide +kernel
theorem dX5_markAt_12 : decode cX5_markAt 12 = .ok (.invokevirtual 29, 3) := by decide +kernel
theorem dX5_markAt_15 : decode cX5_markAt 15 = .ok (.ireturn, 1) := by decide +kernel
theorem dX5_halve_0 : decode cX5_halve 0 = .ok (.aload_n 0, 1) := by decide +kernel
theorem dX5_halve_1 : decode cX5_halve 1 = .ok (.getfield 20, 3) := by decide +kernel
theorem dX5_halve_4 : decode cX5_halve 4 = .ok (.invokevirtual 33, 3) := by decide +kernel
theorem dX5_halve_7 : decode cX5_halve 7 = .ok (.iconst 0, 1) := by decide +kernel
theorem dX5_halve_8 : decode cX5_halve 8 = .ok (.istore_n 2, 1) := by decide +kernel
theorem dX5_halve_9 : decode cX5_halve 9 = .ok (.aload_n 0, 1) := by decide +kernel
theorem dX5_halve_10 : decode cX5_halve 10 = .ok (.getfield 14, 3) := by decide +kernel
theorem dX5_halve_13 : decode cX5_halve 13 = .ok (.invokevirtual 36, 3) := by decide +kernel
theorem dX5_halve_16 : decode cX5_halve 16 = .ok (.iconst 1, 1) := by decide +kernel
theorem dX5_halve_17 : decode cX5_halve 17 = .ok (.isub, 1) := by decide +kernel
theorem dX5_halve_18 : decode cX5_halve 18 = .ok (.istore_n 3, 1) := by decide +kernel
theorem dX5_halve_19 : decode cX5_halve 19 = .ok (.iconst 0, 1) := by decide +kernel
theorem dX5_halve_20 : decode cX5_halve 20 = .ok (.istore 4, 2) := by decide +kernel
theorem dX5_halve_22 : decode cX5_halve 22 = .ok (.iload 4, 2) := by decide +kernel
theorem dX5_halve_24 : decode cX5_halve 24 = .ok (.bipush 24, 2) := by decide +kernel
theorem dX5_halve_26 : decode cX5_halve 26 = .ok (.if_icmp .ge 76, 3) := by decide +kernel
theorem dX5_halve_29 : decode cX5_halve 29 = .ok (.iload_n 2, 1) := by decide +kernel
theorem dX5_halve_30 : decode cX5_halve 30 = .ok (.iload_n 3, 1) := by decide +kernel
theorem dX5_halve_31 : decode cX5_halve 31 = .ok (.if_icmp .gt 71, 3) := by decide +kernel
theorem dX5_halve_34 : decode cX5_halve 34 = .ok (.iload_n 2, 1) := by decide +kernel
theorem dX5_halve_35 : decode cX5_halve 35 = .ok (.iload_n 3, 1) := by decide +kernel
theorem dX5_halve_36 : decode cX5_halve 36 = .ok (.iadd, 1) := by decide +kernel
theorem dX5_halve_37 : decode cX5_halve 37 = .ok (.iconst 2, 1) := by decide +kernel
theorem dX5_halve_38 : decode cX5_halve 38 = .ok (.idiv, 1) := by decide +kernel
theorem dX5_halve_39 : decode cX5_halve 39 = .ok (.istore 5, 2) := by decide +kernel
theorem dX5_halve_41 : decode cX5_halve 41 = .ok (.aload_n 0, 1) := by decide +kernel
theorem dX5_halve_42 : decode cX5_halve 42 = .ok (.getfield 26, 3) := by decide +kernel
theorem dX5_halve_45 : decode cX5_halve 45 = .ok (.aload_n 0, 1) := by decide +kernel
theorem dX5_halve_46 : decode cX5_halve 46 = .ok (.getfield 14, 3) := by decide +kernel
theorem dX5_halve_49 : decode cX5_halve 49 = .ok (.iload 5, 2) := by decide +kernel
theorem dX5_halve_51 : decode cX5_halve 51 = .ok (.invokevirtual 29, 3) := by decide +kernel
theorem dX5_halve_54 : decode cX5_halve 54 = .ok (.invokevirtual 29, 3) := by decide +kernel
theorem dX5_halve_57 : decode cX5_halve 57 = .ok (.istore 6, 2) := by decide +kernel
theorem dX5_halve_59 : decode cX5_halve 59 = .ok (.aload_n 0, 1) := by decide +kernel
theorem dX5_halve_60 : decode cX5_halve 60 = .ok (.getfield 20, 3) := by decide +kernel
theorem dX5_halve_63 : decode cX5_halve 63 = .ok (.iload 5, 2) := by decide +kernel
theorem dX5_halve_65 : decode cX5_halve 65 = .ok (.invokevirtual 40, 3) := by decide +kernel
theorem dX5_halve_68 : decode cX5_halve 68 = .ok (.iload 6, 2) := by decide +kernel
theorem dX5_halve_70 : decode cX5_halve 70 = .ok (.iload_n 1, 1) := by decide +kernel
theorem dX5_halve_71 : decode cX5_halve 71 = .ok (.if_icmp .ne 6, 3) := by decide +kernel
theorem dX5_halve_74 : decode cX5_halve 74 = .ok (.iload 5, 2) := by decide +kernel
theorem dX5_halve_76 : decode cX5_halve 76 = .ok (.ireturn, 1) := by decide +kernel
theorem dX5_halve_77 : decode cX5_halve 77 = .ok (.iload 6, 2) := by decide +kernel
theorem dX5_halve_79 : decode cX5_halve 79 = .ok (.iload_n 1, 1) := by decide +kernel
theorem dX5_halve_80 : decode cX5_halve 80 = .ok (.if_icmp .le 11, 3) := by decide +kernel
theorem dX5_halve_83 : decode cX5_halve 83 = .ok (.iload 5, 2) := by decide +kernel
theorem dX5_halve_85 : decode cX5_halve 85 = .ok (.iconst 1, 1) := by decide +kernel
theorem dX5_halve_86 : decode cX5_halve 86 = .ok (.isub, 1) := by decide +kernel
theorem dX5_halve_87 : decode cX5_halve 87 = .ok (.istore_n 3, 1) := by decide +kernel
theorem dX5_halve_88 : decode cX5_halve 88 = .ok (.goto 8, 3) := by decide +kernel
theorem dX5_halve_91 : decode cX5_halve 91 = .ok (.iload 5, 2) := by decide +kernel
theorem dX5_halve_93 : decode cX5_halve 93 = .ok (.iconst 1, 1) := by decide +kernel
theorem dX5_halve_94 : decode cX5_halve 94 = .ok (.iadd, 1) := by decide +kernel
theorem dX5_halve_95 : decode cX5_halve 95 = .ok (.istore_n 2, 1) := by decide +kernel
theorem dX5_halve_96 : decode cX5_halve 96 = .ok (.iinc 4 1, 3) := by decide +kernel
theorem dX5_halve_99 : decode cX5_halve 99 = .ok (.goto (-77), 3) := by decide +kernel
theorem dX5_halve_102 : decode cX5_halve 102 = .ok (.iconst (-1), 1) := by decide +kernel
theorem dX5_halve_103 : decode cX5_halve 103 = .ok (.ireturn, 1) := by decide +kernel
theorem dX5_placeBehindMiss_0 : decode cX5_placeBehindMiss 0 = .ok (.aload_n 0, 1) := by decide +kernel
theorem dX5_placeBehindMiss_1 : decode cX5_placeBehindMiss 1 = .ok (.getfield 20, 3) := by decide +kernel
theorem dX5_placeBehindMiss_4 : decode cX5_placeBehindMiss 4 = .ok (.aload_n 0, 1) := by decide +kernel
theorem dX5_placeBehindMiss_5 : decode cX5_placeBehindMiss 5 = .ok (.getfield 20, 3) := by decide +kernel
theorem dX5_placeBehindMiss_8 : decode cX5_placeBehindMiss 8 = .ok (.invokevirtual 36, 3) := by decide +kernel
theorem dX5_placeBehindMiss_11 : decode cX5_placeBehindMiss 11 = .ok (.iconst 1, 1) := by decide +kernel
theorem dX5_placeBehindMiss_12 : decode cX5_placeBehindMiss 12 = .ok (.isub, 1) := by decide +kernel
theorem dX5_placeBehindMiss_13 : decode cX5_placeBehindMiss 13 = .ok (.invokevirtual 29, 3) := by decide +kernel
theorem dX5_placeBehindMiss_16 : decode cX5_placeBehindMiss 16 = .ok (.istore_n 2, 1) := by decide +kernel
theorem dX5_placeBehindMiss_17 : decode cX5_placeBehindMiss 17 = .ok (.iload_n 2, 1) := by decide +kernel
theorem dX5_placeBehindMiss_18 : decode cX5_placeBehindMiss 18 = .ok (.iconst (-1), 1) := by decide +kernel
theorem dX5_placeBehindMiss_19 : decode cX5_placeBehindMiss 19 = .ok (.if_icmp .ne 5, 3) := by decide +kernel
theorem dX5_placeBehindMiss_22 : decode cX5_placeBehindMiss 22 = .ok (.iconst 0, 1) := by decide +kernel
theorem dX5_placeBehindMiss_23 : decode cX5_placeBehindMiss 23 = .ok (.ireturn, 1) := by decide +kernel
theorem dX5_placeBehindMiss_24 : decode cX5_placeBehindMiss 24 = .ok (.aload_n 0, 1) := by decide +kernel
theorem dX5_placeBehindMiss_25 : decode cX5_placeBehindMiss 25 = .ok (.getfield 26, 3) := by decide +kernel
theorem dX5_placeBehindMiss_28 : decode cX5_placeBehindMiss 28 = .ok (.aload_n 0, 1) := by decide +kernel
theorem dX5_placeBehindMiss_29 : decode cX5_placeBehindMiss 29 = .ok (.getfield 14, 3) := by decide +kernel
theorem dX5_placeBehindMiss_32 : decode cX5_placeBehindMiss 32 = .ok (.iload_n 2, 1) := by decide +kernel
theorem dX5_placeBehindMiss_33 : decode cX5_placeBehindMiss 33 = .ok (.invokevirtual 29, 3) := by decide +kernel
theorem dX5_placeBehindMiss_36 : decode cX5_placeBehindMiss 36 = .ok (.invokevirtual 29, 3) := by decide +kernel
theorem dX5_placeBehindMiss_39 : decode cX5_placeBehindMiss 39 = .ok (.iload_n 1, 1) := by decide +kernel
theorem dX5_placeBehindMiss_40 : decode cX5_placeBehindMiss 40 = .ok (.if_icmp .le 7, 3) := by decide +kernel
theorem dX5_placeBehindMiss_43 : decode cX5_placeBehindMiss 43 = .ok (.iload_n 2, 1) := by decide +kernel
theorem dX5_placeBehindMiss_44 : decode cX5_placeBehindMiss 44 = .ok (.goto 6, 3) := by decide +kernel
theorem dX5_placeBehindMiss_47 : decode cX5_placeBehindMiss 47 = .ok (.iload_n 2, 1) := by decide +kernel
theorem dX5_placeBehindMiss_48 : decode cX5_placeBehindMiss 48 = .ok (.iconst 1, 1) := by decide +kernel
theorem dX5_placeBehindMiss_49 : decode cX5_placeBehindMiss 49 = .ok (.iadd, 1) := by decide +kernel
theorem dX5_placeBehindMiss_50 : decode cX5_placeBehindMiss 50 = .ok (.ireturn, 1) := by decide +kernel
theorem dX5_missedByHalving_0 : decode cX5_missedByHalving 0 = .ok (.iconst 0, 1) := by decide +kernel
theorem dX5_missedByHalving_1 : decode cX5_missedByHalving 1 = .ok (.istore_n 1, 1) := by decide +kernel
theorem dX5_missedByHalving_2 : decode cX5_missedByHalving 2 = .ok (.iconst 0, 1) := by decide +kernel
theorem dX5_missedByHalving_3 : decode cX5_missedByHalving 3 = .ok (.istore_n 2, 1) := by decide +kernel
theorem dX5_missedByHalving_4 : decode cX5_missedByHalving 4 = .ok (.iload_n 2, 1) := by decide +kernel
theorem dX5_missedByHalving_5 : decode cX5_missedByHalving 5 = .ok (.aload_n 0, 1) := by decide +kernel
theorem dX5_missedByHalving_6 : decode cX5_missedByHalving 6 = .ok (.getfield 14, 3) := by decide +kernel
theorem dX5_missedByHalving_9 : decode cX5_missedByHalving 9 = .ok (.invokevirtual 36, 3) := by decide +kernel
theorem dX5_missedByHalving_12 : decode cX5_missedByHalving 12 = .ok (.if_icmp .ge 25, 3) := by decide +kernel
theorem dX5_missedByHalving_15 : decode cX5_missedByHalving 15 = .ok (.aload_n 0, 1) := by decide +kernel
theorem dX5_missedByHalving_16 : decode cX5_missedByHalving 16 = .ok (.aload_n 0, 1) := by decide +kernel
theorem dX5_missedByHalving_17 : decode cX5_missedByHalving 17 = .ok (.iload_n 2, 1) := by decide +kernel
theorem dX5_missedByHalving_18 : decode cX5_missedByHalving 18 = .ok (.invokevirtual 43, 3) := by decide +kernel
theorem dX5_missedByHalving_21 : decode cX5_missedByHalving 21 = .ok (.invokevirtual 46, 3) := by decide +kernel
theorem dX5_missedByHalving_24 : decode cX5_missedByHalving 24 = .ok (.iconst (-1), 1) := by decide +kernel
theorem dX5_missedByHalving_25 : decode cX5_missedByHalving 25 = .ok (.if_icmp .ne 6, 3) := by decide +kernel
theorem dX5_missedByHalving_28 : decode cX5_missedByHalving 28 = .ok (.iinc 1 1, 3) := by decide +kernel
theorem dX5_missedByHalving_31 : decode cX5_missedByHalving 31 = .ok (.iinc 2 1, 3) := by decide +kernel
theorem dX5_missedByHalving_34 : decode cX5_missedByHalving 34 = .ok (.goto (-30), 3) := by decide +kernel
theorem dX5_missedByHalving_37 : decode cX5_missedByHalving 37 = .ok (.iload_n 1, 1) := by decide +kernel
theorem dX5_missedByHalving_38 : decode cX5_missedByHalving 38 = .ok (.ireturn, 1) := by decide +kernel
theorem dX5_isWrong_0 : decode cX5_isWrong 0 = .ok (.iload_n 1, 1) := by decide +kernel
theorem dX5_isWrong_1 : decode cX5_isWrong 1 = .ok (.ifCond .le 42, 3) := by decide +kernel
theorem dX5_isWrong_4 : decode cX5_isWrong 4 = .ok (.aload_n 0, 1) := by decide +kernel
theorem dX5_isWrong_5 : decode cX5_isWrong 5 = .ok (.getfield 26, 3) := by decide +kernel
theorem dX5_isWrong_8 : decode cX5_isWrong 8 = .ok (.aload_n 0, 1) := by decide +kernel
theorem dX5_isWrong_9 : decode cX5_isWrong 9 = .ok (.getfield 14, 3) := by decide +kernel
theorem dX5_isWrong_12 : decode cX5_isWrong 12 = .ok (.iload_n 1, 1) := by decide +kernel
theorem dX5_isWrong_13 : decode cX5_isWrong 13 = .ok (.invokevirtual 29, 3) := by decide +kernel
theorem dX5_isWrong_16 : decode cX5_isWrong 16 = .ok (.invokevirtual 29, 3) := by decide +kernel
theorem dX5_isWrong_19 : decode cX5_isWrong 19 = .ok (.aload_n 0, 1) := by decide +kernel
theorem dX5_isWrong_20 : decode cX5_isWrong 20 = .ok (.getfield 26, 3) := by decide +kernel
theorem dX5_isWrong_23 : decode cX5_isWrong 23 = .ok (.aload_n 0, 1) := by decide +kernel
theorem dX5_isWrong_24 : decode cX5_isWrong 24 = .ok (.getfield 14, 3) := by decide +kernel
theorem dX5_isWrong_27 : decode cX5_isWrong 27 = .ok (.iload_n 1, 1) := by decide +kernel
theorem dX5_isWrong_28 : decode cX5_isWrong 28 = .ok (.iconst 1, 1) := by decide +kernel
theorem dX5_isWrong_29 : decode cX5_isWrong 29 = .ok (.isub, 1) := by decide +kernel
theorem dX5_isWrong_30 : decode cX5_isWrong 30 = .ok (.invokevirtual 29, 3) := by decide +kernel
theorem dX5_isWrong_33 : decode cX5_isWrong 33 = .ok (.invokevirtual 29, 3) := by decide +kernel
theorem dX5_isWrong_36 : decode cX5_isWrong 36 = .ok (.if_icmp .ge 7, 3) := by decide +kernel
theorem dX5_isWrong_39 : decode cX5_isWrong 39 = .ok (.iconst 1, 1) := by decide +kernel
theorem dX5_isWrong_40 : decode cX5_isWrong 40 = .ok (.goto 4, 3) := by decide +kernel
theorem dX5_isWrong_43 : decode cX5_isWrong 43 = .ok (.iconst 0, 1) := by decide +kernel
theorem dX5_isWrong_44 : decode cX5_isWrong 44 = .ok (.ireturn, 1) := by decide +kernel
theorem dX5_wrongPairs_0 : decode cX5_wrongPairs 0 = .ok (.iconst 0, 1) := by decide +kernel
theorem dX5_wrongPairs_1 : decode cX5_wrongPairs 1 = .ok (.istore_n 1, 1) := by decide +kernel
theorem dX5_wrongPairs_2 : decode cX5_wrongPairs 2 = .ok (.iconst 1, 1) := by decide +kernel
theorem dX5_wrongPairs_3 : decode cX5_wrongPairs 3 = .ok (.istore_n 2, 1) := by decide +kernel
theorem dX5_wrongPairs_4 : decode cX5_wrongPairs 4 = .ok (.iload_n 2, 1) := by decide +kernel
theorem dX5_wrongPairs_5 : decode cX5_wrongPairs 5 = .ok (.aload_n 0, 1) := by decide +kernel
theorem dX5_wrongPairs_6 : decode cX5_wrongPairs 6 = .ok (.getfield 14, 3) := by decide +kernel
theorem dX5_wrongPairs_9 : decode cX5_wrongPairs 9 = .ok (.invokevirtual 36, 3) := by decide +kernel
theorem dX5_wrongPairs_12 : decode cX5_wrongPairs 12 = .ok (.if_icmp .ge 20, 3) := by decide +kernel
theorem dX5_wrongPairs_15 : decode cX5_wrongPairs 15 = .ok (.aload_n 0, 1) := by decide +kernel
theorem dX5_wrongPairs_16 : decode cX5_wrongPairs 16 = .ok (.iload_n 2, 1) := by decide +kernel
theorem dX5_wrongPairs_17 : decode cX5_wrongPairs 17 = .ok (.invokevirtual 49, 3) := by decide +kernel
theorem dX5_wrongPairs_20 : decode cX5_wrongPairs 20 = .ok (.ifCond .eq 6, 3) := by decide +kernel
theorem dX5_wrongPairs_23 : decode cX5_wrongPairs 23 = .ok (.iinc 1 1, 3) := by decide +kernel
theorem dX5_wrongPairs_26 : decode cX5_wrongPairs 26 = .ok (.iinc 2 1, 3) := by decide +kernel
theorem dX5_wrongPairs_29 : decode cX5_wrongPairs 29 = .ok (.goto (-25), 3) := by decide +kernel
theorem dX5_wrongPairs_32 : decode cX5_wrongPairs 32 = .ok (.iload_n 1, 1) := by decide +kernel
theorem dX5_wrongPairs_33 : decode cX5_wrongPairs 33 = .ok (.ireturn, 1) := by decide +kernel
theorem dX5_pairsInWrongOrder_0 : decode cX5_pairsInWrongOrder 0 = .ok (.iconst 0, 1) := by decide +kernel
theorem dX5_pairsInWrongOrder_1 : decode cX5_pairsInWrongOrder 1 = .ok (.istore_n 1, 1) := by decide +kernel
theorem dX5_pairsInWrongOrder_2 : decode cX5_pairsInWrongOrder 2 = .ok (.iconst 1, 1) := by decide +kernel
theorem dX5_pairsInWrongOrder_3 : decode cX5_pairsInWrongOrder 3 = .ok (.istore_n 2, 1) := by decide +kernel
theorem dX5_pairsInWrongOrder_4 : decode cX5_pairsInWrongOrder 4 = .ok (.iload_n 2, 1) := by decide +kernel
theorem dX5_pairsInWrongOrder_5 : decode cX5_pairsInWrongOrder 5 = .ok (.aload_n 0, 1) := by decide +kernel
theorem dX5_pairsInWrongOrder_6 : decode cX5_pairsInWrongOrder 6 = .ok (.getfield 14, 3) := by decide +kernel
theorem dX5_pairsInWrongOrder_9 : decode cX5_pairsInWrongOrder 9 = .ok (.invokevirtual 36, 3) := by decide +kernel
theorem dX5_pairsInWrongOrder_12 : decode cX5_pairsInWrongOrder 12 = .ok (.if_icmp .ge 43, 3) := by decide +kernel
theorem dX5_pairsInWrongOrder_15 : decode cX5_pairsInWrongOrder 15 = .ok (.aload_n 0, 1) := by decide +kernel
theorem dX5_pairsInWrongOrder_16 : decode cX5_pairsInWrongOrder 16 = .ok (.iload_n 2, 1) := by decide +kernel
theorem dX5_pairsInWrongOrder_17 : decode cX5_pairsInWrongOrder 17 = .ok (.invokevirtual 43, 3) := by decide +kernel
theorem dX5_pairsInWrongOrder_20 : decode cX5_pairsInWrongOrder 20 = .ok (.istore_n 3, 1) := by decide +kernel
theorem dX5_pairsInWrongOrder_21 : decode cX5_pairsInWrongOrder 21 = .ok (.iconst 0, 1) := by decide +kernel
theorem dX5_pairsInWrongOrder_22 : decode cX5_pairsInWrongOrder 22 = .ok (.istore 4, 2) := by decide +kernel
theorem dX5_pairsInWrongOrder_24 : decode cX5_pairsInWrongOrder 24 = .ok (.iload 4, 2) := by decide +kernel
theorem dX5_pairsInWrongOrder_26 : decode cX5_pairsInWrongOrder 26 = .ok (.iload_n 2, 1) := by decide +kernel
theorem dX5_pairsInWrongOrder_27 : decode cX5_pairsInWrongOrder 27 = .ok (.if_icmp .ge 22, 3) := by decide +kernel
theorem dX5_pairsInWrongOrder_30 : decode cX5_pairsInWrongOrder 30 = .ok (.iload_n 3, 1) := by decide +kernel
theorem dX5_pairsInWrongOrder_31 : decode cX5_pairsInWrongOrder 31 = .ok (.aload_n 0, 1) := by decide +kernel
theorem dX5_pairsInWrongOrder_32 : decode cX5_pairsInWrongOrder 32 = .ok (.iload 4, 2) := by decide +kernel
theorem dX5_pairsInWrongOrder_34 : decode cX5_pairsInWrongOrder 34 = .ok (.invokevirtual 43, 3) := by decide +kernel
theorem dX5_pairsInWrongOrder_37 : decode cX5_pairsInWrongOrder 37 = .ok (.if_icmp .ge 6, 3) := by decide +kernel
theorem dX5_pairsInWrongOrder_40 : decode cX5_pairsInWrongOrder 40 = .ok (.iinc 1 1, 3) := by decide +kernel
theorem dX5_pairsInWrongOrder_43 : decode cX5_pairsInWrongOrder 43 = .ok (.iinc 4 1, 3) := by decide +kernel
theorem dX5_pairsInWrongOrder_46 : decode cX5_pairsInWrongOrder 46 = .ok (.goto (-22), 3) := by decide +kernel
theorem dX5_pairsInWrongOrder_49 : decode cX5_pairsInWrongOrder 49 = .ok (.iinc 2 1, 3) := by decide +kernel
theorem dX5_pairsInWrongOrder_52 : decode cX5_pairsInWrongOrder 52 = .ok (.goto (-48), 3) := by decide +kernel
theorem dX5_pairsInWrongOrder_55 : decode cX5_pairsInWrongOrder 55 = .ok (.iload_n 1, 1) := by decide +kernel
theorem dX5_pairsInWrongOrder_56 : decode cX5_pairsInWrongOrder 56 = .ok (.ireturn, 1) := by decide +kernel
theorem dX5_longestRun_0 : decode cX5_longestRun 0 = .ok (.iconst 0, 1) := by decide +kernel
theorem dX5_longestRun_1 : decode cX5_longestRun 1 = .ok (.istore_n 1, 1) := by decide +kernel
theorem dX5_longestRun_2 : decode cX5_longestRun 2 = .ok (.aload_n 0, 1) := by decide +kernel
theorem dX5_longestRun_3 : decode cX5_longestRun 3 = .ok (.getfield 23, 3) := by decide +kernel
theorem dX5_longestRun_6 : decode cX5_longestRun 6 = .ok (.invokevirtual 33, 3) := by decide +kernel
theorem dX5_longestRun_9 : decode cX5_longestRun 9 = .ok (.iconst 0, 1) := by decide +kernel
theorem dX5_longestRun_10 : decode cX5_longestRun 10 = .ok (.istore_n 2, 1) := by decide +kernel
theorem dX5_longestRun_11 : decode cX5_longestRun 11 = .ok (.iload_n 2, 1) := by decide +kernel
theorem dX5_longestRun_12 : decode cX5_longestRun 12 = .ok (.aload_n 0, 1) := by decide +kernel
theorem dX5_longestRun_13 : decode cX5_longestRun 13 = .ok (.getfield 14, 3) := by decide +kernel
theorem dX5_longestRun_16 : decode cX5_longestRun 16 = .ok (.invokevirtual 36, 3) := by decide +kernel
theorem dX5_longestRun_19 : decode cX5_longestRun 19 = .ok (.if_icmp .ge 72, 3) := by decide +kernel
theorem dX5_longestRun_22 : decode cX5_longestRun 22 = .ok (.iconst 0, 1) := by decide +kernel
theorem dX5_longestRun_23 : decode cX5_longestRun 23 = .ok (.istore_n 3, 1) := by decide +kernel
theorem dX5_longestRun_24 : decode cX5_longestRun 24 = .ok (.iconst 0, 1) := by decide +kernel
theorem dX5_longestRun_25 : decode cX5_longestRun 25 = .ok (.istore 4, 2) := by decide +kernel
theorem dX5_longestRun_27 : decode cX5_longestRun 27 = .ok (.iload 4, 2) := by decide +kernel
theorem dX5_longestRun_29 : decode cX5_longestRun 29 = .ok (.iload_n 2, 1) := by decide +kernel
theorem dX5_longestRun_30 : decode cX5_longestRun 30 = .ok (.if_icmp .ge 37, 3) := by decide +kernel
theorem dX5_longestRun_33 : decode cX5_longestRun 33 = .ok (.aload_n 0, 1) := by decide +kernel
theorem dX5_longestRun_34 : decode cX5_longestRun 34 = .ok (.iload 4, 2) := by decide +kernel
theorem dX5_longestRun_36 : decode cX5_longestRun 36 = .ok (.invokevirtual 43, 3) := by decide +kernel
theorem dX5_longestRun_39 : decode cX5_longestRun 39 = .ok (.aload_n 0, 1) := by decide +kernel
theorem dX5_longestRun_40 : decode cX5_longestRun 40 = .ok (.iload_n 2, 1) := by decide +kernel
theorem dX5_longestRun_41 : decode cX5_longestRun 41 = .ok (.invokevirtual 43, 3) := by decide +kernel
theorem dX5_longestRun_44 : decode cX5_longestRun 44 = .ok (.if_icmp .ge 17, 3) := by decide +kernel
theorem dX5_longestRun_47 : decode cX5_longestRun 47 = .ok (.iload_n 3, 1) := by decide +kernel
theorem dX5_longestRun_48 : decode cX5_longestRun 48 = .ok (.aload_n 0, 1) := by decide +kernel
theorem dX5_longestRun_49 : decode cX5_longestRun 49 = .ok (.getfield 23, 3) := by decide +kernel
theorem dX5_longestRun_52 : decode cX5_longestRun 52 = .ok (.iload 4, 2) := by decide +kernel
theorem dX5_longestRun_54 : decode cX5_longestRun 54 = .ok (.invokevirtual 29, 3) := by decide +kernel
theorem dX5_longestRun_57 : decode cX5_longestRun 57 = .ok (.invokestatic 53, 3) := by decide +kernel
theorem dX5_longestRun_60 : decode cX5_longestRun 60 = .ok (.istore_n 3, 1) := by decide +kernel
theorem dX5_longestRun_61 : decode cX5_longestRun 61 = .ok (.iinc 4 1, 3) := by decide +kernel
theorem dX5_longestRun_64 : decode cX5_longestRun 64 = .ok (.goto (-37), 3) := by decide +kernel
theorem dX5_longestRun_67 : decode cX5_longestRun 67 = .ok (.aload_n 0, 1) := by decide +kernel
theorem dX5_longestRun_68 : decode cX5_longestRun 68 = .ok (.getfield 23, 3) := by decide +kernel
theorem dX5_longestRun_71 : decode cX5_longestRun 71 = .ok (.iload_n 3, 1) := by decide +kernel
theorem dX5_longestRun_72 : decode cX5_longestRun 72 = .ok (.iconst 1, 1) := by decide +kernel
theorem dX5_longestRun_73 : decode cX5_longestRun 73 = .ok (.iadd, 1) := by decide +kernel
theorem dX5_longestRun_74 : decode cX5_longestRun 74 = .ok (.invokevirtual 40, 3) := by decide +kernel
theorem dX5_longestRun_77 : decode cX5_longestRun 77 = .ok (.iload_n 1, 1) := by decide +kernel
theorem dX5_longestRun_78 : decode cX5_longestRun 78 = .ok (.iload_n 3, 1) := by decide +kernel
theorem dX5_longestRun_79 : decode cX5_longestRun 79 = .ok (.iconst 1, 1) := by decide +kernel
theorem dX5_longestRun_80 : decode cX5_longestRun 80 = .ok (.iadd, 1) := by decide +kernel
theorem dX5_longestRun_81 : decode cX5_longestRun 81 = .ok (.invokestatic 53, 3) := by decide +kernel
theorem dX5_longestRun_84 : decode cX5_longestRun 84 = .ok (.istore_n 1, 1) := by decide +kernel
theorem dX5_longestRun_85 : decode cX5_longestRun 85 = .ok (.iinc 2 1, 3) := by decide +kernel
theorem dX5_longestRun_88 : decode cX5_longestRun 88 = .ok (.goto (-77), 3) := by decide +kernel
theorem dX5_longestRun_91 : decode cX5_longestRun 91 = .ok (.iload_n 1, 1) := by decide +kernel
theorem dX5_longestRun_92 : decode cX5_longestRun 92 = .ok (.ireturn, 1) := by decide +kernel
theorem dX5_placeInOrder_0 : decode cX5_placeInOrder 0 = .ok (.iconst 0, 1) := by decide +kernel
theorem dX5_placeInOrder_1 : decode cX5_placeInOrder 1 = .ok (.istore_n 2, 1) := by decide +kernel
theorem dX5_placeInOrder_2 : decode cX5_placeInOrder 2 = .ok (.iconst 0, 1) := by decide +kernel
theorem dX5_placeInOrder_3 : decode cX5_placeInOrder 3 = .ok (.istore_n 3, 1) := by decide +kernel
theorem dX5_placeInOrder_4 : decode cX5_placeInOrder 4 = .ok (.iload_n 3, 1) := by decide +kernel
theorem dX5_placeInOrder_5 : decode cX5_placeInOrder 5 = .ok (.aload_n 0, 1) := by decide +kernel
theorem dX5_placeInOrder_6 : decode cX5_placeInOrder 6 = .ok (.getfield 14, 3) := by decide +kernel
theorem dX5_placeInOrder_9 : decode cX5_placeInOrder 9 = .ok (.invokevirtual 36, 3) := by decide +kernel
theorem dX5_placeInOrder_12 : decode cX5_placeInOrder 12 = .ok (.if_icmp .ge 21, 3) := by decide +kernel
theorem dX5_placeInOrder_15 : decode cX5_placeInOrder 15 = .ok (.aload_n 0, 1) := by decide +kernel
theorem dX5_placeInOrder_16 : decode cX5_placeInOrder 16 = .ok (.iload_n 3, 1) := by decide +kernel
theorem dX5_placeInOrder_17 : decode cX5_placeInOrder 17 = .ok (.invokevirtual 43, 3) := by decide +kernel
theorem dX5_placeInOrder_20 : decode cX5_placeInOrder 20 = .ok (.iload_n 1, 1) := by decide +kernel
theorem dX5_placeInOrder_21 : decode cX5_placeInOrder 21 = .ok (.if_icmp .ge 6, 3) := by decide +kernel
theorem dX5_placeInOrder_24 : decode cX5_placeInOrder 24 = .ok (.iinc 2 1, 3) := by decide +kernel
theorem dX5_placeInOrder_27 : decode cX5_placeInOrder 27 = .ok (.iinc 3 1, 3) := by decide +kernel
theorem dX5_placeInOrder_30 : decode cX5_placeInOrder 30 = .ok (.goto (-26), 3) := by decide +kernel
theorem dX5_placeInOrder_33 : decode cX5_placeInOrder 33 = .ok (.iload_n 2, 1) := by decide +kernel
theorem dX5_placeInOrder_34 : decode cX5_placeInOrder 34 = .ok (.ireturn, 1) := by decide +kernel
theorem dX5_farthestFromOrder_0 : decode cX5_farthestFromOrder 0 = .ok (.iconst 0, 1) := by decide +kernel
theorem dX5_farthestFromOrder_1 : decode cX5_farthestFromOrder 1 = .ok (.istore_n 1, 1) := by decide +kernel
theorem dX5_farthestFromOrder_2 : decode cX5_farthestFromOrder 2 = .ok (.iconst (-1), 1) := by decide +kernel
theorem dX5_farthestFromOrder_3 : decode cX5_farthestFromOrder 3 = .ok (.istore_n 2, 1) := by decide +kernel
theorem dX5_farthestFromOrder_4 : decode cX5_farthestFromOrder 4 = .ok (.iconst 0, 1) := by decide +kernel
theorem dX5_farthestFromOrder_5 : decode cX5_farthestFromOrder 5 = .ok (.istore_n 3, 1) := by decide +kernel
theorem dX5_farthestFromOrder_6 : decode cX5_farthestFromOrder 6 = .ok (.iload_n 3, 1) := by decide +kernel
theorem dX5_farthestFromOrder_7 : decode cX5_farthestFromOrder 7 = .ok (.aload_n 0, 1) := by decide +kernel
theorem dX5_farthestFromOrder_8 : decode cX5_farthestFromOrder 8 = .ok (.getfield 14, 3) := by decide +kernel
theorem dX5_farthestFromOrder_11 : decode cX5_farthestFromOrder 11 = .ok (.invokevirtual 36, 3) := by decide +kernel
theorem dX5_farthestFromOrder_14 : decode cX5_farthestFromOrder 14 = .ok (.if_icmp .ge 64, 3) := by decide +kernel
theorem dX5_farthestFromOrder_17 : decode cX5_farthestFromOrder 17 = .ok (.aload_n 0, 1) := by decide +kernel
theorem dX5_farthestFromOrder_18 : decode cX5_farthestFromOrder 18 = .ok (.getfield 14, 3) := by decide +kernel
theorem dX5_farthestFromOrder_21 : decode cX5_farthestFromOrder 21 = .ok (.iload_n 3, 1) := by decide +kernel
theorem dX5_farthestFromOrder_22 : decode cX5_farthestFromOrder 22 = .ok (.invokevirtual 29, 3) := by decide +kernel
theorem dX5_farthestFromOrder_25 : decode cX5_farthestFromOrder 25 = .ok (.istore 4, 2) := by decide +kernel
theorem dX5_farthestFromOrder_27 : decode cX5_farthestFromOrder 27 = .ok (.iload_n 3, 1) := by decide +kernel
theorem dX5_farthestFromOrder_28 : decode cX5_farthestFromOrder 28 = .ok (.aload_n 0, 1) := by decide +kernel
theorem dX5_farthestFromOrder_29 : decode cX5_farthestFromOrder 29 = .ok (.aload_n 0, 1) := by decide +kernel
theorem dX5_farthestFromOrder_30 : decode cX5_farthestFromOrder 30 = .ok (.iload_n 3, 1) := by decide +kernel
theorem dX5_farthestFromOrder_31 : decode cX5_farthestFromOrder 31 = .ok (.invokevirtual 43, 3) := by decide +kernel
theorem dX5_farthestFromOrder_34 : decode cX5_farthestFromOrder 34 = .ok (.invokevirtual 59, 3) := by decide +kernel
theorem dX5_farthestFromOrder_37 : decode cX5_farthestFromOrder 37 = .ok (.isub, 1) := by decide +kernel
theorem dX5_farthestFromOrder_38 : decode cX5_farthestFromOrder 38 = .ok (.invokestatic 62, 3) := by decide +kernel
theorem dX5_farthestFromOrder_41 : decode cX5_farthestFromOrder 41 = .ok (.istore 5, 2) := by decide +kernel
theorem dX5_farthestFromOrder_43 : decode cX5_farthestFromOrder 43 = .ok (.iload 5, 2) := by decide +kernel
theorem dX5_farthestFromOrder_45 : decode cX5_farthestFromOrder 45 = .ok (.iload_n 1, 1) := by decide +kernel
theorem dX5_farthestFromOrder_46 : decode cX5_farthestFromOrder 46 = .ok (.if_icmp .gt 20, 3) := by decide +kernel
theorem dX5_farthestFromOrder_49 : decode cX5_farthestFromOrder 49 = .ok (.iload 5, 2) := by decide +kernel
theorem dX5_farthestFromOrder_51 : decode cX5_farthestFromOrder 51 = .ok (.ifCond .le 21, 3) := by decide +kernel
theorem dX5_farthestFromOrder_54 : decode cX5_farthestFromOrder 54 = .ok (.iload 5, 2) := by decide +kernel
theorem dX5_farthestFromOrder_56 : decode cX5_farthestFromOrder 56 = .ok (.iload_n 1, 1) := by decide +kernel
theorem dX5_farthestFromOrder_57 : decode cX5_farthestFromOrder 57 = .ok (.if_icmp .ne 15, 3) := by decide +kernel
theorem dX5_farthestFromOrder_60 : decode cX5_farthestFromOrder 60 = .ok (.iload 4, 2) := by decide +kernel
theorem dX5_farthestFromOrder_62 : decode cX5_farthestFromOrder 62 = .ok (.iload_n 2, 1) := by decide +kernel
theorem dX5_farthestFromOrder_63 : decode cX5_farthestFromOrder 63 = .ok (.if_icmp .ge 9, 3) := by decide +kernel
theorem dX5_farthestFromOrder_66 : decode cX5_farthestFromOrder 66 = .ok (.iload 5, 2) := by decide +kernel
theorem dX5_farthestFromOrder_68 : decode cX5_farthestFromOrder 68 = .ok (.istore_n 1, 1) := by decide +kernel
theorem dX5_farthestFromOrder_69 : decode cX5_farthestFromOrder 69 = .ok (.iload 4, 2) := by decide +kernel
theorem dX5_farthestFromOrder_71 : decode cX5_farthestFromOrder 71 = .ok (.istore_n 2, 1) := by decide +kernel
theorem dX5_farthestFromOrder_72 : decode cX5_farthestFromOrder 72 = .ok (.iinc 3 1, 3) := by decide +kernel
theorem dX5_farthestFromOrder_75 : decode cX5_farthestFromOrder 75 = .ok (.goto (-69), 3) := by decide +kernel
theorem dX5_farthestFromOrder_78 : decode cX5_farthestFromOrder 78 = .ok (.iload_n 2, 1) := by decide +kernel
theorem dX5_farthestFromOrder_79 : decode cX5_farthestFromOrder 79 = .ok (.ireturn, 1) := by decide +kernel
theorem dX5_moveTo_0 : decode cX5_moveTo 0 = .ok (.aload_n 0, 1) := by decide +kernel
theorem dX5_moveTo_1 : decode cX5_moveTo 1 = .ok (.getfield 14, 3) := by decide +kernel
theorem dX5_moveTo_4 : decode cX5_moveTo 4 = .ok (.iload_n 1, 1) := by decide +kernel
theorem dX5_moveTo_5 : decode cX5_moveTo 5 = .ok (.invokevirtual 65, 3) := by decide +kernel
theorem dX5_moveTo_8 : decode cX5_moveTo 8 = .ok (.istore_n 3, 1) := by decide +kernel
theorem dX5_moveTo_9 : decode cX5_moveTo 9 = .ok (.iload_n 3, 1) := by decide +kernel
theorem dX5_moveTo_10 : decode cX5_moveTo 10 = .ok (.iconst (-1), 1) := by decide +kernel
theorem dX5_moveTo_11 : decode cX5_moveTo 11 = .ok (.if_icmp .ne 6, 3) := by decide +kernel
theorem dX5_moveTo_14 : decode cX5_moveTo 14 = .ok (.bipush (-2), 2) := by decide +kernel
theorem dX5_moveTo_16 : decode cX5_moveTo 16 = .ok (.ireturn, 1) := by decide +kernel
theorem dX5_moveTo_17 : decode cX5_moveTo 17 = .ok (.iload_n 2, 1) := by decide +kernel
theorem dX5_moveTo_18 : decode cX5_moveTo 18 = .ok (.ifCond .lt 14, 3) := by decide +kernel
theorem dX5_moveTo_21 : decode cX5_moveTo 21 = .ok (.iload_n 2, 1) := by decide +kernel
theorem dX5_moveTo_22 : decode cX5_moveTo 22 = .ok (.aload_n 0, 1) := by decide +kernel
theorem dX5_moveTo_23 : decode cX5_moveTo 23 = .ok (.getfield 14, 3) := by decide +kernel
theorem dX5_moveTo_26 : decode cX5_moveTo 26 = .ok (.invokevirtual 36, 3) := by decide +kernel
theorem dX5_moveTo_29 : decode cX5_moveTo 29 = .ok (.if_icmp .lt 6, 3) := by decide +kernel
theorem dX5_moveTo_32 : decode cX5_moveTo 32 = .ok (.bipush (-3), 2) := by decide +kernel
theorem dX5_moveTo_34 : decode cX5_moveTo 34 = .ok (.ireturn, 1) := by decide +kernel
theorem dX5_moveTo_35 : decode cX5_moveTo 35 = .ok (.aload_n 0, 1) := by decide +kernel
theorem dX5_moveTo_36 : decode cX5_moveTo 36 = .ok (.getfield 14, 3) := by decide +kernel
theorem dX5_moveTo_39 : decode cX5_moveTo 39 = .ok (.iload_n 3, 1) := by decide +kernel
theorem dX5_moveTo_40 : decode cX5_moveTo 40 = .ok (.invokevirtual 68, 3) := by decide +kernel
theorem dX5_moveTo_43 : decode cX5_moveTo 43 = .ok (.aload_n 0, 1) := by decide +kernel
theorem dX5_moveTo_44 : decode cX5_moveTo 44 = .ok (.getfield 14, 3) := by decide +kernel
theorem dX5_moveTo_47 : decode cX5_moveTo 47 = .ok (.iload_n 2, 1) := by decide +kernel
theorem dX5_moveTo_48 : decode cX5_moveTo 48 = .ok (.iload_n 1, 1) := by decide +kernel
theorem dX5_moveTo_49 : decode cX5_moveTo 49 = .ok (.invokevirtual 71, 3) := by decide +kernel
theorem dX5_moveTo_52 : decode cX5_moveTo 52 = .ok (.iload_n 3, 1) := by decide +kernel
theorem dX5_moveTo_53 : decode cX5_moveTo 53 = .ok (.ireturn, 1) := by decide +kernel
theorem dX5_moveToOrder_0 : decode cX5_moveToOrder 0 = .ok (.aload_n 0, 1) := by decide +kernel
theorem dX5_moveToOrder_1 : decode cX5_moveToOrder 1 = .ok (.getfield 14, 3) := by decide +kernel
theorem dX5_moveToOrder_4 : decode cX5_moveToOrder 4 = .ok (.iload_n 1, 1) := by decide +kernel
theorem dX5_moveToOrder_5 : decode cX5_moveToOrder 5 = .ok (.invokevirtual 65, 3) := by decide +kernel
theorem dX5_moveToOrder_8 : decode cX5_moveToOrder 8 = .ok (.istore_n 2, 1) := by decide +kernel
theorem dX5_moveToOrder_9 : decode cX5_moveToOrder 9 = .ok (.iload_n 2, 1) := by decide +kernel
theorem dX5_moveToOrder_10 : decode cX5_moveToOrder 10 = .ok (.iconst (-1), 1) := by decide +kernel
theorem dX5_moveToOrder_11 : decode cX5_moveToOrder 11 = .ok (.if_icmp .ne 6, 3) := by decide +kernel
theorem dX5_moveToOrder_14 : decode cX5_moveToOrder 14 = .ok (.bipush (-2), 2) := by decide +kernel
theorem dX5_moveToOrder_16 : decode cX5_moveToOrder 16 = .ok (.ireturn, 1) := by decide +kernel
theorem dX5_moveToOrder_17 : decode cX5_moveToOrder 17 = .ok (.aload_n 0, 1) := by decide +kernel
theorem dX5_moveToOrder_18 : decode cX5_moveToOrder 18 = .ok (.aload_n 0, 1) := by decide +kernel
theorem dX5_moveToOrder_19 : decode cX5_moveToOrder 19 = .ok (.getfield 26, 3) := by decide +kernel
theorem dX5_moveToOrder_22 : decode cX5_moveToOrder 22 = .ok (.iload_n 1, 1) := by decide +kernel
theorem dX5_moveToOrder_23 : decode cX5_moveToOrder 23 = .ok (.invokevirtual 29, 3) := by decide +kernel
theorem dX5_moveToOrder_26 : decode cX5_moveToOrder 26 = .ok (.invokevirtual 59, 3) := by decide +kernel
theorem dX5_moveToOrder_29 : decode cX5_moveToOrder 29 = .ok (.istore_n 3, 1) := by decide +kernel
theorem dX5_moveToOrder_30 : decode cX5_moveToOrder 30 = .ok (.aload_n 0, 1) := by decide +kernel
theorem dX5_moveToOrder_31 : decode cX5_moveToOrder 31 = .ok (.getfield 14, 3) := by decide +kernel
theorem dX5_moveToOrder_34 : decode cX5_moveToOrder 34 = .ok (.iload_n 2, 1) := by decide +kernel
theorem dX5_moveToOrder_35 : decode cX5_moveToOrder 35 = .ok (.invokevirtual 68, 3) := by decide +kernel
theorem dX5_moveToOrder_38 : decode cX5_moveToOrder 38 = .ok (.aload_n 0, 1) := by decide +kernel
theorem dX5_moveToOrder_39 : decode cX5_moveToOrder 39 = .ok (.getfield 14, 3) := by decide +kernel
theorem dX5_moveToOrder_42 : decode cX5_moveToOrder 42 = .ok (.iload_n 3, 1) := by decide +kernel
theorem dX5_moveToOrder_43 : decode cX5_moveToOrder 43 = .ok (.iload_n 1, 1) := by decide +kernel
theorem dX5_moveToOrder_44 : decode cX5_moveToOrder 44 = .ok (.invokevirtual 71, 3) := by decide +kernel
theorem dX5_moveToOrder_47 : decode cX5_moveToOrder 47 = .ok (.iload_n 3, 1) := by decide +kernel
theorem dX5_moveToOrder_48 : decode cX5_moveToOrder 48 = .ok (.ireturn, 1) := by decide +kernel
theorem dX5_swapWrongPairs_0 : decode cX5_swapWrongPairs 0 = .ok (.iconst 0, 1) := by decide +kernel
theorem dX5_swapWrongPairs_1 : decode cX5_swapWrongPairs 1 = .ok (.istore_n 2, 1) := by decide +kernel
theorem dX5_swapWrongPairs_2 : decode cX5_swapWrongPairs 2 = .ok (.iload_n 2, 1) := by decide +kernel
theorem dX5_swapWrongPairs_3 : decode cX5_swapWrongPairs 3 = .ok (.iload_n 1, 1) := by decide +kernel
theorem dX5_swapWrongPairs_4 : decode cX5_swapWrongPairs 4 = .ok (.if_icmp .ge 61, 3) := by decide +kernel
theorem dX5_swapWrongPairs_7 : decode cX5_swapWrongPairs 7 = .ok (.aload_n 0, 1) := by decide +kernel
theorem dX5_swapWrongPairs_8 : decode cX5_swapWrongPairs 8 = .ok (.invokevirtual 75, 3) := by decide +kernel
theorem dX5_swapWrongPairs_11 : decode cX5_swapWrongPairs 11 = .ok (.istore_n 3, 1) := by decide +kernel
theorem dX5_swapWrongPairs_12 : decode cX5_swapWrongPairs 12 = .ok (.iload_n 3, 1) := by decide +kernel
theorem dX5_swapWrongPairs_13 : decode cX5_swapWrongPairs 13 = .ok (.iconst (-1), 1) := by decide +kernel
theorem dX5_swapWrongPairs_14 : decode cX5_swapWrongPairs 14 = .ok (.if_icmp .ne 5, 3) := by decide +kernel
theorem dX5_swapWrongPairs_17 : decode cX5_swapWrongPairs 17 = .ok (.iload_n 2, 1) := by decide +kernel
theorem dX5_swapWrongPairs_18 : decode cX5_swapWrongPairs 18 = .ok (.ireturn, 1) := by decide +kernel
theorem dX5_swapWrongPairs_19 : decode cX5_swapWrongPairs 19 = .ok (.aload_n 0, 1) := by decide +kernel
theorem dX5_swapWrongPairs_20 : decode cX5_swapWrongPairs 20 = .ok (.getfield 14, 3) := by decide +kernel
theorem dX5_swapWrongPairs_23 : decode cX5_swapWrongPairs 23 = .ok (.iload_n 3, 1) := by decide +kernel
theorem dX5_swapWrongPairs_24 : decode cX5_swapWrongPairs 24 = .ok (.invokevirtual 29, 3) := by decide +kernel
theorem dX5_swapWrongPairs_27 : decode cX5_swapWrongPairs 27 = .ok (.istore 4, 2) := by decide +kernel
theorem dX5_swapWrongPairs_29 : decode cX5_swapWrongPairs 29 = .ok (.aload_n 0, 1) := by decide +kernel
theorem dX5_swapWrongPairs_30 : decode cX5_swapWrongPairs 30 = .ok (.getfield 14, 3) := by decide +kernel
theorem dX5_swapWrongPairs_33 : decode cX5_swapWrongPairs 33 = .ok (.iload_n 3, 1) := by decide +kernel
theorem dX5_swapWrongPairs_34 : decode cX5_swapWrongPairs 34 = .ok (.aload_n 0, 1) := by decide +kernel
theorem dX5_swapWrongPairs_35 : decode cX5_swapWrongPairs 35 = .ok (.getfield 14, 3) := by decide +kernel
theorem dX5_swapWrongPairs_38 : decode cX5_swapWrongPairs 38 = .ok (.iload_n 3, 1) := by decide +kernel
theorem dX5_swapWrongPairs_39 : decode cX5_swapWrongPairs 39 = .ok (.iconst 1, 1) := by decide +kernel
theorem dX5_swapWrongPairs_40 : decode cX5_swapWrongPairs 40 = .ok (.isub, 1) := by decide +kernel
theorem dX5_swapWrongPairs_41 : decode cX5_swapWrongPairs 41 = .ok (.invokevirtual 29, 3) := by decide +kernel
theorem dX5_swapWrongPairs_44 : decode cX5_swapWrongPairs 44 = .ok (.invokevirtual 78, 3) := by decide +kernel
theorem dX5_swapWrongPairs_47 : decode cX5_swapWrongPairs 47 = .ok (.aload_n 0, 1) := by decide +kernel
theorem dX5_swapWrongPairs_48 : decode cX5_swapWrongPairs 48 = .ok (.getfield 14, 3) := by decide +kernel
theorem dX5_swapWrongPairs_51 : decode cX5_swapWrongPairs 51 = .ok (.iload_n 3, 1) := by decide +kernel
theorem dX5_swapWrongPairs_52 : decode cX5_swapWrongPairs 52 = .ok (.iconst 1, 1) := by decide +kernel
theorem dX5_swapWrongPairs_53 : decode cX5_swapWrongPairs 53 = .ok (.isub, 1) := by decide +kernel
theorem dX5_swapWrongPairs_54 : decode cX5_swapWrongPairs 54 = .ok (.iload 4, 2) := by decide +kernel
theorem dX5_swapWrongPairs_56 : decode cX5_swapWrongPairs 56 = .ok (.invokevirtual 78, 3) := by decide +kernel
theorem dX5_swapWrongPairs_59 : decode cX5_swapWrongPairs 59 = .ok (.iinc 2 1, 3) := by decide +kernel
theorem dX5_swapWrongPairs_62 : decode cX5_swapWrongPairs 62 = .ok (.goto (-60), 3) := by decide +kernel
theorem dX5_swapWrongPairs_65 : decode cX5_swapWrongPairs 65 = .ok (.iload_n 1, 1) := by decide +kernel
theorem dX5_swapWrongPairs_66 : decode cX5_swapWrongPairs 66 = .ok (.ireturn, 1) := by decide +kernel
theorem dX5_firstWrong_0 : decode cX5_firstWrong 0 = .ok (.iconst 1, 1) := by decide +kernel
theorem dX5_firstWrong_1 : decode cX5_firstWrong 1 = .ok (.istore_n 1, 1) := by decide +kernel
theorem dX5_firstWrong_2 : decode cX5_firstWrong 2 = .ok (.iload_n 1, 1) := by decide +kernel
theorem dX5_firstWrong_3 : decode cX5_firstWrong 3 = .ok (.aload_n 0, 1) := by decide +kernel
theorem dX5_firstWrong_4 : decode cX5_firstWrong 4 = .ok (.getfield 14, 3) := by decide +kernel
theorem dX5_firstWrong_7 : decode cX5_firstWrong 7 = .ok (.invokevirtual 36, 3) := by decide +kernel
theorem dX5_firstWrong_10 : decode cX5_firstWrong 10 = .ok (.if_icmp .ge 19, 3) := by decide +kernel
theorem dX5_firstWrong_13 : decode cX5_firstWrong 13 = .ok (.aload_n 0, 1) := by decide +kernel
theorem dX5_firstWrong_14 : decode cX5_firstWrong 14 = .ok (.iload_n 1, 1) := by decide +kernel
theorem dX5_firstWrong_15 : decode cX5_firstWrong 15 = .ok (.invokevirtual 49, 3) := by decide +kernel
theorem dX5_firstWrong_18 : decode cX5_firstWrong 18 = .ok (.ifCond .eq 5, 3) := by decide +kernel
theorem dX5_firstWrong_21 : decode cX5_firstWrong 21 = .ok (.iload_n 1, 1) := by decide +kernel
theorem dX5_firstWrong_22 : decode cX5_firstWrong 22 = .ok (.ireturn, 1) := by decide +kernel
theorem dX5_firstWrong_23 : decode cX5_firstWrong 23 = .ok (.iinc 1 1, 3) := by decide +kernel
theorem dX5_firstWrong_26 : decode cX5_firstWrong 26 = .ok (.goto (-24), 3) := by decide +kernel
theorem dX5_firstWrong_29 : decode cX5_firstWrong 29 = .ok (.iconst (-1), 1) := by decide +kernel
theorem dX5_firstWrong_30 : decode cX5_firstWrong 30 = .ok (.ireturn, 1) := by decide +kernel
theorem dX6_init_0 : decode cX6_init 0 = .ok (.aload_n 0, 1) := by decide +kernel
theorem dX6_init_1 : decode cX6_init 1 = .ok (.invokespecial 3, 3) := by decide +kernel
theorem dX6_init_4 : decode cX6_init 4 = .ok (.aload_n 0, 1) := by decide +kernel
theorem dX6_init_5 : decode cX6_init 5 = .ok (.bipush 20, 2) := by decide +kernel
theorem dX6_init_7 : decode cX6_init 7 = .ok (.anewarray 9, 3) := by decide +kernel
theorem dX6_init_10 : decode cX6_init 10 = .ok (.putfield 11, 3) := by decide +kernel
theorem dX6_init_13 : decode cX6_init 13 = .ok (.aload_n 0, 1) := by decide +kernel
theorem dX6_init_14 : decode cX6_init 14 = .ok (.new 17, 3) := by decide +kernel
theorem dX6_init_17 : decode cX6_init 17 = .ok (.dup, 1) := by decide +kernel
theorem dX6_init_18 : decode cX6_init 18 = .ok (.bipush 20, 2) := by decide +kernel
theorem dX6_init_20 : decode cX6_init 20 = .ok (.invokespecial 19, 3) := by decide +kernel
theorem dX6_init_23 : decode cX6_init 23 = .ok (.putfield 22, 3) := by decide +kernel
theorem dX6_init_26 : decode cX6_init 26 = .ok (.aload_n 0, 1) := by decide +kernel
theorem dX6_init_27 : decode cX6_init 27 = .ok (.new 17, 3) := by decide +kernel
theorem dX6_init_30 : decode cX6_init 30 = .ok (.dup, 1) := by decide +kernel
theorem dX6_init_31 : decode cX6_init 31 = .ok (.bipush 20, 2) := by decide +kernel
theorem dX6_init_33 : decode cX6_init 33 = .ok (.invokespecial 19, 3) := by decide +kernel
theorem dX6_init_36 : decode cX6_init 36 = .ok (.putfield 26, 3) := by decide +kernel
theorem dX6_init_39 : decode cX6_init 39 = .ok (.return_, 1) := by decide +kernel
theorem dX7_init_0 : decode cX7_init 0 = .ok (.aload_n 0, 1) := by decide +kernel
theorem dX7_init_1 : decode cX7_init 1 = .ok (.invokespecial 3, 3) := by decide +kernel
theorem dX7_init_4 : decode cX7_init 4 = .ok (.aload_n 0, 1) := by decide +kernel
theorem dX7_init_5 : decode cX7_init 5 = .ok (.new 9, 3) := by decide +kernel
theorem dX7_init_8 : decode cX7_init 8 = .ok (.dup, 1) := by decide +kernel
theorem dX7_init_9 : decode cX7_init 9 = .ok (.bipush 16, 2) := by decide +kernel
theorem dX7_init_11 : decode cX7_init 11 = .ok (.invokespecial 11, 3) := by decide +kernel
theorem dX7_init_14 : decode cX7_init 14 = .ok (.putfield 14, 3) := by decide +kernel
theorem dX7_init_17 : decode cX7_init 17 = .ok (.aload_n 0, 1) := by decide +kernel
theorem dX7_init_18 : decode cX7_init 18 = .ok (.new 9, 3) := by decide +kernel
theorem dX7_init_21 : decode cX7_init 21 = .ok (.dup, 1) := by decide +kernel
theorem dX7_init_22 : decode cX7_init 22 = .ok (.bipush 16, 2) := by decide +kernel
theorem dX7_init_24 : decode cX7_init 24 = .ok (.invokespecial 11, 3) := by decide +kernel
theorem dX7_init_27 : decode cX7_init 27 = .ok (.putfield 20, 3) := by decide +kernel
theorem dX7_init_30 : decode cX7_init 30 = .ok (.aload_n 0, 1) := by decide +kernel
theorem dX7_init_31 : decode cX7_init 31 = .ok (.new 9, 3) := by decide +kernel
theorem dX7_init_34 : decode cX7_init 34 = .ok (.dup, 1) := by decide +kernel
theorem dX7_init_35 : decode cX7_init 35 = .ok (.bipush 16, 2) := by decide +kernel
theorem dX7_init_37 : decode cX7_init 37 = .ok (.invokespecial 11, 3) := by decide +kernel
theorem dX7_init_40 : decode cX7_init 40 = .ok (.putfield 23, 3) := by decide +kernel
theorem dX7_init_43 : decode cX7_init 43 = .ok (.aload_n 0, 1) := by decide +kernel
theorem dX7_init_44 : decode cX7_init 44 = .ok (.new 9, 3) := by decide +kernel
theorem dX7_init_47 : decode cX7_init 47 = .ok (.dup, 1) := by decide +kernel
theorem dX7_init_48 : decode cX7_init 48 = .ok (.bipush 16, 2) := by decide +kernel
theorem dX7_init_50 : decode cX7_init 50 = .ok (.invokespecial 11, 3) := by decide +kernel
theorem dX7_init_53 : decode cX7_init 53 = .ok (.putfield 26, 3) := by decide +kernel
theorem dX7_init_56 : decode cX7_init 56 = .ok (.return_, 1) := by decide +kernel
theorem dX7_count_0 : decode cX7_count 0 = .ok (.aload_n 0, 1) := by decide +kernel
theorem dX7_count_1 : decode cX7_count 1 = .ok (.getfield 14, 3) := by decide +kernel
theorem dX7_count_4 : decode cX7_count 4 = .ok (.invokevirtual 29, 3) := by decide +kernel
theorem dX7_count_7 : decode cX7_count 7 = .ok (.ireturn, 1) := by decide +kernel
theorem dX7_has_0 : decode cX7_has 0 = .ok (.iload_n 1, 1) := by decide +kernel
theorem dX7_has_1 : decode cX7_has 1 = .ok (.ifCond .lt 18, 3) := by decide +kernel
theorem dX7_has_4 : decode cX7_has 4 = .ok (.iload_n 1, 1) := by decide +kernel
theorem dX7_has_5 : decode cX7_has 5 = .ok (.aload_n 0, 1) := by decide +kernel
theorem dX7_has_6 : decode cX7_has 6 = .ok (.getfield 14, 3) := by decide +kernel
theorem dX7_has_9 : decode cX7_has 9 = .ok (.invokevirtual 29, 3) := by decide +kernel
theorem dX7_has_12 : decode cX7_has 12 = .ok (.if_icmp .ge 7, 3) := by decide +kernel
theorem dX7_has_15 : decode cX7_has 15 = .ok (.iconst 1, 1) := by decide +kernel
theorem dX7_has_16 : decode cX7_has 16 = .ok (.goto 4, 3) := by decide +kernel
theorem dX7_has_19 : decode cX7_has 19 = .ok (.iconst 0, 1) := by decide +kernel
theorem dX7_has_20 : decode cX7_has 20 = .ok (.ireturn, 1) := by decide +kernel
theorem dX7_add_0 : decode cX7_add 0 = .ok (.aload_n 0, 1) := by decide +kernel
theorem dX7_add_1 : decode cX7_add 1 = .ok (.getfield 14, 3) := by decide +kernel
theorem dX7_add_4 : decode cX7_add 4 = .ok (.iload_n 1, 1) := by decide +kernel
theorem dX7_add_5 : decode cX7_add 5 = .ok (.invokevirtual 33, 3) := by decide +kernel
theorem dX7_add_8 : decode cX7_add 8 = .ok (.aload_n 0, 1) := by decide +kernel
theorem dX7_add_9 : decode cX7_add 9 = .ok (.getfield 20, 3) := by decide +kernel
theorem dX7_add_12 : decode cX7_add 12 = .ok (.iload_n 2, 1) := by decide +kernel
theorem dX7_add_13 : decode cX7_add 13 = .ok (.invokevirtual 33, 3) := by decide +kernel
theorem dX7_add_16 : decode cX7_add 16 = .ok (.aload_n 0, 1) := by decide +kernel
theorem dX7_add_17 : decode cX7_add 17 = .ok (.getfield 23, 3) := by decide +kernel
theorem dX7_add_20 : decode cX7_add 20 = .ok (.iload_n 3, 1) := by decide +kernel
theorem dX7_add_21 : decode cX7_add 21 = .ok (.invokevirtual 33, 3) := by decide +kernel
theorem dX7_add_24 : decode cX7_add 24 = .ok (.aload_n 0, 1) := by decide +kernel
theorem dX7_add_25 : decode cX7_add 25 = .ok (.getfield 26, 3) := by decide +kernel
theorem dX7_add_28 : decode cX7_add 28 = .ok (.iconst 0, 1) := by decide +kernel
theorem dX7_add_29 : decode cX7_add 29 = .ok (.invokevirtual 33, 3) := by decide +kernel
theorem dX7_add_32 : decode cX7_add 32 = .ok (.return_, 1) := by decide +kernel
theorem dX7_removeAt_0 : decode cX7_removeAt 0 = .ok (.aload_n 0, 1) := by decide +kernel
theorem dX7_removeAt_1 : decode cX7_removeAt 1 = .ok (.getfield 14, 3) := by decide +kernel
theorem dX7_removeAt_4 : decode cX7_removeAt 4 = .ok (.iload_n 1, 1) := by decide +kernel
theorem dX7_removeAt_5 : decode cX7_removeAt 5 = .ok (.invokevirtual 36, 3) := by decide +kernel
theorem dX7_removeAt_8 : decode cX7_removeAt 8 = .ok (.aload_n 0, 1) := by decide +kernel
theorem dX7_removeAt_9 : decode cX7_removeAt 9 = .ok (.getfield 20, 3) := by decide +kernel
theorem dX7_removeAt_12 : decode cX7_removeAt 12 = .ok (.iload_n 1, 1) := by decide +kernel
theorem dX7_removeAt_13 : decode cX7_removeAt 13 = .ok (.invokevirtual 36, 3) := by decide +kernel
theorem dX7_removeAt_16 : decode cX7_removeAt 16 = .ok (.aload_n 0, 1) := by decide +kernel
theorem dX7_removeAt_17 : decode cX7_removeAt 17 = .ok (.getfield 23, 3) := by decide +kernel
theorem dX7_removeAt_20 : decode cX7_removeAt 20 = .ok (.iload_n 1, 1) := by decide +kernel
theorem dX7_removeAt_21 : decode cX7_removeAt 21 = .ok (.invokevirtual 36, 3) := by decide +kernel
theorem dX7_removeAt_24 : decode cX7_removeAt 24 = .ok (.aload_n 0, 1) := by decide +kernel
theorem dX7_removeAt_25 : decode cX7_removeAt 25 = .ok (.getfield 26, 3) := by decide +kernel
theorem dX7_removeAt_28 : decode cX7_removeAt 28 = .ok (.iload_n 1, 1) := by decide +kernel
theorem dX7_removeAt_29 : decode cX7_removeAt 29 = .ok (.invokevirtual 36, 3) := by decide +kernel
theorem dX7_removeAt_32 : decode cX7_removeAt 32 = .ok (.return_, 1) := by decide +kernel
theorem dX7_placeFor_0 : decode cX7_placeFor 0 = .ok (.iconst 0, 1) := by decide +kernel
theorem dX7_placeFor_1 : decode cX7_placeFor 1 = .ok (.istore_n 3, 1) := by decide +kernel
theorem dX7_placeFor_2 : decode cX7_placeFor 2 = .ok (.iload_n 3, 1) := by decide +kernel
theorem dX7_placeFor_3 : decode cX7_placeFor 3 = .ok (.aload_n 0, 1) := by decide +kernel
theorem dX7_placeFor_4 : decode cX7_placeFor 4 = .ok (.getfield 14, 3) := by decide +kernel
theorem dX7_placeFor_7 : decode cX7_placeFor 7 = .ok (.invokevirtual 29, 3) := by decide +kernel
theorem dX7_placeFor_10 : decode cX7_placeFor 10 = .ok (.if_icmp .ge 35, 3) := by decide +kernel
theorem dX7_placeFor_13 : decode cX7_placeFor 13 = .ok (.aload_n 0, 1) := by decide +kernel
theorem dX7_placeFor_14 : decode cX7_placeFor 14 = .ok (.getfield 14, 3) := by decide +kernel
theorem dX7_placeFor_17 : decode cX7_placeFor 17 = .ok (.iload_n 3, 1) := by decide +kernel
theorem dX7_placeFor_18 : decode cX7_placeFor 18 = .ok (.invokevirtual 39, 3) := by decide +kernel
theorem dX7_placeFor_21 : decode cX7_placeFor 21 = .ok (.iload_n 1, 1) := by decide +kernel
theorem dX7_placeFor_22 : decode cX7_placeFor 22 = .ok (.if_icmp .ne 17, 3) := by decide +kernel
theorem dX7_placeFor_25 : decode cX7_placeFor 25 = .ok (.aload_n 0, 1) := by decide +kernel
theorem dX7_placeFor_26 : decode cX7_placeFor 26 = .ok (.getfield 20, 3) := by decide +kernel
theorem dX7_placeFor_29 : decode cX7_placeFor 29 = .ok (.iload_n 3, 1) := by decide +kernel
theorem dX7_placeFor_30 : decode cX7_placeFor 30 = .ok (.invokevirtual 39, 3) := by decide +kernel
theorem dX7_placeFor_33 : decode cX7_placeFor 33 = .ok (.iload_n 2, 1) := by decide +kernel
theorem dX7_placeFor_34 : decode cX7_placeFor 34 = .ok (.if_icmp .ne 5, 3) := by decide +kernel
theorem dX7_placeFor_37 : decode cX7_placeFor 37 = .ok (.iload_n 3, 1) := by decide +kernel
theorem dX7_placeFor_38 : decode cX7_placeFor 38 = .ok (.ireturn, 1) := by decide +kernel
theorem dX7_placeFor_39 : decode cX7_placeFor 39 = .ok (.iinc 3 1, 3) := by decide +kernel
theorem dX7_placeFor_42 : decode cX7_placeFor 42 = .ok (.goto (-40), 3) := by decide +kernel
theorem dX7_placeFor_45 : decode cX7_placeFor 45 = .ok (.iconst (-1), 1) := by decide +kernel
theorem dX7_placeFor_46 : decode cX7_placeFor 46 = .ok (.ireturn, 1) := by decide +kernel
theorem dX7_clear_0 : decode cX7_clear 0 = .ok (.aload_n 0, 1) := by decide +kernel
theorem dX7_clear_1 : decode cX7_clear 1 = .ok (.getfield 14, 3) := by decide +kernel
theorem dX7_clear_4 : decode cX7_clear 4 = .ok (.invokevirtual 43, 3) := by decide +kernel
theorem dX7_clear_7 : decode cX7_clear 7 = .ok (.aload_n 0, 1) := by decide +kernel
theorem dX7_clear_8 : decode cX7_clear 8 = .ok (.getfield 20, 3) := by decide +kernel
theorem dX7_clear_11 : decode cX7_clear 11 = .ok (.invokevirtual 43, 3) := by decide +kernel
theorem dX7_clear_14 : decode cX7_clear 14 = .ok (.aload_n 0, 1) := by decide +kernel
theorem dX7_clear_15 : decode cX7_clear 15 = .ok (.getfield 23, 3) := by decide +kernel
theorem dX7_clear_18 : decode cX7_clear 18 = .ok (.invokevirtual 43, 3) := by decide +kernel
theorem dX7_clear_21 : decode cX7_clear 21 = .ok (.aload_n 0, 1) := by decide +kernel
theorem dX7_clear_22 : decode cX7_clear 22 = .ok (.getfield 26, 3) := by decide +kernel
theorem dX7_clear_25 : decode cX7_clear 25 = .ok (.invokevirtual 43, 3) := by decide +kernel
theorem dX7_clear_28 : decode cX7_clear 28 = .ok (.return_, 1) := by decide +kernel
theorem dX7_copyFrom_0 : decode cX7_copyFrom 0 = .ok (.aload_n 0, 1) := by decide +kernel
theorem dX7_copyFrom_1 : decode cX7_copyFrom 1 = .ok (.getfield 14, 3) := by decide +kernel
theorem dX7_copyFrom_4 : decode cX7_copyFrom 4 = .ok (.aload_n 1, 1) := by decide +kernel
theorem dX7_copyFrom_5 : decode cX7_copyFrom 5 = .ok (.getfield 14, 3) := by decide +kernel
theorem dX7_copyFrom_8 : decode cX7_copyFrom 8 = .ok (.invokevirtual 46, 3) := by decide +kernel
theorem dX7_copyFrom_11 : decode cX7_copyFrom 11 = .ok (.aload_n 0, 1) := by decide +kernel
theorem dX7_copyFrom_12 : decode cX7_copyFrom 12 = .ok (.getfield 20, 3) := by decide +kernel
theorem dX7_copyFrom_15 : decode cX7_copyFrom 15 = .ok (.aload_n 1, 1) := by decide +kernel
theorem dX7_copyFrom_16 : decode cX7_copyFrom 16 = .ok (.getfield 20, 3) := by decide +kernel
theorem dX7_copyFrom_19 : decode cX7_copyFrom 19 = .ok (.invokevirtual 46, 3) := by decide +kernel
theorem dX7_copyFrom_22 : decode cX7_copyFrom 22 = .ok (.aload_n 0, 1) := by decide +kernel
theorem dX7_copyFrom_23 : decode cX7_copyFrom 23 = .ok (.getfield 23, 3) := by decide +kernel
theorem dX7_copyFrom_26 : decode cX7_copyFrom 26 = .ok (.aload_n 1, 1) := by decide +kernel
theorem dX7_copyFrom_27 : decode cX7_copyFrom 27 = .ok (.getfield 23, 3) := by decide +kernel
theorem dX7_copyFrom_30 : decode cX7_copyFrom 30 = .ok (.invokevirtual 46, 3) := by decide +kernel
theorem dX7_copyFrom_33 : decode cX7_copyFrom 33 = .ok (.aload_n 0, 1) := by decide +kernel
theorem dX7_copyFrom_34 : decode cX7_copyFrom 34 = .ok (.getfield 26, 3) := by decide +kernel
theorem dX7_copyFrom_37 : decode cX7_copyFrom 37 = .ok (.aload_n 1, 1) := by decide +kernel
theorem dX7_copyFrom_38 : decode cX7_copyFrom 38 = .ok (.getfield 26, 3) := by decide +kernel
theorem dX7_copyFrom_41 : decode cX7_copyFrom 41 = .ok (.invokevirtual 46, 3) := by decide +kernel
theorem dX7_copyFrom_44 : decode cX7_copyFrom 44 = .ok (.return_, 1) := by decide +kernel
theorem dX8_init_0 : decode cX8_init 0 = .ok (.aload_n 0, 1) := by decide +kernel
theorem dX8_init_1 : decode cX8_init 1 = .ok (.invokespecial 3, 3) := by decide +kernel
theorem dX8_init_4 : decode cX8_init 4 = .ok (.aload_n 0, 1) := by decide +kernel
theorem dX8_init_5 : decode cX8_init 5 = .ok (.new 9, 3) := by decide +kernel
theorem dX8_init_8 : decode cX8_init 8 = .ok (.dup, 1) := by decide +kernel
theorem dX8_init_9 : decode cX8_init 9 = .ok (.bipush 24, 2) := by decide +kernel
theorem dX8_init_11 : decode cX8_init 11 = .ok (.invokespecial 11, 3) := by decide +kernel
theorem dX8_init_14 : decode cX8_init 14 = .ok (.putfield 14, 3) := by decide +kernel
theorem dX8_init_17 : decode cX8_init 17 = .ok (.aload_n 0, 1) := by decide +kernel
theorem dX8_init_18 : decode cX8_init 18 = .ok (.new 9, 3) := by decide +kernel
theorem dX8_init_21 : decode cX8_init 21 = .ok (.dup, 1) := by decide +kernel
theorem dX8_init_22 : decode cX8_init 22 = .ok (.bipush 24, 2) := by decide +kernel
theorem dX8_init_24 : decode cX8_init 24 = .ok (.invokespecial 11, 3) := by decide +kernel
theorem dX8_init_27 : decode cX8_init 27 = .ok (.putfield 20, 3) := by decide +kernel
theorem dX8_init_30 : decode cX8_init 30 = .ok (.aload_n 0, 1) := by decide +kernel
theorem dX8_init_31 : decode cX8_init 31 = .ok (.new 9, 3) := by decide +kernel
theorem dX8_init_34 : decode cX8_init 34 = .ok (.dup, 1) := by decide +kernel
theorem dX8_init_35 : decode cX8_init 35 = .ok (.bipush 24, 2) := by decide +kernel
theorem dX8_init_37 : decode cX8_init 37 = .ok (.invokespecial 11, 3) := by decide +kernel
theorem dX8_init_40 : decode cX8_init 40 = .ok (.putfield 23, 3) := by decide +kernel
theorem dX8_init_43 : decode cX8_init 43 = .ok (.aload_n 0, 1) := by decide +kernel
theorem dX8_init_44 : decode cX8_init 44 = .ok (.new 9, 3) := by decide +kernel
theorem dX8_init_47 : decode cX8_init 47 = .ok (.dup, 1) := by decide +kernel
theorem dX8_init_48 : decode cX8_init 48 = .ok (.bipush 24, 2) := by decide +kernel
theorem dX8_init_50 : decode cX8_init 50 = .ok (.invokespecial 11, 3) := by decide +kernel
theorem dX8_init_53 : decode cX8_init 53 = .ok (.putfield 26, 3) := by decide +kernel
theorem dX8_init_56 : decode cX8_init 56 = .ok (.aload_n 0, 1) := by decide +kernel
theorem dX8_init_57 : decode cX8_init 57 = .ok (.new 9, 3) := by decide +kernel
theorem dX8_init_60 : decode cX8_init 60 = .ok (.dup, 1) := by decide +kernel
theorem dX8_init_61 : decode cX8_init 61 = .ok (.bipush 24, 2) := by decide +kernel
theorem dX8_init_63 : decode cX8_init 63 = .ok (.invokespecial 11, 3) := by decide +kernel
theorem dX8_init_66 : decode cX8_init 66 = .ok (.putfield 29, 3) := by decide +kernel
theorem dX8_init_69 : decode cX8_init 69 = .ok (.aload_n 0, 1) := by decide +kernel
theorem dX8_init_70 : decode cX8_init 70 = .ok (.new 9, 3) := by decide +kernel
theorem dX8_init_73 : decode cX8_init 73 = .ok (.dup, 1) := by decide +kernel
theorem dX8_init_74 : decode cX8_init 74 = .ok (.bipush 8, 2) := by decide +kernel
theorem dX8_init_76 : decode cX8_init 76 = .ok (.invokespecial 11, 3) := by decide +kernel
theorem dX8_init_79 : decode cX8_init 79 = .ok (.putfield 32, 3) := by decide +kernel
theorem dX8_init_82 : decode cX8_init 82 = .ok (.aload_n 0, 1) := by decide +kernel
theorem dX8_init_83 : decode cX8_init 83 = .ok (.new 9, 3) := by decide +kernel
theorem dX8_init_86 : decode cX8_init 86 = .ok (.dup, 1) := by decide +kernel
theorem dX8_init_87 : decode cX8_init 87 = .ok (.bipush 8, 2) := by decide +kernel
theorem dX8_init_89 : decode cX8_init 89 = .ok (.invokespecial 11, 3) := by decide +kernel
theorem dX8_init_92 : decode cX8_init 92 = .ok (.putfield 35, 3) := by decide +kernel
theorem dX8_init_95 : decode cX8_init 95 = .ok (.aload_n 0, 1) := by decide +kernel
theorem dX8_init_96 : decode cX8_init 96 = .ok (.new 38, 3) := by decide +kernel
theorem dX8_init_99 : decode cX8_init 99 = .ok (.dup, 1) := by decide +kernel
theorem dX8_init_100 : decode cX8_init 100 = .ok (.aload_n 0, 1) := by decide +kernel
theorem dX8_init_101 : decode cX8_init 101 = .ok (.getfield 14, 3) := by decide +kernel
theorem dX8_init_104 : decode cX8_init 104 = .ok (.invokespecial 40, 3) := by decide +kernel
theorem dX8_init_107 : decode cX8_init 107 = .ok (.putfield 43, 3) := by decide +kernel
theorem dX8_init_110 : decode cX8_init 110 = .ok (.aload_n 0, 1) := by decide +kernel
theorem dX8_init_111 : decode cX8_init 111 = .ok (.new 9, 3) := by decide +kernel
theorem dX8_init_114 : decode cX8_init 114 = .ok (.dup, 1) := by decide +kernel
theorem dX8_init_115 : decode cX8_init 115 = .ok (.bipush 24, 2) := by decide +kernel
theorem dX8_init_117 : decode cX8_init 117 = .ok (.invokespecial 11, 3) := by decide +kernel
theorem dX8_init_120 : decode cX8_init 120 = .ok (.putfield 47, 3) := by decide +kernel
theorem dX8_init_123 : decode cX8_init 123 = .ok (.aload_n 0, 1) := by decide +kernel
theorem dX8_init_124 : decode cX8_init 124 = .ok (.new 50, 3) := by decide +kernel
theorem dX8_init_127 : decode cX8_init 127 = .ok (.dup, 1) := by decide +kernel
theorem dX8_init_128 : decode cX8_init 128 = .ok (.invokespecial 52, 3) := by decide +kernel
theorem dX8_init_131 : decode cX8_init 131 = .ok (.putfield 53, 3) := by decide +kernel
theorem dX8_init_134 : decode cX8_init 134 = .ok (.aload_n 0, 1) := by decide +kernel
theorem dX8_init_135 : decode cX8_init 135 = .ok (.new 9, 3) := by decide +kernel
theorem dX8_init_138 : decode cX8_init 138 = .ok (.dup, 1) := by decide +kernel
theorem dX8_init_139 : decode cX8_init 139 = .ok (.bipush 11, 2) := by decide +kernel
theorem dX8_init_141 : decode cX8_init 141 = .ok (.invokespecial 11, 3) := by decide +kernel
theorem dX8_init_144 : decode cX8_init 144 = .ok (.putfield 57, 3) := by decide +kernel
theorem dX8_init_147 : decode cX8_init 147 = .ok (.return_, 1) := by decide +kernel
theorem dX8_begin_0 : decode cX8_begin 0 = .ok (.aload_n 0, 1) := by decide +kernel
theorem dX8_begin_1 : decode cX8_begin 1 = .ok (.iconst 0, 1) := by decide +kernel
theorem dX8_begin_2 : decode cX8_begin 2 = .ok (.putfield 60, 3) := by decide +kernel
theorem dX8_begin_5 : decode cX8_begin 5 = .ok (.aload_n 0, 1) := by decide +kernel
theorem dX8_begin_6 : decode cX8_begin 6 = .ok (.iload_n 1, 1) := by decide +kernel
theorem dX8_begin_7 : decode cX8_begin 7 = .ok (.putfield 64, 3) := by decide +kernel
theorem dX8_begin_10 : decode cX8_begin 10 = .ok (.aload_n 0, 1) := by decide +kernel
theorem dX8_begin_11 : decode cX8_begin 11 = .ok (.iload_n 2, 1) := by decide +kernel
theorem dX8_begin_12 : decode cX8_begin 12 = .ok (.putfield 67, 3) := by decide +kernel
theorem dX8_begin_15 : decode cX8_begin 15 = .ok (.aload_n 0, 1) := by decide +kernel
theorem dX8_begin_16 : decode cX8_begin 16 = .ok (.iload 4, 2) := by decide +kernel
theorem dX8_begin_18 : decode cX8_begin 18 = .ok (.putfield 70, 3) := by decide +kernel
theorem dX8_begin_21 : decode cX8_begin 21 = .ok (.aload_n 0, 1) := by decide +kernel
theorem dX8_begin_22 : decode cX8_begin 22 = .ok (.getfield 14, 3) := by decide +kernel
theorem dX8_begin_25 : decode cX8_begin 25 = .ok (.invokevirtual 73, 3) := by decide +kernel
theorem dX8_begin_28 : decode cX8_begin 28 = .ok (.aload_n 0, 1) := by decide +kernel
theorem dX8_begin_29 : decode cX8_begin 29 = .ok (.getfield 20, 3) := by decide +kernel
theorem dX8_begin_32 : decode cX8_begin 32 = .ok (.invokevirtual 73, 3) := by decide +kernel
theorem dX8_begin_35 : decode cX8_begin 35 = .ok (.aload_n 0, 1) := by decide +kernel
theorem dX8_begin_36 : decode cX8_begin 36 = .ok (.getfield 23, 3) := by decide +kernel
theorem dX8_begin_39 : decode cX8_begin 39 = .ok (.invokevirtual 73, 3) := by decide +kernel
theorem dX8_begin_42 : decode cX8_begin 42 = .ok (.aload_n 0, 1) := by decide +kernel
theorem dX8_begin_43 : decode cX8_begin 43 = .ok (.getfield 26, 3) := by decide +kernel
theorem dX8_begin_46 : decode cX8_begin 46 = .ok (.invokevirtual 73, 3) := by decide +kernel
theorem dX8_begin_49 : decode cX8_begin 49 = .ok (.aload_n 0, 1) := by decide +kernel
theorem dX8_begin_50 : decode cX8_begin 50 = .ok (.getfield 29, 3) := by decide +kernel
theorem dX8_begin_53 : decode cX8_begin 53 = .ok (.invokevirtual 73, 3) := by decide +kernel
theorem dX8_begin_56 : decode cX8_begin 56 = .ok (.aload_n 0, 1) := by decide +kernel
theorem dX8_begin_57 : decode cX8_begin 57 = .ok (.getfield 32, 3) := by decide +kernel
theorem dX8_begin_60 : decode cX8_begin 60 = .ok (.iload_n 3, 1) := by decide +kernel
theorem dX8_begin_61 : decode cX8_begin 61 = .ok (.invokevirtual 76, 3) := by decide +kernel
theorem dX8_begin_64 : decode cX8_begin 64 = .ok (.aload_n 0, 1) := by decide +kernel
theorem dX8_begin_65 : decode cX8_begin 65 = .ok (.getfield 35, 3) := by decide +kernel
theorem dX8_begin_68 : decode cX8_begin 68 = .ok (.iload_n 3, 1) := by decide +kernel
theorem dX8_begin_69 : decode cX8_begin 69 = .ok (.invokevirtual 76, 3) := by decide +kernel
theorem dX8_begin_72 : decode cX8_begin 72 = .ok (.aload_n 0, 1) := by decide +kernel
theorem dX8_begin_73 : decode cX8_begin 73 = .ok (.getfield 43, 3) := by decide +kernel
theorem dX8_begin_76 : decode cX8_begin 76 = .ok (.getfield 79, 3) := by decide +kernel
theorem dX8_begin_79 : decode cX8_begin 79 = .ok (.invokevirtual 73, 3) := by decide +kernel
theorem dX8_begin_82 : decode cX8_begin 82 = .ok (.aload_n 0, 1) := by decide +kernel
theorem dX8_begin_83 : decode cX8_begin 83 = .ok (.getfield 47, 3) := by decide +kernel
theorem dX8_begin_86 : decode cX8_begin 86 = .ok (.invokevirtual 73, 3) := by decide +kernel
theorem dX8_begin_89 : decode cX8_begin 89 = .ok (.aload_n 0, 1) := by decide +kernel
theorem dX8_begin_90 : decode cX8_begin 90 = .ok (.getfield 53, 3) := by decide +kernel
theorem dX8_begin_93 : decode cX8_begin 93 = .ok (.invokevirtual 82, 3) := by decide +kernel
theorem dX8_begin_96 : decode cX8_begin 96 = .ok (.aload_n 0, 1) := by decide +kernel
theorem dX8_begin_97 : decode cX8_begin 97 = .ok (.getfield 57, 3) := by decide +kernel
theorem dX8_begin_100 : decode cX8_begin 100 = .ok (.bipush 11, 2) := by decide +kernel
theorem dX8_begin_102 : decode cX8_begin 102 = .ok (.invokevirtual 76, 3) := by decide +kernel
theorem dX8_begin_105 : decode cX8_begin 105 = .ok (.return_, 1) := by decide +kernel
theorem dX8_addFolder_0 : decode cX8_addFolder 0 = .ok (.aload_n 0, 1) := by decide +kernel
theorem dX8_addFolder_1 : decode cX8_addFolder 1 = .ok (.getfield 43, 3) := by decide +kernel
theorem dX8_addFolder_4 : decode cX8_addFolder 4 = .ok (.getfield 79, 3) := by decide +kernel
theorem dX8_addFolder_7 : decode cX8_addFolder 7 = .ok (.aload_n 0, 1) := by decide +kernel
theorem dX8_addFolder_8 : decode cX8_addFolder 8 = .ok (.getfield 14, 3) := by decide +kernel
theorem dX8_addFolder_11 : decode cX8_addFolder 11 = .ok (.invokevirtual 83, 3) := by decide +kernel
theorem dX8_addFolder_14 : decode cX8_addFolder 14 = .ok (.invokevirtual 87, 3) := by decide +kernel
theorem dX8_addFolder_17 : decode cX8_addFolder 17 = .ok (.aload_n 0, 1) := by decide +kernel
theorem dX8_addFolder_18 : decode cX8_addFolder 18 = .ok (.getfield 14, 3) := by decide +kernel
theorem dX8_addFolder_21 : decode cX8_addFolder 21 = .ok (.iload_n 1, 1) := by decide +kernel
theorem dX8_addFolder_22 : decode cX8_addFolder 22 = .ok (.invokevirtual 87, 3) := by decide +kernel
theorem dX8_addFolder_25 : decode cX8_addFolder 25 = .ok (.aload_n 0, 1) := by decide +kernel
theorem dX8_addFolder_26 : decode cX8_addFolder 26 = .ok (.getfield 20, 3) := by decide +kernel
theorem dX8_addFolder_29 : decode cX8_addFolder 29 = .ok (.iload_n 2, 1) := by decide +kernel
theorem dX8_addFolder_30 : decode cX8_addFolder 30 = .ok (.invokevirtual 87, 3) := by decide +kernel
theorem dX8_addFolder_33 : decode cX8_addFolder 33 = .ok (.aload_n 0, 1) := by decide +kernel
theorem dX8_addFolder_34 : decode cX8_addFolder 34 = .ok (.getfield 23, 3) := by decide +kernel
theorem dX8_addFolder_37 : decode cX8_addFolder 37 = .ok (.iconst 0, 1) := by decide +kernel
theorem dX8_addFolder_38 : decode cX8_addFolder 38 = .ok (.invokevirtual 87, 3) := by decide +kernel
theorem dX8_addFolder_41 : decode cX8_addFolder 41 = .ok (.aload_n 0, 1) := by decide +kernel
theorem dX8_addFolder_42 : decode cX8_addFolder 42 = .ok (.getfield 26, 3) := by decide +kernel
theorem dX8_addFolder_45 : decode cX8_addFolder 45 = .ok (.iconst (-1), 1) := by decide +kernel
theorem dX8_addFolder_46 : decode cX8_addFolder 46 = .ok (.invokevirtual 87, 3) := by decide +kernel
theorem dX8_addFolder_49 : decode cX8_addFolder 49 = .ok (.aload_n 0, 1) := by decide +kernel
theorem dX8_addFolder_50 : decode cX8_addFolder 50 = .ok (.getfield 29, 3) := by decide +kernel
theorem dX8_addFolder_53 : decode cX8_addFolder 53 = .ok (.iconst 0, 1) := by decide +kernel
theorem dX8_addFolder_54 : decode cX8_addFolder 54 = .ok (.invokevirtual 87, 3) := by decide +kernel
theorem dX8_addFolder_57 : decode cX8_addFolder 57 = .ok (.return_, 1) := by decide +kernel
theorem dX8_copyFrom_0 : decode cX8_copyFrom 0 = .ok (.aload_n 0, 1) := by decide +kernel
theorem dX8_copyFrom_1 : decode cX8_copyFrom 1 = .ok (.aload_n 1, 1) := by decide +kernel
theorem dX8_copyFrom_2 : decode cX8_copyFrom 2 = .ok (.getfield 60, 3) := by decide +kernel
theorem dX8_copyFrom_5 : decode cX8_copyFrom 5 = .ok (.putfield 60, 3) := by decide +kernel
theorem dX8_copyFrom_8 : decode cX8_copyFrom 8 = .ok (.aload_n 0, 1) := by decide +kernel
theorem dX8_copyFrom_9 : decode cX8_copyFrom 9 = .ok (.aload_n 1, 1) := by decide +kernel
theorem dX8_copyFrom_10 : decode cX8_copyFrom 10 = .ok (.getfield 64, 3) := by decide +kernel
theorem dX8_copyFrom_13 : decode cX8_copyFrom 13 = .ok (.putfield 64, 3) := by decide +kernel
theorem dX8_copyFrom_16 : decode cX8_copyFrom 16 = .ok (.aload_n 0, 1) := by decide +kernel
theorem dX8_copyFrom_17 : decode cX8_copyFrom 17 = .ok (.aload_n 1, 1) := by decide +kernel
theorem dX8_copyFrom_18 : decode cX8_copyFrom 18 = .ok (.getfield 67, 3) := by decide +kernel
theorem dX8_copyFrom_21 : decode cX8_copyFrom 21 = .ok (.putfield 67, 3) := by decide +kernel
theorem dX8_copyFrom_24 : decode cX8_copyFrom 24 = .ok (.aload_n 0, 1) := by decide +kernel
theorem dX8_copyFrom_25 : decode cX8_copyFrom 25 = .ok (.aload_n 1, 1) := by decide +kernel
theorem dX8_copyFrom_26 : decode cX8_copyFrom 26 = .ok (.getfield 70, 3) := by decide +kernel
theorem dX8_copyFrom_29 : decode cX8_copyFrom 29 = .ok (.putfield 70, 3) := by decide +kernel
theorem dX8_copyFrom_32 : decode cX8_copyFrom 32 = .ok (.aload_n 0, 1) := by decide +kernel
theorem dX8_copyFrom_33 : decode cX8_copyFrom 33 = .ok (.getfield 14, 3) := by decide +kernel
theorem dX8_copyFrom_36 : decode cX8_copyFrom 36 = .ok (.aload_n 1, 1) := by decide +kernel
theorem dX8_copyFrom_37 : decode cX8_copyFrom 37 = .ok (.getfield 14, 3) := by decide +kernel
theorem dX8_copyFrom_40 : decode cX8_copyFrom 40 = .ok (.invokevirtual 90, 3) := by decide +kernel
theorem dX8_copyFrom_43 : decode cX8_copyFrom 43 = .ok (.aload_n 0, 1) := by decide +kernel
theorem dX8_copyFrom_44 : decode cX8_copyFrom 44 = .ok (.getfield 20, 3) := by decide +kernel
theorem dX8_copyFrom_47 : decode cX8_copyFrom 47 = .ok (.aload_n 1, 1) := by decide +kernel
theorem dX8_copyFrom_48 : decode cX8_copyFrom 48 = .ok (.getfield 20, 3) := by decide +kernel
theorem dX8_copyFrom_51 : decode cX8_copyFrom 51 = .ok (.invokevirtual 90, 3) := by decide +kernel
theorem dX8_copyFrom_54 : decode cX8_copyFrom 54 = .ok (.aload_n 0, 1) := by decide +kernel
theorem dX8_copyFrom_55 : decode cX8_copyFrom 55 = .ok (.getfield 23, 3) := by decide +kernel
theorem dX8_copyFrom_58 : decode cX8_copyFrom 58 = .ok (.aload_n 1, 1) := by decide +kernel
theorem dX8_copyFrom_59 : decode cX8_copyFrom 59 = .ok (.getfield 23, 3) := by decide +kernel
theorem dX8_copyFrom_62 : decode cX8_copyFrom 62 = .ok (.invokevirtual 90, 3) := by decide +kernel
theorem dX8_copyFrom_65 : decode cX8_copyFrom 65 = .ok (.aload_n 0, 1) := by decide +kernel
theorem dX8_copyFrom_66 : decode cX8_copyFrom 66 = .ok (.getfield 26, 3) := by decide +kernel
theorem dX8_copyFrom_69 : decode cX8_copyFrom 69 = .ok (.aload_n 1, 1) := by decide +kernel
theorem dX8_copyFrom_70 : decode cX8_copyFrom 70 = .ok (.getfield 26, 3) := by decide +kernel
theorem dX8_copyFrom_73 : decode cX8_copyFrom 73 = .ok (.invokevirtual 90, 3) := by decide +kernel
theorem dX8_copyFrom_76 : decode cX8_copyFrom 76 = .ok (.aload_n 0, 1) := by decide +kernel
theorem dX8_copyFrom_77 : decode cX8_copyFrom 77 = .ok (.getfield 29, 3) := by decide +kernel
theorem dX8_copyFrom_80 : decode cX8_copyFrom 80 = .ok (.aload_n 1, 1) := by decide +kernel
theorem dX8_copyFrom_81 : decode cX8_copyFrom 81 = .ok (.getfield 29, 3) := by decide +kernel
theorem dX8_copyFrom_84 : decode cX8_copyFrom 84 = .ok (.invokevirtual 90, 3) := by decide +kernel
theorem dX8_copyFrom_87 : decode cX8_copyFrom 87 = .ok (.aload_n 0, 1) := by decide +kernel
theorem dX8_copyFrom_88 : decode cX8_copyFrom 88 = .ok (.getfield 32, 3) := by decide +kernel
theorem dX8_copyFrom_91 : decode cX8_copyFrom 91 = .ok (.aload_n 1, 1) := by decide +kernel
theorem dX8_copyFrom_92 : decode cX8_copyFrom 92 = .ok (.getfield 32, 3) := by decide +kernel
theorem dX8_copyFrom_95 : decode cX8_copyFrom 95 = .ok (.invokevirtual 90, 3) := by decide +kernel
theorem dX8_copyFrom_98 : decode cX8_copyFrom 98 = .ok (.aload_n 0, 1) := by decide +kernel
theorem dX8_copyFrom_99 : decode cX8_copyFrom 99 = .ok (.getfield 35, 3) := by decide +kernel
theorem dX8_copyFrom_102 : decode cX8_copyFrom 102 = .ok (.aload_n 1, 1) := by decide +kernel
theorem dX8_copyFrom_103 : decode cX8_copyFrom 103 = .ok (.getfield 35, 3) := by decide +kernel
theorem dX8_copyFrom_106 : decode cX8_copyFrom 106 = .ok (.invokevirtual 90, 3) := by decide +kernel
theorem dX8_copyFrom_109 : decode cX8_copyFrom 109 = .ok (.aload_n 0, 1) := by decide +kernel
theorem dX8_copyFrom_110 : decode cX8_copyFrom 110 = .ok (.getfield 43, 3) := by decide +kernel
theorem dX8_copyFrom_113 : decode cX8_copyFrom 113 = .ok (.getfield 79, 3) := by decide +kernel
theorem dX8_copyFrom_116 : decode cX8_copyFrom 116 = .ok (.aload_n 1, 1) := by decide +kernel
theorem dX8_copyFrom_117 : decode cX8_copyFrom 117 = .ok (.getfield 43, 3) := by decide +kernel
theorem dX8_copyFrom_120 : decode cX8_copyFrom 120 = .ok (.getfield 79, 3) := by decide +kernel
theorem dX8_copyFrom_123 : decode cX8_copyFrom 123 = .ok (.invokevirtual 90, 3) := by decide +kernel
theorem dX8_copyFrom_126 : decode cX8_copyFrom 126 = .ok (.aload_n 0, 1) := by decide +kernel
theorem dX8_copyFrom_127 : decode cX8_copyFrom 127 = .ok (.getfield 47, 3) := by decide +kernel
theorem dX8_copyFrom_130 : decode cX8_copyFrom 130 = .ok (.aload_n 1, 1) := by decide +kernel
theorem dX8_copyFrom_131 : decode cX8_copyFrom 131 = .ok (.getfield 47, 3) := by decide +kernel
theorem dX8_copyFrom_134 : decode cX8_copyFrom 134 = .ok (.invokevirtual 90, 3) := by decide +kernel
theorem dX8_copyFrom_137 : decode cX8_copyFrom 137 = .ok (.aload_n 0, 1) := by decide +kernel
theorem dX8_copyFrom_138 : decode cX8_copyFrom 138 = .ok (.getfield 53, 3) := by decide +kernel
theorem dX8_copyFrom_141 : decode cX8_copyFrom 141 = .ok (.aload_n 1, 1) := by decide +kernel
theorem dX8_copyFrom_142 : decode cX8_copyFrom 142 = .ok (.getfield 53, 3) := by decide +kernel
theorem dX8_copyFrom_145 : decode cX8_copyFrom 145 = .ok (.invokevirtual 93, 3) := by decide +kernel
theorem dX8_copyFrom_148 : decode cX8_copyFrom 148 = .ok (.aload_n 0, 1) := by decide +kernel
theorem dX8_copyFrom_149 : decode cX8_copyFrom 149 = .ok (.getfield 57, 3) := by decide +kernel
theorem dX8_copyFrom_152 : decode cX8_copyFrom 152 = .ok (.aload_n 1, 1) := by decide +kernel
theorem dX8_copyFrom_153 : decode cX8_copyFrom 153 = .ok (.getfield 57, 3) := by decide +kernel
theorem dX8_copyFrom_156 : decode cX8_copyFrom 156 = .ok (.invokevirtual 90, 3) := by decide +kernel
theorem dX8_copyFrom_159 : decode cX8_copyFrom 159 = .ok (.return_, 1) := by decide +kernel
theorem dX8_hasFolder_0 : decode cX8_hasFolder 0 = .ok (.iload_n 1, 1) := by decide +kernel
theorem dX8_hasFolder_1 : decode cX8_hasFolder 1 = .ok (.ifCond .lt 18, 3) := by decide +kernel
theorem dX8_hasFolder_4 : decode cX8_hasFolder 4 = .ok (.iload_n 1, 1) := by decide +kernel
theorem dX8_hasFolder_5 : decode cX8_hasFolder 5 = .ok (.aload_n 0, 1) := by decide +kernel
theorem dX8_hasFolder_6 : decode cX8_hasFolder 6 = .ok (.getfield 14, 3) := by decide +kernel
theorem dX8_hasFolder_9 : decode cX8_hasFolder 9 = .ok (.invokevirtual 83, 3) := by decide +kernel
theorem dX8_hasFolder_12 : decode cX8_hasFolder 12 = .ok (.if_icmp .ge 7, 3) := by decide +kernel
theorem dX8_hasFolder_15 : decode cX8_hasFolder 15 = .ok (.iconst 1, 1) := by decide +kernel
theorem dX8_hasFolder_16 : decode cX8_hasFolder 16 = .ok (.goto 4, 3) := by decide +kernel
theorem dX8_hasFolder_19 : decode cX8_hasFolder 19 = .ok (.iconst 0, 1) := by decide +kernel
theorem dX8_hasFolder_20 : decode cX8_hasFolder 20 = .ok (.ireturn, 1) := by decide +kernel
theorem dX8_hasReader_0 : decode cX8_hasReader 0 = .ok (.iload_n 1, 1) := by decide +kernel
theorem dX8_hasReader_1 : decode cX8_hasReader 1 = .ok (.ifCond .lt 18, 3) := by decide +kernel
theorem dX8_hasReader_4 : decode cX8_hasReader 4 = .ok (.iload_n 1, 1) := by decide +kernel
theorem dX8_hasReader_5 : decode cX8_hasReader 5 = .ok (.aload_n 0, 1) := by decide +kernel
theorem dX8_hasReader_6 : decode cX8_hasReader 6 = .ok (.getfield 32, 3) := by decide +kernel
theorem dX8_hasReader_9 : decode cX8_hasReader 9 = .ok (.invokevirtual 83, 3) := by decide +kernel
theorem dX8_hasReader_12 : decode cX8_hasReader 12 = .ok (.if_icmp .ge 7, 3) := by decide +kernel
theorem dX8_hasReader_15 : decode cX8_hasReader 15 = .ok (.iconst 1, 1) := by decide +kernel
theorem dX8_hasReader_16 : decode cX8_hasReader 16 = .ok (.goto 4, 3) := by decide +kernel
theorem dX8_hasReader_19 : decode cX8_hasReader 19 = .ok (.iconst 0, 1) := by decide +kernel
theorem dX8_hasReader_20 : decode cX8_hasReader 20 = .ok (.ireturn, 1) := by decide +kernel
theorem dX8_isClosed_0 : decode cX8_isClosed 0 = .ok (.aload_n 0, 1) := by decide +kernel
theorem dX8_isClosed_1 : decode cX8_isClosed 1 = .ok (.getfield 60, 3) := by decide +kernel
theorem dX8_isClosed_4 : decode cX8_isClosed 4 = .ok (.aload_n 0, 1) := by decide +kernel
theorem dX8_isClosed_5 : decode cX8_isClosed 5 = .ok (.getfield 20, 3) := by decide +kernel
theorem dX8_isClosed_8 : decode cX8_isClosed 8 = .ok (.iload_n 1, 1) := by decide +kernel
theorem dX8_isClosed_9 : decode cX8_isClosed 9 = .ok (.invokevirtual 96, 3) := by decide +kernel
theorem dX8_isClosed_12 : decode cX8_isClosed 12 = .ok (.if_icmp .ge 7, 3) := by decide +kernel
theorem dX8_isClosed_15 : decode cX8_isClosed 15 = .ok (.iconst 1, 1) := by decide +kernel
theorem dX8_isClosed_16 : decode cX8_isClosed 16 = .ok (.goto 4, 3) := by decide +kernel
theorem dX8_isClosed_19 : decode cX8_isClosed 19 = .ok (.iconst 0, 1) := by decide +kernel
theorem dX8_isClosed_20 : decode cX8_isClosed 20 = .ok (.ireturn, 1) := by decide +kernel
theorem dX8_whereabouts_0 : decode cX8_whereabouts 0 = .ok (.aload_n 0, 1) := by decide +kernel
theorem dX8_whereabouts_1 : decode cX8_whereabouts 1 = .ok (.getfield 23, 3) := by decide +kernel
theorem dX8_whereabouts_4 : decode cX8_whereabouts 4 = .ok (.iload_n 1, 1) := by decide +kernel
theorem dX8_whereabouts_5 : decode cX8_whereabouts 5 = .ok (.invokevirtual 96, 3) := by decide +kernel
theorem dX8_whereabouts_8 : decode cX8_whereabouts 8 = .ok (.lookupswitch 49 #[(0, 28), (2, 40)], 28) := by decide +kernel
theorem dX8_whereabouts_36 : decode cX8_whereabouts 36 = .ok (.aload_n 0, 1) := by decide +kernel
theorem dX8_whereabouts_37 : decode cX8_whereabouts 37 = .ok (.getfield 43, 3) := by decide +kernel
theorem dX8_whereabouts_40 : decode cX8_whereabouts 40 = .ok (.getfield 79, 3) := by decide +kernel
theorem dX8_whereabouts_43 : decode cX8_whereabouts 43 = .ok (.iload_n 1, 1) := by decide +kernel
theorem dX8_whereabouts_44 : decode cX8_whereabouts 44 = .ok (.invokevirtual 100, 3) := by decide +kernel
theorem dX8_whereabouts_47 : decode cX8_whereabouts 47 = .ok (.ireturn, 1) := by decide +kernel
theorem dX8_whereabouts_48 : decode cX8_whereabouts 48 = .ok (.aload_n 0, 1) := by decide +kernel
theorem dX8_whereabouts_49 : decode cX8_whereabouts 49 = .ok (.getfield 47, 3) := by decide +kernel
theorem dX8_whereabouts_52 : decode cX8_whereabouts 52 = .ok (.iload_n 1, 1) := by decide +kernel
theorem dX8_whereabouts_53 : decode cX8_whereabouts 53 = .ok (.invokevirtual 100, 3) := by decide +kernel
theorem dX8_whereabouts_56 : decode cX8_whereabouts 56 = .ok (.ireturn, 1) := by decide +kernel
theorem dX8_whereabouts_57 : decode cX8_whereabouts 57 = .ok (.aload_n 0, 1) := by decide +kernel
theorem dX8_whereabouts_58 : decode cX8_whereabouts 58 = .ok (.getfield 26, 3) := by decide +kernel
theorem dX8_whereabouts_61 : decode cX8_whereabouts 61 = .ok (.iload_n 1, 1) := by decide +kernel
theorem dX8_whereabouts_62 : decode cX8_whereabouts 62 = .ok (.invokevirtual 96, 3) := by decide +kernel
theorem dX8_whereabouts_65 : decode cX8_whereabouts 65 = .ok (.ireturn, 1) := by decide +kernel
theorem dX8_isRefilingDay_0 : decode cX8_isRefilingDay 0 = .ok (.aload_n 0, 1) := by decide +kernel
theorem dX8_isRefilingDay_1 : decode cX8_isRefilingDay 1 = .ok (.getfield 64, 3) := by decide +kernel
theorem dX8_isRefilingDay_4 : decode cX8_isRefilingDay 4 = .ok (.ifCond .le 19, 3) := by decide +kernel
theorem dX8_isRefilingDay_7 : decode cX8_isRefilingDay 7 = .ok (.aload_n 0, 1) := by decide +kernel
theorem dX8_isRefilingDay_8 : decode cX8_isRefilingDay 8 = .ok (.getfield 60, 3) := by decide +kernel
theorem dX8_isRefilingDay_11 : decode cX8_isRefilingDay 11 = .ok (.aload_n 0, 1) := by decide +kernel
theorem dX8_isRefilingDay_12 : decode cX8_isRefilingDay 12 = .ok (.getfield 64, 3) := by decide +kernel
theorem dX8_isRefilingDay_15 : decode cX8_isRefilingDay 15 = .ok (.irem, 1) := by decide +kernel
theorem dX8_isRefilingDay_16 : decode cX8_isRefilingDay 16 = .ok (.ifCond .ne 7, 3) := by decide +kernel
theorem dX8_isRefilingDay_19 : decode cX8_isRefilingDay 19 = .ok (.iconst 1, 1) := by decide +kernel
theorem dX8_isRefilingDay_20 : decode cX8_isRefilingDay 20 = .ok (.goto 4, 3) := by decide +kernel
theorem dX8_isRefilingDay_23 : decode cX8_isRefilingDay 23 = .ok (.iconst 0, 1) := by decide +kernel
theorem dX8_isRefilingDay_24 : decode cX8_isRefilingDay 24 = .ok (.ireturn, 1) := by decide +kernel
theorem dX8_daysToRefiling_0 : decode cX8_daysToRefiling 0 = .ok (.aload_n 0, 1) := by decide +kernel
theorem dX8_daysToRefiling_1 : decode cX8_daysToRefiling 1 = .ok (.getfield 64, 3) := by decide +kernel
theorem dX8_daysToRefiling_4 : decode cX8_daysToRefiling 4 = .ok (.ifCond .le 20, 3) := by decide +kernel
theorem dX8_daysToRefiling_7 : decode cX8_daysToRefiling 7 = .ok (.aload_n 0, 1) := by decide +kernel
theorem dX8_daysToRefiling_8 : decode cX8_daysToRefiling 8 = .ok (.getfield 64, 3) := by decide +kernel
theorem dX8_daysToRefiling_11 : decode cX8_daysToRefiling 11 = .ok (.aload_n 0, 1) := by decide +kernel
theorem dX8_daysToRefiling_12 : decode cX8_daysToRefiling 12 = .ok (.getfield 60, 3) := by decide +kernel
theorem dX8_daysToRefiling_15 : decode cX8_daysToRefiling 15 = .ok (.aload_n 0, 1) := by decide +kernel
theorem dX8_daysToRefiling_16 : decode cX8_daysToRefiling 16 = .ok (.getfield 64, 3) := by decide +kernel
theorem dX8_daysToRefiling_19 : decode cX8_daysToRefiling 19 = .ok (.irem, 1) := by decide +kernel
theorem dX8_daysToRefiling_20 : decode cX8_daysToRefiling 20 = .ok (.isub, 1) := by decide +kernel
theorem dX8_daysToRefiling_21 : decode cX8_daysToRefiling 21 = .ok (.goto 4, 3) := by decide +kernel
theorem dX8_daysToRefiling_24 : decode cX8_daysToRefiling 24 = .ok (.iconst (-1), 1) := by decide +kernel
theorem dX8_daysToRefiling_25 : decode cX8_daysToRefiling 25 = .ok (.ireturn, 1) := by decide +kernel
theorem dX8_idleness_0 : decode cX8_idleness 0 = .ok (.aload_n 0, 1) := by decide +kernel
theorem dX8_idleness_1 : decode cX8_idleness 1 = .ok (.getfield 53, 3) := by decide +kernel
theorem dX8_idleness_4 : decode cX8_idleness 4 = .ok (.getfield 103, 3) := by decide +kernel
theorem dX8_idleness_7 : decode cX8_idleness 7 = .ok (.iload_n 1, 1) := by decide +kernel
theorem dX8_idleness_8 : decode cX8_idleness 8 = .ok (.invokevirtual 96, 3) := by decide +kernel
theorem dX8_idleness_11 : decode cX8_idleness 11 = .ok (.istore_n 2, 1) := by decide +kernel
theorem dX8_idleness_12 : decode cX8_idleness 12 = .ok (.aload_n 0, 1) := by decide +kernel
theorem dX8_idleness_13 : decode cX8_idleness 13 = .ok (.getfield 23, 3) := by decide +kernel
theorem dX8_idleness_16 : decode cX8_idleness 16 = .ok (.iload_n 2, 1) := by decide +kernel
theorem dX8_idleness_17 : decode cX8_idleness 17 = .ok (.invokevirtual 96, 3) := by decide +kernel
theorem dX8_idleness_20 : decode cX8_idleness 20 = .ok (.istore_n 3, 1) := by decide +kernel
theorem dX8_idleness_21 : decode cX8_idleness 21 = .ok (.iload_n 3, 1) := by decide +kernel
theorem dX8_idleness_22 : decode cX8_idleness 22 = .ok (.iconst 1, 1) := by decide +kernel
theorem dX8_idleness_23 : decode cX8_idleness 23 = .ok (.if_icmp .ne 5, 3) := by decide +kernel
theorem dX8_idleness_26 : decode cX8_idleness 26 = .ok (.iconst 1, 1) := by decide +kernel
theorem dX8_idleness_27 : decode cX8_idleness 27 = .ok (.ireturn, 1) := by decide +kernel
theorem dX8_idleness_28 : decode cX8_idleness 28 = .ok (.iload_n 3, 1) := by decide +kernel
theorem dX8_idleness_29 : decode cX8_idleness 29 = .ok (.iconst 2, 1) := by decide +kernel
theorem dX8_idleness_30 : decode cX8_idleness 30 = .ok (.if_icmp .ne 5, 3) := by decide +kernel
theorem dX8_idleness_33 : decode cX8_idleness 33 = .ok (.iconst 2, 1) := by decide +kernel
theorem dX8_idleness_34 : decode cX8_idleness 34 = .ok (.ireturn, 1) := by decide +kernel
theorem dX8_idleness_35 : decode cX8_idleness 35 = .ok (.aload_n 0, 1) := by decide +kernel
theorem dX8_idleness_36 : decode cX8_idleness 36 = .ok (.iload_n 2, 1) := by decide +kernel
theorem dX8_idleness_37 : decode cX8_idleness 37 = .ok (.invokevirtual 104, 3) := by decide +kernel
theorem dX8_idleness_40 : decode cX8_idleness 40 = .ok (.ifCond .eq 5, 3) := by decide +kernel
theorem dX8_idleness_43 : decode cX8_idleness 43 = .ok (.iconst 3, 1) := by decide +kernel
theorem dX8_idleness_44 : decode cX8_idleness 44 = .ok (.ireturn, 1) := by decide +kernel
theorem dX8_idleness_45 : decode cX8_idleness 45 = .ok (.aload_n 0, 1) := by decide +kernel
theorem dX8_idleness_46 : decode cX8_idleness 46 = .ok (.getfield 32, 3) := by decide +kernel
theorem dX8_idleness_49 : decode cX8_idleness 49 = .ok (.aload_n 0, 1) := by decide +kernel
theorem dX8_idleness_50 : decode cX8_idleness 50 = .ok (.getfield 53, 3) := by decide +kernel
theorem dX8_idleness_53 : decode cX8_idleness 53 = .ok (.getfield 108, 3) := by decide +kernel
theorem dX8_idleness_56 : decode cX8_idleness 56 = .ok (.iload_n 1, 1) := by decide +kernel
theorem dX8_idleness_57 : decode cX8_idleness 57 = .ok (.invokevirtual 96, 3) := by decide +kernel
theorem dX8_idleness_60 : decode cX8_idleness 60 = .ok (.invokevirtual 96, 3) := by decide +kernel
theorem dX8_idleness_63 : decode cX8_idleness 63 = .ok (.aload_n 0, 1) := by decide +kernel
theorem dX8_idleness_64 : decode cX8_idleness 64 = .ok (.getfield 70, 3) := by decide +kernel
theorem dX8_idleness_67 : decode cX8_idleness 67 = .ok (.if_icmp .lt 7, 3) := by decide +kernel
theorem dX8_idleness_70 : decode cX8_idleness 70 = .ok (.iconst 4, 1) := by decide +kernel
theorem dX8_idleness_71 : decode cX8_idleness 71 = .ok (.goto 4, 3) := by decide +kernel
theorem dX8_idleness_74 : decode cX8_idleness 74 = .ok (.iconst 0, 1) := by decide +kernel
theorem dX8_idleness_75 : decode cX8_idleness 75 = .ok (.ireturn, 1) := by decide +kernel
theorem dX8_foldersAstray_0 : decode cX8_foldersAstray 0 = .ok (.iconst 0, 1) := by decide +kernel
theorem dX8_foldersAstray_1 : decode cX8_foldersAstray 1 = .ok (.istore_n 1, 1) := by decide +kernel
theorem dX8_foldersAstray_2 : decode cX8_foldersAstray 2 = .ok (.iconst 0, 1) := by decide +kernel
theorem dX8_foldersAstray_3 : decode cX8_foldersAstray 3 = .ok (.istore_n 2, 1) := by decide +kernel
theorem dX8_foldersAstray_4 : decode cX8_foldersAstray 4 = .ok (.iload_n 2, 1) := by decide +kernel
theorem dX8_foldersAstray_5 : decode cX8_foldersAstray 5 = .ok (.aload_n 0, 1) := by decide +kernel
theorem dX8_foldersAstray_6 : decode cX8_foldersAstray 6 = .ok (.getfield 14, 3) := by decide +kernel
theorem dX8_foldersAstray_9 : decode cX8_foldersAstray 9 = .ok (.invokevirtual 83, 3) := by decide +kernel
theorem dX8_foldersAstray_12 : decode cX8_foldersAstray 12 = .ok (.if_icmp .ge 53, 3) := by decide +kernel
theorem dX8_foldersAstray_15 : decode cX8_foldersAstray 15 = .ok (.aload_n 0, 1) := by decide +kernel
theorem dX8_foldersAstray_16 : decode cX8_foldersAstray 16 = .ok (.getfield 43, 3) := by decide +kernel
theorem dX8_foldersAstray_19 : decode cX8_foldersAstray 19 = .ok (.getfield 79, 3) := by decide +kernel
theorem dX8_foldersAstray_22 : decode cX8_foldersAstray 22 = .ok (.iload_n 2, 1) := by decide +kernel
theorem dX8_foldersAstray_23 : decode cX8_foldersAstray 23 = .ok (.invokevirtual 111, 3) := by decide +kernel
theorem dX8_foldersAstray_26 : decode cX8_foldersAstray 26 = .ok (.aload_n 0, 1) := by decide +kernel
theorem dX8_foldersAstray_27 : decode cX8_foldersAstray 27 = .ok (.getfield 47, 3) := by decide +kernel
theorem dX8_foldersAstray_30 : decode cX8_foldersAstray 30 = .ok (.iload_n 2, 1) := by decide +kernel
theorem dX8_foldersAstray_31 : decode cX8_foldersAstray 31 = .ok (.invokevirtual 111, 3) := by decide +kernel
theorem dX8_foldersAstray_34 : decode cX8_foldersAstray 34 = .ok (.iadd, 1) := by decide +kernel
theorem dX8_foldersAstray_35 : decode cX8_foldersAstray 35 = .ok (.istore_n 3, 1) := by decide +kernel
theorem dX8_foldersAstray_36 : decode cX8_foldersAstray 36 = .ok (.aload_n 0, 1) := by decide +kernel
theorem dX8_foldersAstray_37 : decode cX8_foldersAstray 37 = .ok (.getfield 26, 3) := by decide +kernel
theorem dX8_foldersAstray_40 : decode cX8_foldersAstray 40 = .ok (.iload_n 2, 1) := by decide +kernel
theorem dX8_foldersAstray_41 : decode cX8_foldersAstray 41 = .ok (.invokevirtual 96, 3) := by decide +kernel
theorem dX8_foldersAstray_44 : decode cX8_foldersAstray 44 = .ok (.iconst (-1), 1) := by decide +kernel
theorem dX8_foldersAstray_45 : decode cX8_foldersAstray 45 = .ok (.if_icmp .eq 6, 3) := by decide +kernel
theorem dX8_foldersAstray_48 : decode cX8_foldersAstray 48 = .ok (.iinc 3 1, 3) := by decide +kernel
theorem dX8_foldersAstray_51 : decode cX8_foldersAstray 51 = .ok (.iload_n 3, 1) := by decide +kernel
theorem dX8_foldersAstray_52 : decode cX8_foldersAstray 52 = .ok (.iconst 1, 1) := by decide +kernel
theorem dX8_foldersAstray_53 : decode cX8_foldersAstray 53 = .ok (.if_icmp .eq 6, 3) := by decide +kernel
theorem dX8_foldersAstray_56 : decode cX8_foldersAstray 56 = .ok (.iinc 1 1, 3) := by decide +kernel
theorem dX8_foldersAstray_59 : decode cX8_foldersAstray 59 = .ok (.iinc 2 1, 3) := by decide +kernel
theorem dX8_foldersAstray_62 : decode cX8_foldersAstray 62 = .ok (.goto (-58), 3) := by decide +kernel
theorem dX8_foldersAstray_65 : decode cX8_foldersAstray 65 = .ok (.iload_n 1, 1) := by decide +kernel
theorem dX8_foldersAstray_66 : decode cX8_foldersAstray 66 = .ok (.ireturn, 1) := by decide +kernel
theorem dX8_readersAboveLimit_0 : decode cX8_readersAboveLimit 0 = .ok (.iconst 0, 1) := by decide +kernel
theorem dX8_readersAboveLimit_1 : decode cX8_readersAboveLimit 1 = .ok (.istore_n 1, 1) := by decide +kernel
theorem dX8_readersAboveLimit_2 : decode cX8_readersAboveLimit 2 = .ok (.iconst 0, 1) := by decide +kernel
theorem dX8_readersAboveLimit_3 : decode cX8_readersAboveLimit 3 = .ok (.istore_n 2, 1) := by decide +kernel
theorem dX8_readersAboveLimit_4 : decode cX8_readersAboveLimit 4 = .ok (.iload_n 2, 1) := by decide +kernel
theorem dX8_readersAboveLimit_5 : decode cX8_readersAboveLimit 5 = .ok (.aload_n 0, 1) := by decide +kernel
theorem dX8_readersAboveLimit_6 : decode cX8_readersAboveLimit 6 = .ok (.getfield 32, 3) := by decide +kernel
theorem dX8_readersAboveLimit_9 : decode cX8_readersAboveLimit 9 = .ok (.invokevirtual 83, 3) := by decide +kernel
theorem dX8_readersAboveLimit_12 : decode cX8_readersAboveLimit 12 = .ok (.if_icmp .ge 27, 3) := by decide +kernel
theorem dX8_readersAboveLimit_15 : decode cX8_readersAboveLimit 15 = .ok (.aload_n 0, 1) := by decide +kernel
theorem dX8_readersAboveLimit_16 : decode cX8_readersAboveLimit 16 = .ok (.getfield 26, 3) := by decide +kernel
theorem dX8_readersAboveLimit_19 : decode cX8_readersAboveLimit 19 = .ok (.iload_n 2, 1) := by decide +kernel
theorem dX8_readersAboveLimit_20 : decode cX8_readersAboveLimit 20 = .ok (.invokevirtual 111, 3) := by decide +kernel
theorem dX8_readersAboveLimit_23 : decode cX8_readersAboveLimit 23 = .ok (.aload_n 0, 1) := by decide +kernel
theorem dX8_readersAboveLimit_24 : decode cX8_readersAboveLimit 24 = .ok (.getfield 70, 3) := by decide +kernel
theorem dX8_readersAboveLimit_27 : decode cX8_readersAboveLimit 27 = .ok (.if_icmp .le 6, 3) := by decide +kernel
theorem dX8_readersAboveLimit_30 : decode cX8_readersAboveLimit 30 = .ok (.iinc 1 1, 3) := by decide +kernel
theorem dX8_readersAboveLimit_33 : decode cX8_readersAboveLimit 33 = .ok (.iinc 2 1, 3) := by decide +kernel
theorem dX8_readersAboveLimit_36 : decode cX8_readersAboveLimit 36 = .ok (.goto (-32), 3) := by decide +kernel
theorem dX8_readersAboveLimit_39 : decode cX8_readersAboveLimit 39 = .ok (.iload_n 1, 1) := by decide +kernel
theorem dX8_readersAboveLimit_40 : decode cX8_readersAboveLimit 40 = .ok (.ireturn, 1) := by decide +kernel
theorem dX8_slipsForOwnFolders_0 : decode cX8_slipsForOwnFolders 0 = .ok (.iconst 0, 1) := by decide +kernel
theorem dX8_slipsForOwnFolders_1 : decode cX8_slipsForOwnFolders 1 = .ok (.istore_n 1, 1) := by decide +kernel
theorem dX8_slipsForOwnFolders_2 : decode cX8_slipsForOwnFolders 2 = .ok (.iconst 0, 1) := by decide +kernel
theorem dX8_slipsForOwnFolders_3 : decode cX8_slipsForOwnFolders 3 = .ok (.istore_n 2, 1) := by decide +kernel
theorem dX8_slipsForOwnFolders_4 : decode cX8_slipsForOwnFolders 4 = .ok (.iload_n 2, 1) := by decide +kernel
theorem dX8_slipsForOwnFolders_5 : decode cX8_slipsForOwnFolders 5 = .ok (.aload_n 0, 1) := by decide +kernel
theorem dX8_slipsForOwnFolders_6 : decode cX8_slipsForOwnFolders 6 = .ok (.getfield 53, 3) := by decide +kernel
theorem dX8_slipsForOwnFolders_9 : decode cX8_slipsForOwnFolders 9 = .ok (.invokevirtual 114, 3) := by decide +kernel
theorem dX8_slipsForOwnFolders_12 : decode cX8_slipsForOwnFolders 12 = .ok (.if_icmp .ge 44, 3) := by decide +kernel
theorem dX8_slipsForOwnFolders_15 : decode cX8_slipsForOwnFolders 15 = .ok (.aload_n 0, 1) := by decide +kernel
theorem dX8_slipsForOwnFolders_16 : decode cX8_slipsForOwnFolders 16 = .ok (.getfield 26, 3) := by decide +kernel
theorem dX8_slipsForOwnFolders_19 : decode cX8_slipsForOwnFolders 19 = .ok (.aload_n 0, 1) := by decide +kernel
theorem dX8_slipsForOwnFolders_20 : decode cX8_slipsForOwnFolders 20 = .ok (.getfield 53, 3) := by decide +kernel
theorem dX8_slipsForOwnFolders_23 : decode cX8_slipsForOwnFolders 23 = .ok (.getfield 103, 3) := by decide +kernel
theorem dX8_slipsForOwnFolders_26 : decode cX8_slipsForOwnFolders 26 = .ok (.iload_n 2, 1) := by decide +kernel
theorem dX8_slipsForOwnFolders_27 : decode cX8_slipsForOwnFolders 27 = .ok (.invokevirtual 96, 3) := by decide +kernel
theorem dX8_slipsForOwnFolders_30 : decode cX8_slipsForOwnFolders 30 = .ok (.invokevirtual 96, 3) := by decide +kernel
theorem dX8_slipsForOwnFolders_33 : decode cX8_slipsForOwnFolders 33 = .ok (.aload_n 0, 1) := by decide +kernel
theorem dX8_slipsForOwnFolders_34 : decode cX8_slipsForOwnFolders 34 = .ok (.getfield 53, 3) := by decide +kernel
theorem dX8_slipsForOwnFolders_37 : decode cX8_slipsForOwnFolders 37 = .ok (.getfield 108, 3) := by decide +kernel
theorem dX8_slipsForOwnFolders_40 : decode cX8_slipsForOwnFolders 40 = .ok (.iload_n 2, 1) := by decide +kernel
theorem dX8_slipsForOwnFolders_41 : decode cX8_slipsForOwnFolders 41 = .ok (.invokevirtual 96, 3) := by decide +kernel
theorem dX8_slipsForOwnFolders_44 : decode cX8_slipsForOwnFolders 44 = .ok (.if_icmp .ne 6, 3) := by decide +kernel
theorem dX8_slipsForOwnFolders_47 : decode cX8_slipsForOwnFolders 47 = .ok (.iinc 1 1, 3) := by decide +kernel
theorem dX8_slipsForOwnFolders_50 : decode cX8_slipsForOwnFolders 50 = .ok (.iinc 2 1, 3) := by decide +kernel
theorem dX8_slipsForOwnFolders_53 : decode cX8_slipsForOwnFolders 53 = .ok (.goto (-49), 3) := by decide +kernel
theorem dX8_slipsForOwnFolders_56 : decode cX8_slipsForOwnFolders 56 = .ok (.iload_n 1, 1) := by decide +kernel
theorem dX8_slipsForOwnFolders_57 : decode cX8_slipsForOwnFolders 57 = .ok (.ireturn, 1) := by decide +kernel
theorem dX8_refusal_0 : decode cX8_refusal 0 = .ok (.aload_n 0, 1) := by decide +kernel
theorem dX8_refusal_1 : decode cX8_refusal 1 = .ok (.iload_n 1, 1) := by decide +kernel
theorem dX8_refusal_2 : decode cX8_refusal 2 = .ok (.invokevirtual 115, 3) := by decide +kernel
theorem dX8_refusal_5 : decode cX8_refusal 5 = .ok (.ifCond .eq 11, 3) := by decide +kernel
theorem dX8_refusal_8 : decode cX8_refusal 8 = .ok (.aload_n 0, 1) := by decide +kernel
theorem dX8_refusal_9 : decode cX8_refusal 9 = .ok (.iload_n 2, 1) := by decide +kernel
theorem dX8_refusal_10 : decode cX8_refusal 10 = .ok (.invokevirtual 118, 3) := by decide +kernel
theorem dX8_refusal_13 : decode cX8_refusal 13 = .ok (.ifCond .ne 5, 3) := by decide +kernel
theorem dX8_refusal_16 : decode cX8_refusal 16 = .ok (.iconst (-1), 1) := by decide +kernel
theorem dX8_refusal_17 : decode cX8_refusal 17 = .ok (.ireturn, 1) := by decide +kernel
theorem dX8_refusal_18 : decode cX8_refusal 18 = .ok (.aload_n 0, 1) := by decide +kernel
theorem dX8_refusal_19 : decode cX8_refusal 19 = .ok (.getfield 26, 3) := by decide +kernel
theorem dX8_refusal_22 : decode cX8_refusal 22 = .ok (.iload_n 2, 1) := by decide +kernel
theorem dX8_refusal_23 : decode cX8_refusal 23 = .ok (.invokevirtual 96, 3) := by decide +kernel
theorem dX8_refusal_26 : decode cX8_refusal 26 = .ok (.iload_n 1, 1) := by decide +kernel
theorem dX8_refusal_27 : decode cX8_refusal 27 = .ok (.if_icmp .ne 6, 3) := by decide +kernel
theorem dX8_refusal_30 : decode cX8_refusal 30 = .ok (.bipush (-2), 2) := by decide +kernel
theorem dX8_refusal_32 : decode cX8_refusal 32 = .ok (.ireturn, 1) := by decide +kernel
theorem dX8_refusal_33 : decode cX8_refusal 33 = .ok (.aload_n 0, 1) := by decide +kernel
theorem dX8_refusal_34 : decode cX8_refusal 34 = .ok (.getfield 53, 3) := by decide +kernel
theorem dX8_refusal_37 : decode cX8_refusal 37 = .ok (.iload_n 1, 1) := by decide +kernel
theorem dX8_refusal_38 : decode cX8_refusal 38 = .ok (.iload_n 2, 1) := by decide +kernel
theorem dX8_refusal_39 : decode cX8_refusal 39 = .ok (.invokevirtual 121, 3) := by decide +kernel
theorem dX8_refusal_42 : decode cX8_refusal 42 = .ok (.iconst (-1), 1) := by decide +kernel
theorem dX8_refusal_43 : decode cX8_refusal 43 = .ok (.if_icmp .eq 6, 3) := by decide +kernel
theorem dX8_refusal_46 : decode cX8_refusal 46 = .ok (.bipush (-3), 2) := by decide +kernel
theorem dX8_refusal_48 : decode cX8_refusal 48 = .ok (.ireturn, 1) := by decide +kernel
theorem dX8_refusal_49 : decode cX8_refusal 49 = .ok (.aload_n 0, 1) := by decide +kernel
theorem dX8_refusal_50 : decode cX8_refusal 50 = .ok (.getfield 53, 3) := by decide +kernel
theorem dX8_refusal_53 : decode cX8_refusal 53 = .ok (.invokevirtual 114, 3) := by decide +kernel
theorem dX8_refusal_56 : decode cX8_refusal 56 = .ok (.bipush 16, 2) := by decide +kernel
theorem dX8_refusal_58 : decode cX8_refusal 58 = .ok (.if_icmp .lt 8, 3) := by decide +kernel
theorem dX8_refusal_61 : decode cX8_refusal 61 = .ok (.bipush (-4), 2) := by decide +kernel
theorem dX8_refusal_63 : decode cX8_refusal 63 = .ok (.goto 4, 3) := by decide +kernel
theorem dX8_refusal_66 : decode cX8_refusal 66 = .ok (.iconst 0, 1) := by decide +kernel
theorem dX8_refusal_67 : decode cX8_refusal 67 = .ok (.ireturn, 1) := by decide +kernel
theorem dX8_handIn_0 : decode cX8_handIn 0 = .ok (.aload_n 0, 1) := by decide +kernel
theorem dX8_handIn_1 : decode cX8_handIn 1 = .ok (.iload_n 1, 1) := by decide +kernel
theorem dX8_handIn_2 : decode cX8_handIn 2 = .ok (.iload_n 2, 1) := by decide +kernel
theorem dX8_handIn_3 : decode cX8_handIn 3 = .ok (.invokevirtual 125, 3) := by decide +kernel
theorem dX8_handIn_6 : decode cX8_handIn 6 = .ok (.istore_n 3, 1) := by decide +kernel
theorem dX8_handIn_7 : decode cX8_handIn 7 = .ok (.iload_n 3, 1) := by decide +kernel
theorem dX8_handIn_8 : decode cX8_handIn 8 = .ok (.ifCond .eq 5, 3) := by decide +kernel
theorem dX8_handIn_11 : decode cX8_handIn 11 = .ok (.iload_n 3, 1) := by decide +kernel
theorem dX8_handIn_12 : decode cX8_handIn 12 = .ok (.ireturn, 1) := by decide +kernel
theorem dX8_handIn_13 : decode cX8_handIn 13 = .ok (.aload_n 0, 1) := by decide +kernel
theorem dX8_handIn_14 : decode cX8_handIn 14 = .ok (.getfield 53, 3) := by decide +kernel
theorem dX8_handIn_17 : decode cX8_handIn 17 = .ok (.iload_n 1, 1) := by decide +kernel
theorem dX8_handIn_18 : decode cX8_handIn 18 = .ok (.iload_n 2, 1) := by decide +kernel
theorem dX8_handIn_19 : decode cX8_handIn 19 = .ok (.aload_n 0, 1) := by decide +kernel
theorem dX8_handIn_20 : decode cX8_handIn 20 = .ok (.getfield 60, 3) := by decide +kernel
theorem dX8_handIn_23 : decode cX8_handIn 23 = .ok (.invokevirtual 128, 3) := by decide +kernel
theorem dX8_handIn_26 : decode cX8_handIn 26 = .ok (.aload_n 0, 1) := by decide +kernel
theorem dX8_handIn_27 : decode cX8_handIn 27 = .ok (.getfield 57, 3) := by decide +kernel
theorem dX8_handIn_30 : decode cX8_handIn 30 = .ok (.iconst 3, 1) := by decide +kernel
theorem dX8_handIn_31 : decode cX8_handIn 31 = .ok (.iconst 1, 1) := by decide +kernel
theorem dX8_handIn_32 : decode cX8_handIn 32 = .ok (.invokevirtual 131, 3) := by decide +kernel
theorem dX8_handIn_35 : decode cX8_handIn 35 = .ok (.aload_n 0, 1) := by decide +kernel
theorem dX8_handIn_36 : decode cX8_handIn 36 = .ok (.getfield 53, 3) := by decide +kernel
theorem dX8_handIn_39 : decode cX8_handIn 39 = .ok (.invokevirtual 114, 3) := by decide +kernel
theorem dX8_handIn_42 : decode cX8_handIn 42 = .ok (.iconst 1, 1) := by decide +kernel
theorem dX8_handIn_43 : decode cX8_handIn 43 = .ok (.isub, 1) := by decide +kernel
theorem dX8_handIn_44 : decode cX8_handIn 44 = .ok (.ireturn, 1) := by decide +kernel
theorem dX8_takeAway_0 : decode cX8_takeAway 0 = .ok (.aload_n 0, 1) := by decide +kernel
theorem dX8_takeAway_1 : decode cX8_takeAway 1 = .ok (.getfield 53, 3) := by decide +kernel
theorem dX8_takeAway_4 : decode cX8_takeAway 4 = .ok (.iload_n 1, 1) := by decide +kernel
theorem dX8_takeAway_5 : decode cX8_takeAway 5 = .ok (.invokevirtual 135, 3) := by decide +kernel
theorem dX8_takeAway_8 : decode cX8_takeAway 8 = .ok (.ifCond .ne 6, 3) := by decide +kernel
theorem dX8_takeAway_11 : decode cX8_takeAway 11 = .ok (.bipush (-2), 2) := by decide +kernel
theorem dX8_takeAway_13 : decode cX8_takeAway 13 = .ok (.ireturn, 1) := by decide +kernel
theorem dX8_takeAway_14 : decode cX8_takeAway 14 = .ok (.aload_n 0, 1) := by decide +kernel
theorem dX8_takeAway_15 : decode cX8_takeAway 15 = .ok (.getfield 53, 3) := by decide +kernel
theorem dX8_takeAway_18 : decode cX8_takeAway 18 = .ok (.iload_n 1, 1) := by decide +kernel
theorem dX8_takeAway_19 : decode cX8_takeAway 19 = .ok (.invokevirtual 138, 3) := by decide +kernel
theorem dX8_takeAway_22 : decode cX8_takeAway 22 = .ok (.aload_n 0, 1) := by decide +kernel
theorem dX8_takeAway_23 : decode cX8_takeAway 23 = .ok (.getfield 53, 3) := by decide +kernel
theorem dX8_takeAway_26 : decode cX8_takeAway 26 = .ok (.invokevirtual 114, 3) := by decide +kernel
theorem dX8_takeAway_29 : decode cX8_takeAway 29 = .ok (.ireturn, 1) := by decide +kernel
theorem dX8_bringBack_0 : decode cX8_bringBack 0 = .ok (.aload_n 0, 1) := by decide +kernel
theorem dX8_bringBack_1 : decode cX8_bringBack 1 = .ok (.iload_n 1, 1) := by decide +kernel
theorem dX8_bringBack_2 : decode cX8_bringBack 2 = .ok (.invokevirtual 118, 3) := by decide +kernel
theorem dX8_bringBack_5 : decode cX8_bringBack 5 = .ok (.ifCond .ne 5, 3) := by decide +kernel
theorem dX8_bringBack_8 : decode cX8_bringBack 8 = .ok (.iconst (-1), 1) := by decide +kernel
theorem dX8_bringBack_9 : decode cX8_bringBack 9 = .ok (.ireturn, 1) := by decide +kernel
theorem dX8_bringBack_10 : decode cX8_bringBack 10 = .ok (.aload_n 0, 1) := by decide +kernel
theorem dX8_bringBack_11 : decode cX8_bringBack 11 = .ok (.getfield 26, 3) := by decide +kernel
theorem dX8_bringBack_14 : decode cX8_bringBack 14 = .ok (.iload_n 1, 1) := by decide +kernel
theorem dX8_bringBack_15 : decode cX8_bringBack 15 = .ok (.invokevirtual 96, 3) := by decide +kernel
theorem dX8_bringBack_18 : decode cX8_bringBack 18 = .ok (.istore_n 2, 1) := by decide +kernel
theorem dX8_bringBack_19 : decode cX8_bringBack 19 = .ok (.iload_n 2, 1) := by decide +kernel
theorem dX8_bringBack_20 : decode cX8_bringBack 20 = .ok (.iconst (-1), 1) := by decide +kernel
theorem dX8_bringBack_21 : decode cX8_bringBack 21 = .ok (.if_icmp .ne 6, 3) := by decide +kernel
theorem dX8_bringBack_24 : decode cX8_bringBack 24 = .ok (.bipush (-2), 2) := by decide +kernel
theorem dX8_bringBack_26 : decode cX8_bringBack 26 = .ok (.ireturn, 1) := by decide +kernel
theorem dX8_bringBack_27 : decode cX8_bringBack 27 = .ok (.aload_n 0, 1) := by decide +kernel
theorem dX8_bringBack_28 : decode cX8_bringBack 28 = .ok (.getfield 26, 3) := by decide +kernel
theorem dX8_bringBack_31 : decode cX8_bringBack 31 = .ok (.iload_n 1, 1) := by decide +kernel
theorem dX8_bringBack_32 : decode cX8_bringBack 32 = .ok (.iconst (-1), 1) := by decide +kernel
theorem dX8_bringBack_33 : decode cX8_bringBack 33 = .ok (.invokevirtual 141, 3) := by decide +kernel
theorem dX8_bringBack_36 : decode cX8_bringBack 36 = .ok (.aload_n 0, 1) := by decide +kernel
theorem dX8_bringBack_37 : decode cX8_bringBack 37 = .ok (.getfield 32, 3) := by decide +kernel
theorem dX8_bringBack_40 : decode cX8_bringBack 40 = .ok (.iload_n 2, 1) := by decide +kernel
theorem dX8_bringBack_41 : decode cX8_bringBack 41 = .ok (.iconst (-1), 1) := by decide +kernel
theorem dX8_bringBack_42 : decode cX8_bringBack 42 = .ok (.invokevirtual 131, 3) := by decide +kernel
theorem dX8_bringBack_45 : decode cX8_bringBack 45 = .ok (.aload_n 0, 1) := by decide +kernel
theorem dX8_bringBack_46 : decode cX8_bringBack 46 = .ok (.getfield 23, 3) := by decide +kernel
theorem dX8_bringBack_49 : decode cX8_bringBack 49 = .ok (.iload_n 1, 1) := by decide +kernel
theorem dX8_bringBack_50 : decode cX8_bringBack 50 = .ok (.iconst 2, 1) := by decide +kernel
theorem dX8_bringBack_51 : decode cX8_bringBack 51 = .ok (.invokevirtual 141, 3) := by decide +kernel
theorem dX8_bringBack_54 : decode cX8_bringBack 54 = .ok (.aload_n 0, 1) := by decide +kernel
theorem dX8_bringBack_55 : decode cX8_bringBack 55 = .ok (.getfield 47, 3) := by decide +kernel
theorem dX8_bringBack_58 : decode cX8_bringBack 58 = .ok (.iload_n 1, 1) := by decide +kernel
theorem dX8_bringBack_59 : decode cX8_bringBack 59 = .ok (.invokevirtual 87, 3) := by decide +kernel
theorem dX8_bringBack_62 : decode cX8_bringBack 62 = .ok (.iload_n 2, 1) := by decide +kernel
theorem dX8_bringBack_63 : decode cX8_bringBack 63 = .ok (.ireturn, 1) := by decide +kernel
theorem dX8_closeUntil_0 : decode cX8_closeUntil 0 = .ok (.aload_n 0, 1) := by decide +kernel
theorem dX8_closeUntil_1 : decode cX8_closeUntil 1 = .ok (.iload_n 1, 1) := by decide +kernel
theorem dX8_closeUntil_2 : decode cX8_closeUntil 2 = .ok (.invokevirtual 118, 3) := by decide +kernel
theorem dX8_closeUntil_5 : decode cX8_closeUntil 5 = .ok (.ifCond .ne 5, 3) := by decide +kernel
theorem dX8_closeUntil_8 : decode cX8_closeUntil 8 = .ok (.iconst (-1), 1) := by decide +kernel
theorem dX8_closeUntil_9 : decode cX8_closeUntil 9 = .ok (.ireturn, 1) := by decide +kernel
theorem dX8_closeUntil_10 : decode cX8_closeUntil 10 = .ok (.aload_n 0, 1) := by decide +kernel
theorem dX8_closeUntil_11 : decode cX8_closeUntil 11 = .ok (.getfield 20, 3) := by decide +kernel
theorem dX8_closeUntil_14 : decode cX8_closeUntil 14 = .ok (.iload_n 1, 1) := by decide +kernel
theorem dX8_closeUntil_15 : decode cX8_closeUntil 15 = .ok (.invokevirtual 96, 3) := by decide +kernel
theorem dX8_closeUntil_18 : decode cX8_closeUntil 18 = .ok (.istore_n 3, 1) := by decide +kernel
theorem dX8_closeUntil_19 : decode cX8_closeUntil 19 = .ok (.aload_n 0, 1) := by decide +kernel
theorem dX8_closeUntil_20 : decode cX8_closeUntil 20 = .ok (.getfield 20, 3) := by decide +kernel
theorem dX8_closeUntil_23 : decode cX8_closeUntil 23 = .ok (.iload_n 1, 1) := by decide +kernel
theorem dX8_closeUntil_24 : decode cX8_closeUntil 24 = .ok (.iload_n 2, 1) := by decide +kernel
theorem dX8_closeUntil_25 : decode cX8_closeUntil 25 = .ok (.invokevirtual 141, 3) := by decide +kernel
theorem dX8_closeUntil_28 : decode cX8_closeUntil 28 = .ok (.iload_n 3, 1) := by decide +kernel
theorem dX8_closeUntil_29 : decode cX8_closeUntil 29 = .ok (.ireturn, 1) := by decide +kernel
theorem dX8_swapNeighbours_0 : decode cX8_swapNeighbours 0 = .ok (.aload_n 0, 1) := by decide +kernel
theorem dX8_swapNeighbours_1 : decode cX8_swapNeighbours 1 = .ok (.getfield 43, 3) := by decide +kernel
theorem dX8_swapNeighbours_4 : decode cX8_swapNeighbours 4 = .ok (.iload_n 1, 1) := by decide +kernel
theorem dX8_swapNeighbours_5 : decode cX8_swapNeighbours 5 = .ok (.invokevirtual 144, 3) := by decide +kernel
theorem dX8_swapNeighbours_8 : decode cX8_swapNeighbours 8 = .ok (.istore_n 2, 1) := by decide +kernel
theorem dX8_swapNeighbours_9 : decode cX8_swapNeighbours 9 = .ok (.aload_n 0, 1) := by decide +kernel
theorem dX8_swapNeighbours_10 : decode cX8_swapNeighbours 10 = .ok (.getfield 57, 3) := by decide +kernel
theorem dX8_swapNeighbours_13 : decode cX8_swapNeighbours 13 = .ok (.bipush 9, 2) := by decide +kernel
theorem dX8_swapNeighbours_15 : decode cX8_swapNeighbours 15 = .ok (.iload_n 2, 1) := by decide +kernel
theorem dX8_swapNeighbours_16 : decode cX8_swapNeighbours 16 = .ok (.invokevirtual 131, 3) := by decide +kernel
theorem dX8_swapNeighbours_19 : decode cX8_swapNeighbours 19 = .ok (.iload_n 2, 1) := by decide +kernel
theorem dX8_swapNeighbours_20 : decode cX8_swapNeighbours 20 = .ok (.ireturn, 1) := by decide +kernel
theorem dX8_passDays_0 : decode cX8_passDays 0 = .ok (.aload_n 0, 1) := by decide +kernel
theorem dX8_passDays_1 : decode cX8_passDays 1 = .ok (.getfield 60, 3) := by decide +kernel
theorem dX8_passDays_4 : decode cX8_passDays 4 = .ok (.iload_n 1, 1) := by decide +kernel
theorem dX8_passDays_5 : decode cX8_passDays 5 = .ok (.iadd, 1) := by decide +kernel
theorem dX8_passDays_6 : decode cX8_passDays 6 = .ok (.iload_n 2, 1) := by decide +kernel
theorem dX8_passDays_7 : decode cX8_passDays 7 = .ok (.if_icmp .le 6, 3) := by decide +kernel
theorem dX8_passDays_10 : decode cX8_passDays 10 = .ok (.bipush (-2), 2) := by decide +kernel
theorem dX8_passDays_12 : decode cX8_passDays 12 = .ok (.ireturn, 1) := by decide +kernel
theorem dX8_passDays_13 : decode cX8_passDays 13 = .ok (.iconst 0, 1) := by decide +kernel
theorem dX8_passDays_14 : decode cX8_passDays 14 = .ok (.istore_n 3, 1) := by decide +kernel
theorem dX8_passDays_15 : decode cX8_passDays 15 = .ok (.iconst 0, 1) := by decide +kernel
theorem dX8_passDays_16 : decode cX8_passDays 16 = .ok (.istore 4, 2) := by decide +kernel
theorem dX8_passDays_18 : decode cX8_passDays 18 = .ok (.iload 4, 2) := by decide +kernel
theorem dX8_passDays_20 : decode cX8_passDays 20 = .ok (.iload_n 1, 1) := by decide +kernel
theorem dX8_passDays_21 : decode cX8_passDays 21 = .ok (.if_icmp .ge 16, 3) := by decide +kernel
theorem dX8_passDays_24 : decode cX8_passDays 24 = .ok (.iload_n 3, 1) := by decide +kernel
theorem dX8_passDays_25 : decode cX8_passDays 25 = .ok (.aload_n 0, 1) := by decide +kernel
theorem dX8_passDays_26 : decode cX8_passDays 26 = .ok (.invokevirtual 147, 3) := by decide +kernel
theorem dX8_passDays_29 : decode cX8_passDays 29 = .ok (.iadd, 1) := by decide +kernel
theorem dX8_passDays_30 : decode cX8_passDays 30 = .ok (.istore_n 3, 1) := by decide +kernel
theorem dX8_passDays_31 : decode cX8_passDays 31 = .ok (.iinc 4 1, 3) := by decide +kernel
theorem dX8_passDays_34 : decode cX8_passDays 34 = .ok (.goto (-16), 3) := by decide +kernel
theorem dX8_passDays_37 : decode cX8_passDays 37 = .ok (.iload_n 3, 1) := by decide +kernel
theorem dX8_passDays_38 : decode cX8_passDays 38 = .ok (.ireturn, 1) := by decide +kernel
theorem dX8_nextDay_0 : decode cX8_nextDay 0 = .ok (.aload_n 0, 1) := by decide +kernel
theorem dX8_nextDay_1 : decode cX8_nextDay 1 = .ok (.dup, 1) := by decide +kernel
theorem dX8_nextDay_2 : decode cX8_nextDay 2 = .ok (.getfield 60, 3) := by decide +kernel
theorem dX8_nextDay_5 : decode cX8_nextDay 5 = .ok (.iconst 1, 1) := by decide +kernel
theorem dX8_nextDay_6 : decode cX8_nextDay 6 = .ok (.iadd, 1) := by decide +kernel
theorem dX8_nextDay_7 : decode cX8_nextDay 7 = .ok (.putfield 60, 3) := by decide +kernel
theorem dX8_nextDay_10 : decode cX8_nextDay 10 = .ok (.aload_n 0, 1) := by decide +kernel
theorem dX8_nextDay_11 : decode cX8_nextDay 11 = .ok (.invokevirtual 150, 3) := by decide +kernel
theorem dX8_nextDay_14 : decode cX8_nextDay 14 = .ok (.ifCond .eq 7, 3) := by decide +kernel
theorem dX8_nextDay_17 : decode cX8_nextDay 17 = .ok (.aload_n 0, 1) := by decide +kernel
theorem dX8_nextDay_18 : decode cX8_nextDay 18 = .ok (.invokevirtual 154, 3) := by decide +kernel
theorem dX8_nextDay_21 : decode cX8_nextDay 21 = .ok (.iconst 0, 1) := by decide +kernel
theorem dX8_nextDay_22 : decode cX8_nextDay 22 = .ok (.istore_n 1, 1) := by decide +kernel
theorem dX8_nextDay_23 : decode cX8_nextDay 23 = .ok (.iconst 0, 1) := by decide +kernel
theorem dX8_nextDay_24 : decode cX8_nextDay 24 = .ok (.istore_n 2, 1) := by decide +kernel
theorem dX8_nextDay_25 : decode cX8_nextDay 25 = .ok (.iconst 0, 1) := by decide +kernel
theorem dX8_nextDay_26 : decode cX8_nextDay 26 = .ok (.istore_n 3, 1) := by decide +kernel
theorem dX8_nextDay_27 : decode cX8_nextDay 27 = .ok (.aload_n 0, 1) := by decide +kernel
theorem dX8_nextDay_28 : decode cX8_nextDay 28 = .ok (.getfield 53, 3) := by decide +kernel
theorem dX8_nextDay_31 : decode cX8_nextDay 31 = .ok (.invokevirtual 114, 3) := by decide +kernel
theorem dX8_nextDay_34 : decode cX8_nextDay 34 = .ok (.istore 4, 2) := by decide +kernel
theorem dX8_nextDay_36 : decode cX8_nextDay 36 = .ok (.iload 4, 2) := by decide +kernel
theorem dX8_nextDay_38 : decode cX8_nextDay 38 = .ok (.ifCond .le 56, 3) := by decide +kernel
theorem dX8_nextDay_41 : decode cX8_nextDay 41 = .ok (.iload_n 2, 1) := by decide +kernel
theorem dX8_nextDay_42 : decode cX8_nextDay 42 = .ok (.aload_n 0, 1) := by decide +kernel
theorem dX8_nextDay_43 : decode cX8_nextDay 43 = .ok (.getfield 67, 3) := by decide +kernel
theorem dX8_nextDay_46 : decode cX8_nextDay 46 = .ok (.if_icmp .ge 48, 3) := by decide +kernel
theorem dX8_nextDay_49 : decode cX8_nextDay 49 = .ok (.aload_n 0, 1) := by decide +kernel
theorem dX8_nextDay_50 : decode cX8_nextDay 50 = .ok (.iload_n 3, 1) := by decide +kernel
theorem dX8_nextDay_51 : decode cX8_nextDay 51 = .ok (.invokevirtual 157, 3) := by decide +kernel
theorem dX8_nextDay_54 : decode cX8_nextDay 54 = .ok (.ifCond .eq 9, 3) := by decide +kernel
theorem dX8_nextDay_57 : decode cX8_nextDay 57 = .ok (.iinc 3 1, 3) := by decide +kernel
theorem dX8_nextDay_60 : decode cX8_nextDay 60 = .ok (.goto 28, 3) := by decide +kernel
theorem dX8_nextDay_63 : decode cX8_nextDay 63 = .ok (.iinc 2 1, 3) := by decide +kernel
theorem dX8_nextDay_66 : decode cX8_nextDay 66 = .ok (.aload_n 0, 1) := by decide +kernel
theorem dX8_nextDay_67 : decode cX8_nextDay 67 = .ok (.iload_n 3, 1) := by decide +kernel
theorem dX8_nextDay_68 : decode cX8_nextDay 68 = .ok (.invokevirtual 160, 3) := by decide +kernel
theorem dX8_nextDay_71 : decode cX8_nextDay 71 = .ok (.ifCond .eq 14, 3) := by decide +kernel
theorem dX8_nextDay_74 : decode cX8_nextDay 74 = .ok (.aload_n 0, 1) := by decide +kernel
theorem dX8_nextDay_75 : decode cX8_nextDay 75 = .ok (.iload_n 3, 1) := by decide +kernel
theorem dX8_nextDay_76 : decode cX8_nextDay 76 = .ok (.invokevirtual 163, 3) := by decide +kernel
theorem dX8_nextDay_79 : decode cX8_nextDay 79 = .ok (.iinc 1 1, 3) := by decide +kernel
theorem dX8_nextDay_82 : decode cX8_nextDay 82 = .ok (.goto 6, 3) := by decide +kernel
theorem dX8_nextDay_85 : decode cX8_nextDay 85 = .ok (.iinc 3 1, 3) := by decide +kernel
theorem dX8_nextDay_88 : decode cX8_nextDay 88 = .ok (.iinc 4 (-1), 3) := by decide +kernel
theorem dX8_nextDay_91 : decode cX8_nextDay 91 = .ok (.goto (-55), 3) := by decide +kernel
theorem dX8_nextDay_94 : decode cX8_nextDay 94 = .ok (.iload_n 1, 1) := by decide +kernel
theorem dX8_nextDay_95 : decode cX8_nextDay 95 = .ok (.ireturn, 1) := by decide +kernel
theorem dX8_refileTrolley_0 : decode cX8_refileTrolley 0 = .ok (.iconst 0, 1) := by decide +kernel
theorem dX8_refileTrolley_1 : decode cX8_refileTrolley 1 = .ok (.istore_n 1, 1) := by decide +kernel
theorem dX8_refileTrolley_2 : decode cX8_refileTrolley 2 = .ok (.iload_n 1, 1) := by decide +kernel
theorem dX8_refileTrolley_3 : decode cX8_refileTrolley 3 = .ok (.aload_n 0, 1) := by decide +kernel
theorem dX8_refileTrolley_4 : decode cX8_refileTrolley 4 = .ok (.getfield 47, 3) := by decide +kernel
theorem dX8_refileTrolley_7 : decode cX8_refileTrolley 7 = .ok (.invokevirtual 83, 3) := by decide +kernel
theorem dX8_refileTrolley_10 : decode cX8_refileTrolley 10 = .ok (.if_icmp .ge 83, 3) := by decide +kernel
theorem dX8_refileTrolley_13 : decode cX8_refileTrolley 13 = .ok (.aload_n 0, 1) := by decide +kernel
theorem dX8_refileTrolley_14 : decode cX8_refileTrolley 14 = .ok (.getfield 47, 3) := by decide +kernel
theorem dX8_refileTrolley_17 : decode cX8_refileTrolley 17 = .ok (.iload_n 1, 1) := by decide +kernel
theorem dX8_refileTrolley_18 : decode cX8_refileTrolley 18 = .ok (.invokevirtual 96, 3) := by decide +kernel
theorem dX8_refileTrolley_21 : decode cX8_refileTrolley 21 = .ok (.istore_n 2, 1) := by decide +kernel
theorem dX8_refileTrolley_22 : decode cX8_refileTrolley 22 = .ok (.aload_n 0, 1) := by decide +kernel
theorem dX8_refileTrolley_23 : decode cX8_refileTrolley 23 = .ok (.getfield 14, 3) := by decide +kernel
theorem dX8_refileTrolley_26 : decode cX8_refileTrolley 26 = .ok (.iload_n 2, 1) := by decide +kernel
theorem dX8_refileTrolley_27 : decode cX8_refileTrolley 27 = .ok (.invokevirtual 96, 3) := by decide +kernel
theorem dX8_refileTrolley_30 : decode cX8_refileTrolley 30 = .ok (.istore_n 3, 1) := by decide +kernel
theorem dX8_refileTrolley_31 : decode cX8_refileTrolley 31 = .ok (.aload_n 0, 1) := by decide +kernel
theorem dX8_refileTrolley_32 : decode cX8_refileTrolley 32 = .ok (.getfield 43, 3) := by decide +kernel
theorem dX8_refileTrolley_35 : decode cX8_refileTrolley 35 = .ok (.iload_n 3, 1) := by decide +kernel
theorem dX8_refileTrolley_36 : decode cX8_refileTrolley 36 = .ok (.invokevirtual 166, 3) := by decide +kernel
theorem dX8_refileTrolley_39 : decode cX8_refileTrolley 39 = .ok (.pop, 1) := by decide +kernel
theorem dX8_refileTrolley_40 : decode cX8_refileTrolley 40 = .ok (.aload_n 0, 1) := by decide +kernel
theorem dX8_refileTrolley_41 : decode cX8_refileTrolley 41 = .ok (.getfield 57, 3) := by decide +kernel
theorem dX8_refileTrolley_44 : decode cX8_refileTrolley 44 = .ok (.bipush 7, 2) := by decide +kernel
theorem dX8_refileTrolley_46 : decode cX8_refileTrolley 46 = .ok (.aload_n 0, 1) := by decide +kernel
theorem dX8_refileTrolley_47 : decode cX8_refileTrolley 47 = .ok (.getfield 43, 3) := by decide +kernel
theorem dX8_refileTrolley_50 : decode cX8_refileTrolley 50 = .ok (.getfield 169, 3) := by decide +kernel
theorem dX8_refileTrolley_53 : decode cX8_refileTrolley 53 = .ok (.invokevirtual 83, 3) := by decide +kernel
theorem dX8_refileTrolley_56 : decode cX8_refileTrolley 56 = .ok (.invokevirtual 131, 3) := by decide +kernel
theorem dX8_refileTrolley_59 : decode cX8_refileTrolley 59 = .ok (.aload_n 0, 1) := by decide +kernel
theorem dX8_refileTrolley_60 : decode cX8_refileTrolley 60 = .ok (.getfield 43, 3) := by decide +kernel
theorem dX8_refileTrolley_63 : decode cX8_refileTrolley 63 = .ok (.getfield 79, 3) := by decide +kernel
theorem dX8_refileTrolley_66 : decode cX8_refileTrolley 66 = .ok (.aload_n 0, 1) := by decide +kernel
theorem dX8_refileTrolley_67 : decode cX8_refileTrolley 67 = .ok (.getfield 43, 3) := by decide +kernel
theorem dX8_refileTrolley_70 : decode cX8_refileTrolley 70 = .ok (.iload_n 3, 1) := by decide +kernel
theorem dX8_refileTrolley_71 : decode cX8_refileTrolley 71 = .ok (.invokevirtual 172, 3) := by decide +kernel
theorem dX8_refileTrolley_74 : decode cX8_refileTrolley 74 = .ok (.iload_n 2, 1) := by decide +kernel
theorem dX8_refileTrolley_75 : decode cX8_refileTrolley 75 = .ok (.invokevirtual 175, 3) := by decide +kernel
theorem dX8_refileTrolley_78 : decode cX8_refileTrolley 78 = .ok (.aload_n 0, 1) := by decide +kernel
theorem dX8_refileTrolley_79 : decode cX8_refileTrolley 79 = .ok (.getfield 23, 3) := by decide +kernel
theorem dX8_refileTrolley_82 : decode cX8_refileTrolley 82 = .ok (.iload_n 2, 1) := by decide +kernel
theorem dX8_refileTrolley_83 : decode cX8_refileTrolley 83 = .ok (.iconst 0, 1) := by decide +kernel
theorem dX8_refileTrolley_84 : decode cX8_refileTrolley 84 = .ok (.invokevirtual 141, 3) := by decide +kernel
theorem dX8_refileTrolley_87 : decode cX8_refileTrolley 87 = .ok (.iinc 1 1, 3) := by decide +kernel
theorem dX8_refileTrolley_90 : decode cX8_refileTrolley 90 = .ok (.goto (-88), 3) := by decide +kernel
theorem dX8_refileTrolley_93 : decode cX8_refileTrolley 93 = .ok (.aload_n 0, 1) := by decide +kernel
theorem dX8_refileTrolley_94 : decode cX8_refileTrolley 94 = .ok (.getfield 57, 3) := by decide +kernel
theorem dX8_refileTrolley_97 : decode cX8_refileTrolley 97 = .ok (.bipush 8, 2) := by decide +kernel
theorem dX8_refileTrolley_99 : decode cX8_refileTrolley 99 = .ok (.aload_n 0, 1) := by decide +kernel
theorem dX8_refileTrolley_100 : decode cX8_refileTrolley 100 = .ok (.getfield 47, 3) := by decide +kernel
theorem dX8_refileTrolley_103 : decode cX8_refileTrolley 103 = .ok (.invokevirtual 83, 3) := by decide +kernel
theorem dX8_refileTrolley_106 : decode cX8_refileTrolley 106 = .ok (.invokevirtual 131, 3) := by decide +kernel
theorem dX8_refileTrolley_109 : decode cX8_refileTrolley 109 = .ok (.aload_n 0, 1) := by decide +kernel
theorem dX8_refileTrolley_110 : decode cX8_refileTrolley 110 = .ok (.getfield 47, 3) := by decide +kernel
theorem dX8_refileTrolley_113 : decode cX8_refileTrolley 113 = .ok (.invokevirtual 73, 3) := by decide +kernel
theorem dX8_refileTrolley_116 : decode cX8_refileTrolley 116 = .ok (.return_, 1) := by decide +kernel
theorem dX8_isFoundFor_0 : decode cX8_isFoundFor 0 = .ok (.aload_n 0, 1) := by decide +kernel
theorem dX8_isFoundFor_1 : decode cX8_isFoundFor 1 = .ok (.getfield 53, 3) := by decide +kernel
theorem dX8_isFoundFor_4 : decode cX8_isFoundFor 4 = .ok (.getfield 103, 3) := by decide +kernel
theorem dX8_isFoundFor_7 : decode cX8_isFoundFor 7 = .ok (.iload_n 1, 1) := by decide +kernel
theorem dX8_isFoundFor_8 : decode cX8_isFoundFor 8 = .ok (.invokevirtual 96, 3) := by decide +kernel
theorem dX8_isFoundFor_11 : decode cX8_isFoundFor 11 = .ok (.istore_n 2, 1) := by decide +kernel
theorem dX8_isFoundFor_12 : decode cX8_isFoundFor 12 = .ok (.aload_n 0, 1) := by decide +kernel
theorem dX8_isFoundFor_13 : decode cX8_isFoundFor 13 = .ok (.getfield 53, 3) := by decide +kernel
theorem dX8_isFoundFor_16 : decode cX8_isFoundFor 16 = .ok (.getfield 178, 3) := by decide +kernel
theorem dX8_isFoundFor_19 : decode cX8_isFoundFor 19 = .ok (.iload_n 1, 1) := by decide +kernel
theorem dX8_isFoundFor_20 : decode cX8_isFoundFor 20 = .ok (.invokevirtual 96, 3) := by decide +kernel
theorem dX8_isFoundFor_23 : decode cX8_isFoundFor 23 = .ok (.iconst 2, 1) := by decide +kernel
theorem dX8_isFoundFor_24 : decode cX8_isFoundFor 24 = .ok (.if_icmp .lt 34, 3) := by decide +kernel
theorem dX8_isFoundFor_27 : decode cX8_isFoundFor 27 = .ok (.aload_n 0, 1) := by decide +kernel
theorem dX8_isFoundFor_28 : decode cX8_isFoundFor 28 = .ok (.getfield 57, 3) := by decide +kernel
theorem dX8_isFoundFor_31 : decode cX8_isFoundFor 31 = .ok (.bipush 6, 2) := by decide +kernel
theorem dX8_isFoundFor_33 : decode cX8_isFoundFor 33 = .ok (.iconst 1, 1) := by decide +kernel
theorem dX8_isFoundFor_34 : decode cX8_isFoundFor 34 = .ok (.invokevirtual 131, 3) := by decide +kernel
theorem dX8_isFoundFor_37 : decode cX8_isFoundFor 37 = .ok (.aload_n 0, 1) := by decide +kernel
theorem dX8_isFoundFor_38 : decode cX8_isFoundFor 38 = .ok (.getfield 43, 3) := by decide +kernel
theorem dX8_isFoundFor_41 : decode cX8_isFoundFor 41 = .ok (.getfield 79, 3) := by decide +kernel
theorem dX8_isFoundFor_44 : decode cX8_isFoundFor 44 = .ok (.iload_n 2, 1) := by decide +kernel
theorem dX8_isFoundFor_45 : decode cX8_isFoundFor 45 = .ok (.invokevirtual 100, 3) := by decide +kernel
theorem dX8_isFoundFor_48 : decode cX8_isFoundFor 48 = .ok (.iconst (-1), 1) := by decide +kernel
theorem dX8_isFoundFor_49 : decode cX8_isFoundFor 49 = .ok (.if_icmp .eq 7, 3) := by decide +kernel
theorem dX8_isFoundFor_52 : decode cX8_isFoundFor 52 = .ok (.iconst 1, 1) := by decide +kernel
theorem dX8_isFoundFor_53 : decode cX8_isFoundFor 53 = .ok (.goto 4, 3) := by decide +kernel
theorem dX8_isFoundFor_56 : decode cX8_isFoundFor 56 = .ok (.iconst 0, 1) := by decide +kernel
theorem dX8_isFoundFor_57 : decode cX8_isFoundFor 57 = .ok (.ireturn, 1) := by decide +kernel
theorem dX8_isFoundFor_58 : decode cX8_isFoundFor 58 = .ok (.aload_n 0, 1) := by decide +kernel
theorem dX8_isFoundFor_59 : decode cX8_isFoundFor 59 = .ok (.getfield 43, 3) := by decide +kernel
theorem dX8_isFoundFor_62 : decode cX8_isFoundFor 62 = .ok (.aload_n 0, 1) := by decide +kernel
theorem dX8_isFoundFor_63 : decode cX8_isFoundFor 63 = .ok (.getfield 14, 3) := by decide +kernel
theorem dX8_isFoundFor_66 : decode cX8_isFoundFor 66 = .ok (.iload_n 2, 1) := by decide +kernel
theorem dX8_isFoundFor_67 : decode cX8_isFoundFor 67 = .ok (.invokevirtual 96, 3) := by decide +kernel
theorem dX8_isFoundFor_70 : decode cX8_isFoundFor 70 = .ok (.invokevirtual 166, 3) := by decide +kernel
theorem dX8_isFoundFor_73 : decode cX8_isFoundFor 73 = .ok (.iconst (-1), 1) := by decide +kernel
theorem dX8_isFoundFor_74 : decode cX8_isFoundFor 74 = .ok (.if_icmp .eq 7, 3) := by decide +kernel
theorem dX8_isFoundFor_77 : decode cX8_isFoundFor 77 = .ok (.iconst 1, 1) := by decide +kernel
theorem dX8_isFoundFor_78 : decode cX8_isFoundFor 78 = .ok (.goto 4, 3) := by decide +kernel
theorem dX8_isFoundFor_81 : decode cX8_isFoundFor 81 = .ok (.iconst 0, 1) := by decide +kernel
theorem dX8_isFoundFor_82 : decode cX8_isFoundFor 82 = .ok (.istore_n 3, 1) := by decide +kernel
theorem dX8_isFoundFor_83 : decode cX8_isFoundFor 83 = .ok (.aload_n 0, 1) := by decide +kernel
theorem dX8_isFoundFor_84 : decode cX8_isFoundFor 84 = .ok (.getfield 57, 3) := by decide +kernel
theorem dX8_isFoundFor_87 : decode cX8_isFoundFor 87 = .ok (.bipush 7, 2) := by decide +kernel
theorem dX8_isFoundFor_89 : decode cX8_isFoundFor 89 = .ok (.aload_n 0, 1) := by decide +kernel
theorem dX8_isFoundFor_90 : decode cX8_isFoundFor 90 = .ok (.getfield 43, 3) := by decide +kernel
theorem dX8_isFoundFor_93 : decode cX8_isFoundFor 93 = .ok (.getfield 169, 3) := by decide +kernel
theorem dX8_isFoundFor_96 : decode cX8_isFoundFor 96 = .ok (.invokevirtual 83, 3) := by decide +kernel
theorem dX8_isFoundFor_99 : decode cX8_isFoundFor 99 = .ok (.invokevirtual 131, 3) := by decide +kernel
theorem dX8_isFoundFor_102 : decode cX8_isFoundFor 102 = .ok (.iload_n 3, 1) := by decide +kernel
theorem dX8_isFoundFor_103 : decode cX8_isFoundFor 103 = .ok (.ifCond .ne 24, 3) := by decide +kernel
theorem dX8_isFoundFor_106 : decode cX8_isFoundFor 106 = .ok (.aload_n 0, 1) := by decide +kernel
theorem dX8_isFoundFor_107 : decode cX8_isFoundFor 107 = .ok (.getfield 53, 3) := by decide +kernel
theorem dX8_isFoundFor_110 : decode cX8_isFoundFor 110 = .ok (.getfield 178, 3) := by decide +kernel
theorem dX8_isFoundFor_113 : decode cX8_isFoundFor 113 = .ok (.iload_n 1, 1) := by decide +kernel
theorem dX8_isFoundFor_114 : decode cX8_isFoundFor 114 = .ok (.iconst 1, 1) := by decide +kernel
theorem dX8_isFoundFor_115 : decode cX8_isFoundFor 115 = .ok (.invokevirtual 131, 3) := by decide +kernel
theorem dX8_isFoundFor_118 : decode cX8_isFoundFor 118 = .ok (.aload_n 0, 1) := by decide +kernel
theorem dX8_isFoundFor_119 : decode cX8_isFoundFor 119 = .ok (.getfield 57, 3) := by decide +kernel
theorem dX8_isFoundFor_122 : decode cX8_isFoundFor 122 = .ok (.iconst 5, 1) := by decide +kernel
theorem dX8_isFoundFor_123 : decode cX8_isFoundFor 123 = .ok (.iconst 1, 1) := by decide +kernel
theorem dX8_isFoundFor_124 : decode cX8_isFoundFor 124 = .ok (.invokevirtual 131, 3) := by decide +kernel
theorem dX8_isFoundFor_127 : decode cX8_isFoundFor 127 = .ok (.iload_n 3, 1) := by decide +kernel
theorem dX8_isFoundFor_128 : decode cX8_isFoundFor 128 = .ok (.ireturn, 1) := by decide +kernel
theorem dX8_serve_0 : decode cX8_serve 0 = .ok (.aload_n 0, 1) := by decide +kernel
theorem dX8_serve_1 : decode cX8_serve 1 = .ok (.getfield 53, 3) := by decide +kernel
theorem dX8_serve_4 : decode cX8_serve 4 = .ok (.getfield 103, 3) := by decide +kernel
theorem dX8_serve_7 : decode cX8_serve 7 = .ok (.iload_n 1, 1) := by decide +kernel
theorem dX8_serve_8 : decode cX8_serve 8 = .ok (.invokevirtual 96, 3) := by decide +kernel
theorem dX8_serve_11 : decode cX8_serve 11 = .ok (.istore_n 2, 1) := by decide +kernel
theorem dX8_serve_12 : decode cX8_serve 12 = .ok (.aload_n 0, 1) := by decide +kernel
theorem dX8_serve_13 : decode cX8_serve 13 = .ok (.getfield 53, 3) := by decide +kernel
theorem dX8_serve_16 : decode cX8_serve 16 = .ok (.getfield 108, 3) := by decide +kernel
theorem dX8_serve_19 : decode cX8_serve 19 = .ok (.iload_n 1, 1) := by decide +kernel
theorem dX8_serve_20 : decode cX8_serve 20 = .ok (.invokevirtual 96, 3) := by decide +kernel
theorem dX8_serve_23 : decode cX8_serve 23 = .ok (.istore_n 3, 1) := by decide +kernel
theorem dX8_serve_24 : decode cX8_serve 24 = .ok (.aload_n 0, 1) := by decide +kernel
theorem dX8_serve_25 : decode cX8_serve 25 = .ok (.getfield 43, 3) := by decide +kernel
theorem dX8_serve_28 : decode cX8_serve 28 = .ok (.getfield 79, 3) := by decide +kernel
theorem dX8_serve_31 : decode cX8_serve 31 = .ok (.aload_n 0, 1) := by decide +kernel
theorem dX8_serve_32 : decode cX8_serve 32 = .ok (.getfield 43, 3) := by decide +kernel
theorem dX8_serve_35 : decode cX8_serve 35 = .ok (.getfield 79, 3) := by decide +kernel
theorem dX8_serve_38 : decode cX8_serve 38 = .ok (.iload_n 2, 1) := by decide +kernel
theorem dX8_serve_39 : decode cX8_serve 39 = .ok (.invokevirtual 100, 3) := by decide +kernel
theorem dX8_serve_42 : decode cX8_serve 42 = .ok (.invokevirtual 181, 3) := by decide +kernel
theorem dX8_serve_45 : decode cX8_serve 45 = .ok (.aload_n 0, 1) := by decide +kernel
theorem dX8_serve_46 : decode cX8_serve 46 = .ok (.getfield 23, 3) := by decide +kernel
theorem dX8_serve_49 : decode cX8_serve 49 = .ok (.iload_n 2, 1) := by decide +kernel
theorem dX8_serve_50 : decode cX8_serve 50 = .ok (.iconst 1, 1) := by decide +kernel
theorem dX8_serve_51 : decode cX8_serve 51 = .ok (.invokevirtual 141, 3) := by decide +kernel
theorem dX8_serve_54 : decode cX8_serve 54 = .ok (.aload_n 0, 1) := by decide +kernel
theorem dX8_serve_55 : decode cX8_serve 55 = .ok (.getfield 26, 3) := by decide +kernel
theorem dX8_serve_58 : decode cX8_serve 58 = .ok (.iload_n 2, 1) := by decide +kernel
theorem dX8_serve_59 : decode cX8_serve 59 = .ok (.iload_n 3, 1) := by decide +kernel
theorem dX8_serve_60 : decode cX8_serve 60 = .ok (.invokevirtual 141, 3) := by decide +kernel
theorem dX8_serve_63 : decode cX8_serve 63 = .ok (.aload_n 0, 1) := by decide +kernel
theorem dX8_serve_64 : decode cX8_serve 64 = .ok (.getfield 29, 3) := by decide +kernel
theorem dX8_serve_67 : decode cX8_serve 67 = .ok (.iload_n 2, 1) := by decide +kernel
theorem dX8_serve_68 : decode cX8_serve 68 = .ok (.iconst 1, 1) := by decide +kernel
theorem dX8_serve_69 : decode cX8_serve 69 = .ok (.invokevirtual 131, 3) := by decide +kernel
theorem dX8_serve_72 : decode cX8_serve 72 = .ok (.aload_n 0, 1) := by decide +kernel
theorem dX8_serve_73 : decode cX8_serve 73 = .ok (.getfield 32, 3) := by decide +kernel
theorem dX8_serve_76 : decode cX8_serve 76 = .ok (.iload_n 3, 1) := by decide +kernel
theorem dX8_serve_77 : decode cX8_serve 77 = .ok (.iconst 1, 1) := by decide +kernel
theorem dX8_serve_78 : decode cX8_serve 78 = .ok (.invokevirtual 131, 3) := by decide +kernel
theorem dX8_serve_81 : decode cX8_serve 81 = .ok (.aload_n 0, 1) := by decide +kernel
theorem dX8_serve_82 : decode cX8_serve 82 = .ok (.getfield 35, 3) := by decide +kernel
theorem dX8_serve_85 : decode cX8_serve 85 = .ok (.iload_n 3, 1) := by decide +kernel
theorem dX8_serve_86 : decode cX8_serve 86 = .ok (.iconst 1, 1) := by decide +kernel
theorem dX8_serve_87 : decode cX8_serve 87 = .ok (.invokevirtual 131, 3) := by decide +kernel
theorem dX8_serve_90 : decode cX8_serve 90 = .ok (.aload_n 0, 1) := by decide +kernel
theorem dX8_serve_91 : decode cX8_serve 91 = .ok (.getfield 57, 3) := by decide +kernel
theorem dX8_serve_94 : decode cX8_serve 94 = .ok (.iconst 4, 1) := by decide +kernel
theorem dX8_serve_95 : decode cX8_serve 95 = .ok (.iconst 1, 1) := by decide +kernel
theorem dX8_serve_96 : decode cX8_serve 96 = .ok (.invokevirtual 131, 3) := by decide +kernel
theorem dX8_serve_99 : decode cX8_serve 99 = .ok (.aload_n 0, 1) := by decide +kernel
theorem dX8_serve_100 : decode cX8_serve 100 = .ok (.getfield 57, 3) := by decide +kernel
theorem dX8_serve_103 : decode cX8_serve 103 = .ok (.bipush 10, 2) := by decide +kernel
theorem dX8_serve_105 : decode cX8_serve 105 = .ok (.aload_n 0, 1) := by decide +kernel
theorem dX8_serve_106 : decode cX8_serve 106 = .ok (.getfield 60, 3) := by decide +kernel
theorem dX8_serve_109 : decode cX8_serve 109 = .ok (.aload_n 0, 1) := by decide +kernel
theorem dX8_serve_110 : decode cX8_serve 110 = .ok (.getfield 53, 3) := by decide +kernel
theorem dX8_serve_113 : decode cX8_serve 113 = .ok (.getfield 182, 3) := by decide +kernel
theorem dX8_serve_116 : decode cX8_serve 116 = .ok (.iload_n 1, 1) := by decide +kernel
theorem dX8_serve_117 : decode cX8_serve 117 = .ok (.invokevirtual 96, 3) := by decide +kernel
theorem dX8_serve_120 : decode cX8_serve 120 = .ok (.isub, 1) := by decide +kernel
theorem dX8_serve_121 : decode cX8_serve 121 = .ok (.invokevirtual 131, 3) := by decide +kernel
theorem dX8_serve_124 : decode cX8_serve 124 = .ok (.aload_n 0, 1) := by decide +kernel
theorem dX8_serve_125 : decode cX8_serve 125 = .ok (.getfield 53, 3) := by decide +kernel
theorem dX8_serve_128 : decode cX8_serve 128 = .ok (.iload_n 1, 1) := by decide +kernel
theorem dX8_serve_129 : decode cX8_serve 129 = .ok (.invokevirtual 138, 3) := by decide +kernel
theorem dX8_serve_132 : decode cX8_serve 132 = .ok (.return_, 1) := by decide +kernel
theorem dX9_init_0 : decode cX9_init 0 = .ok (.aload_n 0, 1) := by decide +kernel
theorem dX9_init_1 : decode cX9_init 1 = .ok (.invokespecial 1, 3) := by decide +kernel
theorem dX9_init_4 : decode cX9_init 4 = .ok (.aload_n 0, 1) := by decide +kernel
theorem dX9_init_5 : decode cX9_init 5 = .ok (.iconst 0, 1) := by decide +kernel
theorem dX9_init_6 : decode cX9_init 6 = .ok (.putfield 7, 3) := by decide +kernel
theorem dX9_init_9 : decode cX9_init 9 = .ok (.aload_n 0, 1) := by decide +kernel
theorem dX9_init_10 : decode cX9_init 10 = .ok (.iconst 0, 1) := by decide +kernel
theorem dX9_init_11 : decode cX9_init 11 = .ok (.putfield 13, 3) := by decide +kernel
theorem dX9_init_14 : decode cX9_init 14 = .ok (.aload_n 0, 1) := by decide +kernel
theorem dX9_init_15 : decode cX9_init 15 = .ok (.iconst 0, 1) := by decide +kernel
theorem dX9_init_16 : decode cX9_init 16 = .ok (.putfield 16, 3) := by decide +kernel
theorem dX9_init_19 : decode cX9_init 19 = .ok (.aload_n 0, 1) := by decide +kernel
theorem dX9_init_20 : decode cX9_init 20 = .ok (.iconst 0, 1) := by decide +kernel
theorem dX9_init_21 : decode cX9_init 21 = .ok (.putfield 19, 3) := by decide +kernel
theorem dX9_init_24 : decode cX9_init 24 = .ok (.aload_n 0, 1) := by decide +kernel
theorem dX9_init_25 : decode cX9_init 25 = .ok (.iconst 0, 1) := by decide +kernel
theorem dX9_init_26 : decode cX9_init 26 = .ok (.putfield 22, 3) := by decide +kernel
theorem dX9_init_29 : decode cX9_init 29 = .ok (.aload_n 0, 1) := by decide +kernel
theorem dX9_init_30 : decode cX9_init 30 = .ok (.aload_n 1, 1) := by decide +kernel
theorem dX9_init_31 : decode cX9_init 31 = .ok (.putfield 25, 3) := by decide +kernel
theorem dX9_init_34 : decode cX9_init 34 = .ok (.return_, 1) := by decide +kernel
theorem dX9_begin_0 : decode cX9_begin 0 = .ok (.aload_n 0, 1) := by decide +kernel
theorem dX9_begin_1 : decode cX9_begin 1 = .ok (.iload_n 1, 1) := by decide +kernel
theorem dX9_begin_2 : decode cX9_begin 2 = .ok (.putfield 7, 3) := by decide +kernel
theorem dX9_begin_5 : decode cX9_begin 5 = .ok (.aload_n 0, 1) := by decide +kernel
theorem dX9_begin_6 : decode cX9_begin 6 = .ok (.iconst 0, 1) := by decide +kernel
theorem dX9_begin_7 : decode cX9_begin 7 = .ok (.putfield 13, 3) := by decide +kernel
theorem dX9_begin_10 : decode cX9_begin 10 = .ok (.return_, 1) := by decide +kernel
theorem dX9_start_0 : decode cX9_start 0 = .ok (.aload_n 0, 1) := by decide +kernel
theorem dX9_start_1 : decode cX9_start 1 = .ok (.getfield 16, 3) := by decide +kernel
theorem dX9_start_4 : decode cX9_start 4 = .ok (.ireturn, 1) := by decide +kernel
theorem dX9_kind_0 : decode cX9_kind 0 = .ok (.aload_n 0, 1) := by decide +kernel
theorem dX9_kind_1 : decode cX9_kind 1 = .ok (.getfield 19, 3) := by decide +kernel
theorem dX9_kind_4 : decode cX9_kind 4 = .ok (.ireturn, 1) := by decide +kernel
theorem dX9_value_0 : decode cX9_value 0 = .ok (.aload_n 0, 1) := by decide +kernel
theorem dX9_value_1 : decode cX9_value 1 = .ok (.getfield 22, 3) := by decide +kernel
theorem dX9_value_4 : decode cX9_value 4 = .ok (.ireturn, 1) := by decide +kernel
theorem dX9_next_0 : decode cX9_next 0 = .ok (.aload_n 0, 1) := by decide +kernel
theorem dX9_next_1 : decode cX9_next 1 = .ok (.getfield 13, 3) := by decide +kernel
theorem dX9_next_4 : decode cX9_next 4 = .ok (.aload_n 0, 1) := by decide +kernel
theorem dX9_next_5 : decode cX9_next 5 = .ok (.getfield 7, 3) := by decide +kernel
theorem dX9_next_8 : decode cX9_next 8 = .ok (.if_icmp .ge 33, 3) := by decide +kernel
theorem dX9_next_11 : decode cX9_next 11 = .ok (.aload_n 0, 1) := by decide +kernel
theorem dX9_next_12 : decode cX9_next 12 = .ok (.getfield 25, 3) := by decide +kernel
theorem dX9_next_15 : decode cX9_next 15 = .ok (.aload_n 0, 1) := by decide +kernel
theorem dX9_next_16 : decode cX9_next 16 = .ok (.getfield 13, 3) := by decide +kernel
theorem dX9_next_19 : decode cX9_next 19 = .ok (.invokevirtual 29, 3) := by decide +kernel
theorem dX9_next_22 : decode cX9_next 22 = .ok (.invokestatic 35, 3) := by decide +kernel
theorem dX9_next_25 : decode cX9_next 25 = .ok (.ifCond .eq 16, 3) := by decide +kernel
theorem dX9_next_28 : decode cX9_next 28 = .ok (.aload_n 0, 1) := by decide +kernel
theorem dX9_next_29 : decode cX9_next 29 = .ok (.dup, 1) := by decide +kernel
theorem dX9_next_30 : decode cX9_next 30 = .ok (.getfield 13, 3) := by decide +kernel
theorem dX9_next_33 : decode cX9_next 33 = .ok (.iconst 1, 1) := by decide +kernel
theorem dX9_next_34 : decode cX9_next 34 = .ok (.iadd, 1) := by decide +kernel
theorem dX9_next_35 : decode cX9_next 35 = .ok (.putfield 13, 3) := by decide +kernel
theorem dX9_next_38 : decode cX9_next 38 = .ok (.goto (-38), 3) := by decide +kernel
theorem dX9_next_41 : decode cX9_next 41 = .ok (.aload_n 0, 1) := by decide +kernel
theorem dX9_next_42 : decode cX9_next 42 = .ok (.aload_n 0, 1) := by decide +kernel
theorem dX9_next_43 : decode cX9_next 43 = .ok (.getfield 13, 3) := by decide +kernel
theorem dX9_next_46 : decode cX9_next 46 = .ok (.putfield 16, 3) := by decide +kernel
theorem dX9_next_49 : decode cX9_next 49 = .ok (.aload_n 0, 1) := by decide +kernel
theorem dX9_next_50 : decode cX9_next 50 = .ok (.getfield 13, 3) := by decide +kernel
theorem dX9_next_53 : decode cX9_next 53 = .ok (.aload_n 0, 1) := by decide +kernel
theorem dX9_next_54 : decode cX9_next 54 = .ok (.getfield 7, 3) := by decide +kernel
theorem dX9_next_57 : decode cX9_next 57 = .ok (.if_icmp .lt 9, 3) := by decide +kernel
theorem dX9_next_60 : decode cX9_next 60 = .ok (.aload_n 0, 1) := by decide +kernel
theorem dX9_next_61 : decode cX9_next 61 = .ok (.iconst 0, 1) := by decide +kernel
theorem dX9_next_62 : decode cX9_next 62 = .ok (.putfield 19, 3) := by decide +kernel
theorem dX9_next_65 : decode cX9_next 65 = .ok (.return_, 1) := by decide +kernel
theorem dX9_next_66 : decode cX9_next 66 = .ok (.aload_n 0, 1) := by decide +kernel
theorem dX9_next_67 : decode cX9_next 67 = .ok (.getfield 25, 3) := by decide +kernel
theorem dX9_next_70 : decode cX9_next 70 = .ok (.aload_n 0, 1) := by decide +kernel
theorem dX9_next_71 : decode cX9_next 71 = .ok (.getfield 13, 3) := by decide +kernel
theorem dX9_next_74 : decode cX9_next 74 = .ok (.invokevirtual 29, 3) := by decide +kernel
theorem dX9_next_77 : decode cX9_next 77 = .ok (.istore_n 1, 1) := by decide +kernel
theorem dX9_next_78 : decode cX9_next 78 = .ok (.iload_n 1, 1) := by decide +kernel
theorem dX9_next_79 : decode cX9_next 79 = .ok (.invokestatic 39, 3) := by decide +kernel
theorem dX9_next_82 : decode cX9_next 82 = .ok (.ifCond .eq 10, 3) := by decide +kernel
theorem dX9_next_85 : decode cX9_next 85 = .ok (.aload_n 0, 1) := by decide +kernel
theorem dX9_next_86 : decode cX9_next 86 = .ok (.invokevirtual 42, 3) := by decide +kernel
theorem dX9_next_89 : decode cX9_next 89 = .ok (.goto 42, 3) := by decide +kernel
theorem dX9_next_92 : decode cX9_next 92 = .ok (.iload_n 1, 1) := by decide +kernel
theorem dX9_next_93 : decode cX9_next 93 = .ok (.invokestatic 45, 3) := by decide +kernel
theorem dX9_next_96 : decode cX9_next 96 = .ok (.ifCond .eq 10, 3) := by decide +kernel
theorem dX9_next_99 : decode cX9_next 99 = .ok (.aload_n 0, 1) := by decide +kernel
theorem dX9_next_100 : decode cX9_next 100 = .ok (.invokevirtual 48, 3) := by decide +kernel
theorem dX9_next_103 : decode cX9_next 103 = .ok (.goto 28, 3) := by decide +kernel
theorem dX9_next_106 : decode cX9_next 106 = .ok (.aload_n 0, 1) := by decide +kernel
theorem dX9_next_107 : decode cX9_next 107 = .ok (.iload_n 1, 1) := by decide +kernel
theorem dX9_next_108 : decode cX9_next 108 = .ok (.bipush 59, 2) := by decide +kernel
theorem dX9_next_110 : decode cX9_next 110 = .ok (.if_icmp .ne 7, 3) := by decide +kernel
theorem dX9_next_113 : decode cX9_next 113 = .ok (.iconst 3, 1) := by decide +kernel
theorem dX9_next_114 : decode cX9_next 114 = .ok (.goto 4, 3) := by decide +kernel
theorem dX9_next_117 : decode cX9_next 117 = .ok (.iconst 4, 1) := by decide +kernel
theorem dX9_next_118 : decode cX9_next 118 = .ok (.putfield 19, 3) := by decide +kernel
theorem dX9_next_121 : decode cX9_next 121 = .ok (.aload_n 0, 1) := by decide +kernel
theorem dX9_next_122 : decode cX9_next 122 = .ok (.dup, 1) := by decide +kernel
theorem dX9_next_123 : decode cX9_next 123 = .ok (.getfield 13, 3) := by decide +kernel
theorem dX9_next_126 : decode cX9_next 126 = .ok (.iconst 1, 1) := by decide +kernel
theorem dX9_next_127 : decode cX9_next 127 = .ok (.iadd, 1) := by decide +kernel
theorem dX9_next_128 : decode cX9_next 128 = .ok (.putfield 13, 3) := by decide +kernel
theorem dX9_next_131 : decode cX9_next 131 = .ok (.return_, 1) := by decide +kernel
theorem dX9_isWord_0 : decode cX9_isWord 0 = .ok (.aload_n 0, 1) := by decide +kernel
theorem dX9_isWord_1 : decode cX9_isWord 1 = .ok (.getfield 19, 3) := by decide +kernel
theorem dX9_isWord_4 : decode cX9_isWord 4 = .ok (.iconst 1, 1) := by decide +kernel
theorem dX9_isWord_5 : decode cX9_isWord 5 = .ok (.if_icmp .ne 19, 3) := by decide +kernel
theorem dX9_isWord_8 : decode cX9_isWord 8 = .ok (.aload_n 0, 1) := by decide +kernel
theorem dX9_isWord_9 : decode cX9_isWord 9 = .ok (.getfield 13, 3) := by decide +kernel
theorem dX9_isWord_12 : decode cX9_isWord 12 = .ok (.aload_n 0, 1) := by decide +kernel
theorem dX9_isWord_13 : decode cX9_isWord 13 = .ok (.getfield 16, 3) := by decide +kernel
theorem dX9_isWord_16 : decode cX9_isWord 16 = .ok (.isub, 1) := by decide +kernel
theorem dX9_isWord_17 : decode cX9_isWord 17 = .ok (.aload_n 1, 1) := by decide +kernel
theorem dX9_isWord_18 : decode cX9_isWord 18 = .ok (.invokevirtual 51, 3) := by decide +kernel
theorem dX9_isWord_21 : decode cX9_isWord 21 = .ok (.if_icmp .eq 5, 3) := by decide +kernel
theorem dX9_isWord_24 : decode cX9_isWord 24 = .ok (.iconst 0, 1) := by decide +kernel
theorem dX9_isWord_25 : decode cX9_isWord 25 = .ok (.ireturn, 1) := by decide +kernel
theorem dX9_isWord_26 : decode cX9_isWord 26 = .ok (.iconst 0, 1) := by decide +kernel
theorem dX9_isWord_27 : decode cX9_isWord 27 = .ok (.istore_n 2, 1) := by decide +kernel
theorem dX9_isWord_28 : decode cX9_isWord 28 = .ok (.iload_n 2, 1) := by decide +kernel
theorem dX9_isWord_29 : decode cX9_isWord 29 = .ok (.aload_n 1, 1) := by decide +kernel
theorem dX9_isWord_30 : decode cX9_isWord 30 = .ok (.invokevirtual 51, 3) := by decide +kernel
theorem dX9_isWord_33 : decode cX9_isWord 33 = .ok (.if_icmp .ge 32, 3) := by decide +kernel
theorem dX9_isWord_36 : decode cX9_isWord 36 = .ok (.aload_n 0, 1) := by decide +kernel
theorem dX9_isWord_37 : decode cX9_isWord 37 = .ok (.getfield 25, 3) := by decide +kernel
theorem dX9_isWord_40 : decode cX9_isWord 40 = .ok (.aload_n 0, 1) := by decide +kernel
theorem dX9_isWord_41 : decode cX9_isWord 41 = .ok (.getfield 16, 3) := by decide +kernel
theorem dX9_isWord_44 : decode cX9_isWord 44 = .ok (.iload_n 2, 1) := by decide +kernel
theorem dX9_isWord_45 : decode cX9_isWord 45 = .ok (.iadd, 1) := by decide +kernel
theorem dX9_isWord_46 : decode cX9_isWord 46 = .ok (.invokevirtual 29, 3) := by decide +kernel
theorem dX9_isWord_49 : decode cX9_isWord 49 = .ok (.aload_n 1, 1) := by decide +kernel
theorem dX9_isWord_50 : decode cX9_isWord 50 = .ok (.iload_n 2, 1) := by decide +kernel
theorem dX9_isWord_51 : decode cX9_isWord 51 = .ok (.invokevirtual 56, 3) := by decide +kernel
theorem dX9_isWord_54 : decode cX9_isWord 54 = .ok (.if_icmp .eq 5, 3) := by decide +kernel
theorem dX9_isWord_57 : decode cX9_isWord 57 = .ok (.iconst 0, 1) := by decide +kernel
theorem dX9_isWord_58 : decode cX9_isWord 58 = .ok (.ireturn, 1) := by decide +kernel
theorem dX9_isWord_59 : decode cX9_isWord 59 = .ok (.iinc 2 1, 3) := by decide +kernel
theorem dX9_isWord_62 : decode cX9_isWord 62 = .ok (.goto (-34), 3) := by decide +kernel
theorem dX9_isWord_65 : decode cX9_isWord 65 = .ok (.iconst 1, 1) := by decide +kernel
theorem dX9_isWord_66 : decode cX9_isWord 66 = .ok (.ireturn, 1) := by decide +kernel
theorem dX9_readWord_0 : decode cX9_readWord 0 = .ok (.aload_n 0, 1) := by decide +kernel
theorem dX9_readWord_1 : decode cX9_readWord 1 = .ok (.iconst 1, 1) := by decide +kernel
theorem dX9_readWord_2 : decode cX9_readWord 2 = .ok (.putfield 19, 3) := by decide +kernel
theorem dX9_readWord_5 : decode cX9_readWord 5 = .ok (.aload_n 0, 1) := by decide +kernel
theorem dX9_readWord_6 : decode cX9_readWord 6 = .ok (.getfield 13, 3) := by decide +kernel
theorem dX9_readWord_9 : decode cX9_readWord 9 = .ok (.aload_n 0, 1) := by decide +kernel
theorem dX9_readWord_10 : decode cX9_readWord 10 = .ok (.getfield 7, 3) := by decide +kernel
theorem dX9_readWord_13 : decode cX9_readWord 13 = .ok (.if_icmp .ge 33, 3) := by decide +kernel
theorem dX9_readWord_16 : decode cX9_readWord 16 = .ok (.aload_n 0, 1) := by decide +kernel
theorem dX9_readWord_17 : decode cX9_readWord 17 = .ok (.getfield 25, 3) := by decide +kernel
theorem dX9_readWord_20 : decode cX9_readWord 20 = .ok (.aload_n 0, 1) := by decide +kernel
theorem dX9_readWord_21 : decode cX9_readWord 21 = .ok (.getfield 13, 3) := by decide +kernel
theorem dX9_readWord_24 : decode cX9_readWord 24 = .ok (.invokevirtual 29, 3) := by decide +kernel
theorem dX9_readWord_27 : decode cX9_readWord 27 = .ok (.invokestatic 39, 3) := by decide +kernel
theorem dX9_readWord_30 : decode cX9_readWord 30 = .ok (.ifCond .eq 16, 3) := by decide +kernel
theorem dX9_readWord_33 : decode cX9_readWord 33 = .ok (.aload_n 0, 1) := by decide +kernel
theorem dX9_readWord_34 : decode cX9_readWord 34 = .ok (.dup, 1) := by decide +kernel
theorem dX9_readWord_35 : decode cX9_readWord 35 = .ok (.getfield 13, 3) := by decide +kernel
theorem dX9_readWord_38 : decode cX9_readWord 38 = .ok (.iconst 1, 1) := by decide +kernel
theorem dX9_readWord_39 : decode cX9_readWord 39 = .ok (.iadd, 1) := by decide +kernel
theorem dX9_readWord_40 : decode cX9_readWord 40 = .ok (.putfield 13, 3) := by decide +kernel
theorem dX9_readWord_43 : decode cX9_readWord 43 = .ok (.goto (-38), 3) := by decide +kernel
theorem dX9_readWord_46 : decode cX9_readWord 46 = .ok (.return_, 1) := by decide +kernel
theorem dX9_readNumber_0 : decode cX9_readNumber 0 = .ok (.aload_n 0, 1) := by decide +kernel
theorem dX9_readNumber_1 : decode cX9_readNumber 1 = .ok (.iconst 2, 1) := by decide +kernel
theorem dX9_readNumber_2 : decode cX9_readNumber 2 = .ok (.putfield 19, 3) := by decide +kernel
theorem dX9_readNumber_5 : decode cX9_readNumber 5 = .ok (.aload_n 0, 1) := by decide +kernel
theorem dX9_readNumber_6 : decode cX9_readNumber 6 = .ok (.iconst 0, 1) := by decide +kernel
theorem dX9_readNumber_7 : decode cX9_readNumber 7 = .ok (.putfield 22, 3) := by decide +kernel
theorem dX9_readNumber_10 : decode cX9_readNumber 10 = .ok (.aload_n 0, 1) := by decide +kernel
theorem dX9_readNumber_11 : decode cX9_readNumber 11 = .ok (.getfield 13, 3) := by decide +kernel
theorem dX9_readNumber_14 : decode cX9_readNumber 14 = .ok (.aload_n 0, 1) := by decide +kernel
theorem dX9_readNumber_15 : decode cX9_readNumber 15 = .ok (.getfield 7, 3) := by decide +kernel
theorem dX9_readNumber_18 : decode cX9_readNumber 18 = .ok (.if_icmp .ge 64, 3) := by decide +kernel
theorem dX9_readNumber_21 : decode cX9_readNumber 21 = .ok (.aload_n 0, 1) := by decide +kernel
theorem dX9_readNumber_22 : decode cX9_readNumber 22 = .ok (.getfield 25, 3) := by decide +kernel
theorem dX9_readNumber_25 : decode cX9_readNumber 25 = .ok (.aload_n 0, 1) := by decide +kernel
theorem dX9_readNumber_26 : decode cX9_readNumber 26 = .ok (.getfield 13, 3) := by decide +kernel
theorem dX9_readNumber_29 : decode cX9_readNumber 29 = .ok (.invokevirtual 29, 3) := by decide +kernel
theorem dX9_readNumber_32 : decode cX9_readNumber 32 = .ok (.invokestatic 45, 3) := by decide +kernel
theorem dX9_readNumber_35 : decode cX9_readNumber 35 = .ok (.ifCond .eq 47, 3) := by decide +kernel
theorem dX9_readNumber_38 : decode cX9_readNumber 38 = .ok (.aload_n 0, 1) := by decide +kernel
theorem dX9_readNumber_39 : decode cX9_readNumber 39 = .ok (.ldc 60, 2) := by decide +kernel
theorem dX9_readNumber_41 : decode cX9_readNumber 41 = .ok (.aload_n 0, 1) := by decide +kernel
theorem dX9_readNumber_42 : decode cX9_readNumber 42 = .ok (.getfield 22, 3) := by decide +kernel
theorem dX9_readNumber_45 : decode cX9_readNumber 45 = .ok (.bipush 10, 2) := by decide +kernel
theorem dX9_readNumber_47 : decode cX9_readNumber 47 = .ok (.imul, 1) := by decide +kernel
theorem dX9_readNumber_48 : decode cX9_readNumber 48 = .ok (.aload_n 0, 1) := by decide +kernel
theorem dX9_readNumber_49 : decode cX9_readNumber 49 = .ok (.getfield 25, 3) := by decide +kernel
theorem dX9_readNumber_52 : decode cX9_readNumber 52 = .ok (.aload_n 0, 1) := by decide +kernel
theorem dX9_readNumber_53 : decode cX9_readNumber 53 = .ok (.getfield 13, 3) := by decide +kernel
theorem dX9_readNumber_56 : decode cX9_readNumber 56 = .ok (.invokevirtual 29, 3) := by decide +kernel
theorem dX9_readNumber_59 : decode cX9_readNumber 59 = .ok (.iadd, 1) := by decide +kernel
theorem dX9_readNumber_60 : decode cX9_readNumber 60 = .ok (.bipush 48, 2) := by decide +kernel
theorem dX9_readNumber_62 : decode cX9_readNumber 62 = .ok (.isub, 1) := by decide +kernel
theorem dX9_readNumber_63 : decode cX9_readNumber 63 = .ok (.invokestatic 61, 3) := by decide +kernel
theorem dX9_readNumber_66 : decode cX9_readNumber 66 = .ok (.putfield 22, 3) := by decide +kernel
theorem dX9_readNumber_69 : decode cX9_readNumber 69 = .ok (.aload_n 0, 1) := by decide +kernel
theorem dX9_readNumber_70 : decode cX9_readNumber 70 = .ok (.dup, 1) := by decide +kernel
theorem dX9_readNumber_71 : decode cX9_readNumber 71 = .ok (.getfield 13, 3) := by decide +kernel
theorem dX9_readNumber_74 : decode cX9_readNumber 74 = .ok (.iconst 1, 1) := by decide +kernel
theorem dX9_readNumber_75 : decode cX9_readNumber 75 = .ok (.iadd, 1) := by decide +kernel
theorem dX9_readNumber_76 : decode cX9_readNumber 76 = .ok (.putfield 13, 3) := by decide +kernel
theorem dX9_readNumber_79 : decode cX9_readNumber 79 = .ok (.goto (-69), 3) := by decide +kernel
theorem dX9_readNumber_82 : decode cX9_readNumber 82 = .ok (.return_, 1) := by decide +kernel
theorem dX9_isBlank_0 : decode cX9_isBlank 0 = .ok (.iload_n 0, 1) := by decide +kernel
theorem dX9_isBlank_1 : decode cX9_isBlank 1 = .ok (.bipush 32, 2) := by decide +kernel
theorem dX9_isBlank_3 : decode cX9_isBlank 3 = .ok (.if_icmp .eq 9, 3) := by decide +kernel
theorem dX9_isBlank_6 : decode cX9_isBlank 6 = .ok (.iload_n 0, 1) := by decide +kernel
theorem dX9_isBlank_7 : decode cX9_isBlank 7 = .ok (.bipush 10, 2) := by decide +kernel
theorem dX9_isBlank_9 : decode cX9_isBlank 9 = .ok (.if_icmp .ne 7, 3) := by decide +kernel
theorem dX9_isBlank_12 : decode cX9_isBlank 12 = .ok (.iconst 1, 1) := by decide +kernel
theorem dX9_isBlank_13 : decode cX9_isBlank 13 = .ok (.goto 4, 3) := by decide +kernel
theorem dX9_isBlank_16 : decode cX9_isBlank 16 = .ok (.iconst 0, 1) := by decide +kernel
theorem dX9_isBlank_17 : decode cX9_isBlank 17 = .ok (.ireturn, 1) := by decide +kernel
theorem dX9_isLetter_0 : decode cX9_isLetter 0 = .ok (.iload_n 0, 1) := by decide +kernel
theorem dX9_isLetter_1 : decode cX9_isLetter 1 = .ok (.bipush 97, 2) := by decide +kernel
theorem dX9_isLetter_3 : decode cX9_isLetter 3 = .ok (.if_icmp .lt 13, 3) := by decide +kernel
theorem dX9_isLetter_6 : decode cX9_isLetter 6 = .ok (.iload_n 0, 1) := by decide +kernel
theorem dX9_isLetter_7 : decode cX9_isLetter 7 = .ok (.bipush 122, 2) := by decide +kernel
theorem dX9_isLetter_9 : decode cX9_isLetter 9 = .ok (.if_icmp .gt 7, 3) := by decide +kernel
theorem dX9_isLetter_12 : decode cX9_isLetter 12 = .ok (.iconst 1, 1) := by decide +kernel
theorem dX9_isLetter_13 : decode cX9_isLetter 13 = .ok (.goto 4, 3) := by decide +kernel
theorem dX9_isLetter_16 : decode cX9_isLetter 16 = .ok (.iconst 0, 1) := by decide +kernel
theorem dX9_isLetter_17 : decode cX9_isLetter 17 = .ok (.ireturn, 1) := by decide +kernel
theorem dX9_isDigit_0 : decode cX9_isDigit 0 = .ok (.iload_n 0, 1) := by decide +kernel
theorem dX9_isDigit_1 : decode cX9_isDigit 1 = .ok (.bipush 48, 2) := by decide +kernel
theorem dX9_isDigit_3 : decode cX9_isDigit 3 = .ok (.if_icmp .lt 13, 3) := by decide +kernel
theorem dX9_isDigit_6 : decode cX9_isDigit 6 = .ok (.iload_n 0, 1) := by decide +kernel
theorem dX9_isDigit_7 : decode cX9_isDigit 7 = .ok (.bipush 57, 2) := by decide +kernel
theorem dX9_isDigit_9 : decode cX9_isDigit 9 = .ok (.if_icmp .gt 7, 3) := by decide +kernel
theorem dX9_isDigit_12 : decode cX9_isDigit 12 = .ok (.iconst 1, 1) := by decide +kernel
theorem dX9_isDigit_13 : decode cX9_isDigit 13 = .ok (.goto 4, 3) := by decide +kernel
theorem dX9_isDigit_16 : decode cX9_isDigit 16 = .ok (.iconst 0, 1) := by decide +kernel
theorem dX9_isDigit_17 : decode cX9_isDigit 17 = .ok (.ireturn, 1) := by decide +kernel
