theorem dc_Rw_change_0 : decode mb_Rw_change 0 = .ok (.iload_n 1, 1) := by decide +kernel
theorem dc_Rw_change_1 : decode mb_Rw_change 1 = .ok (.ifCond .lt 18, 3) := by decide +kernel
theorem dc_Rw_change_4 : decode mb_Rw_change 4 = .ok (.iload_n 1, 1) := by decide +kernel
theorem dc_Rw_change_5 : decode mb_Rw_change 5 = .ok (.aload_n 0, 1) := by decide +kernel
theorem dc_Rw_change_6 : decode mb_Rw_change 6 = .ok (.getfield 7, 3) := by decide +kernel
theorem dc_Rw_change_9 : decode mb_Rw_change 9 = .ok (.if_icmp .ge 10, 3) := by decide +kernel
theorem dc_Rw_change_12 : decode mb_Rw_change 12 = .ok (.aload_n 0, 1) := by decide +kernel
theorem dc_Rw_change_13 : decode mb_Rw_change 13 = .ok (.getfield 13, 3) := by decide +kernel
theorem dc_Rw_change_16 : decode mb_Rw_change 16 = .ok (.iload_n 1, 1) := by decide +kernel
theorem dc_Rw_change_17 : decode mb_Rw_change 17 = .ok (.iload_n 2, 1) := by decide +kernel
theorem dc_Rw_change_18 : decode mb_Rw_change 18 = .ok (.iastore, 1) := by decide +kernel
theorem dc_Rw_change_19 : decode mb_Rw_change 19 = .ok (.return_, 1) := by decide +kernel
theorem dc_Rw_moveBack_0 : decode mb_Rw_moveBack 0 = .ok (.iload_n 1, 1) := by decide +kernel
theorem dc_Rw_moveBack_1 : decode mb_Rw_moveBack 1 = .ok (.ifCond .lt 44, 3) := by decide +kernel
theorem dc_Rw_moveBack_4 : decode mb_Rw_moveBack 4 = .ok (.aload_n 0, 1) := by decide +kernel
theorem dc_Rw_moveBack_5 : decode mb_Rw_moveBack 5 = .ok (.getfield 7, 3) := by decide +kernel
theorem dc_Rw_moveBack_8 : decode mb_Rw_moveBack 8 = .ok (.iload_n 1, 1) := by decide +kernel
theorem dc_Rw_moveBack_9 : decode mb_Rw_moveBack 9 = .ok (.iadd, 1) := by decide +kernel
theorem dc_Rw_moveBack_10 : decode mb_Rw_moveBack 10 = .ok (.aload_n 0, 1) := by decide +kernel
theorem dc_Rw_moveBack_11 : decode mb_Rw_moveBack 11 = .ok (.getfield 13, 3) := by decide +kernel
theorem dc_Rw_moveBack_14 : decode mb_Rw_moveBack 14 = .ok (.arraylength, 1) := by decide +kernel
theorem dc_Rw_moveBack_15 : decode mb_Rw_moveBack 15 = .ok (.if_icmp .gt 30, 3) := by decide +kernel
theorem dc_Rw_moveBack_18 : decode mb_Rw_moveBack 18 = .ok (.aload_n 0, 1) := by decide +kernel
theorem dc_Rw_moveBack_19 : decode mb_Rw_moveBack 19 = .ok (.getfield 13, 3) := by decide +kernel
theorem dc_Rw_moveBack_22 : decode mb_Rw_moveBack 22 = .ok (.iconst 0, 1) := by decide +kernel
theorem dc_Rw_moveBack_23 : decode mb_Rw_moveBack 23 = .ok (.aload_n 0, 1) := by decide +kernel
theorem dc_Rw_moveBack_24 : decode mb_Rw_moveBack 24 = .ok (.getfield 13, 3) := by decide +kernel
theorem dc_Rw_moveBack_27 : decode mb_Rw_moveBack 27 = .ok (.iload_n 1, 1) := by decide +kernel
theorem dc_Rw_moveBack_28 : decode mb_Rw_moveBack 28 = .ok (.aload_n 0, 1) := by decide +kernel
theorem dc_Rw_moveBack_29 : decode mb_Rw_moveBack 29 = .ok (.getfield 7, 3) := by decide +kernel
theorem dc_Rw_moveBack_32 : decode mb_Rw_moveBack 32 = .ok (.invokestatic 28, 3) := by decide +kernel
theorem dc_Rw_moveBack_35 : decode mb_Rw_moveBack 35 = .ok (.aload_n 0, 1) := by decide +kernel
theorem dc_Rw_moveBack_36 : decode mb_Rw_moveBack 36 = .ok (.dup, 1) := by decide +kernel
theorem dc_Rw_moveBack_37 : decode mb_Rw_moveBack 37 = .ok (.getfield 7, 3) := by decide +kernel
theorem dc_Rw_moveBack_40 : decode mb_Rw_moveBack 40 = .ok (.iload_n 1, 1) := by decide +kernel
theorem dc_Rw_moveBack_41 : decode mb_Rw_moveBack 41 = .ok (.iadd, 1) := by decide +kernel
theorem dc_Rw_moveBack_42 : decode mb_Rw_moveBack 42 = .ok (.putfield 7, 3) := by decide +kernel
theorem dc_Rw_moveBack_45 : decode mb_Rw_moveBack 45 = .ok (.return_, 1) := by decide +kernel
theorem dc_Lp_init_0 : decode mb_Lp_init 0 = .ok (.aload_n 0, 1) := by decide +kernel
theorem dc_Lp_init_1 : decode mb_Lp_init 1 = .ok (.invokespecial 1, 3) := by decide +kernel
theorem dc_Lp_init_4 : decode mb_Lp_init 4 = .ok (.aload_n 0, 1) := by decide +kernel
theorem dc_Lp_init_5 : decode mb_Lp_init 5 = .ok (.new 7, 3) := by decide +kernel
theorem dc_Lp_init_8 : decode mb_Lp_init 8 = .ok (.dup, 1) := by decide +kernel
theorem dc_Lp_init_9 : decode mb_Lp_init 9 = .ok (.bipush 80, 2) := by decide +kernel
theorem dc_Lp_init_11 : decode mb_Lp_init 11 = .ok (.invokespecial 11, 3) := by decide +kernel
theorem dc_Lp_init_14 : decode mb_Lp_init 14 = .ok (.putfield 14, 3) := by decide +kernel
theorem dc_Lp_init_17 : decode mb_Lp_init 17 = .ok (.aload_n 0, 1) := by decide +kernel
theorem dc_Lp_init_18 : decode mb_Lp_init 18 = .ok (.new 7, 3) := by decide +kernel
theorem dc_Lp_init_21 : decode mb_Lp_init 21 = .ok (.dup, 1) := by decide +kernel
theorem dc_Lp_init_22 : decode mb_Lp_init 22 = .ok (.bipush 80, 2) := by decide +kernel
theorem dc_Lp_init_24 : decode mb_Lp_init 24 = .ok (.invokespecial 11, 3) := by decide +kernel
theorem dc_Lp_init_27 : decode mb_Lp_init 27 = .ok (.putfield 18, 3) := by decide +kernel
theorem dc_Lp_init_30 : decode mb_Lp_init 30 = .ok (.aload_n 0, 1) := by decide +kernel
theorem dc_Lp_init_31 : decode mb_Lp_init 31 = .ok (.new 21, 3) := by decide +kernel
theorem dc_Lp_init_34 : decode mb_Lp_init 34 = .ok (.dup, 1) := by decide +kernel
theorem dc_Lp_init_35 : decode mb_Lp_init 35 = .ok (.invokespecial 23, 3) := by decide +kernel
theorem dc_Lp_init_38 : decode mb_Lp_init 38 = .ok (.putfield 24, 3) := by decide +kernel
theorem dc_Lp_init_41 : decode mb_Lp_init 41 = .ok (.aload_n 0, 1) := by decide +kernel
theorem dc_Lp_init_42 : decode mb_Lp_init 42 = .ok (.new 28, 3) := by decide +kernel
theorem dc_Lp_init_45 : decode mb_Lp_init 45 = .ok (.dup, 1) := by decide +kernel
theorem dc_Lp_init_46 : decode mb_Lp_init 46 = .ok (.iload_n 1, 1) := by decide +kernel
theorem dc_Lp_init_47 : decode mb_Lp_init 47 = .ok (.iload_n 2, 1) := by decide +kernel
theorem dc_Lp_init_48 : decode mb_Lp_init 48 = .ok (.invokespecial 30, 3) := by decide +kernel
theorem dc_Lp_init_51 : decode mb_Lp_init 51 = .ok (.putfield 33, 3) := by decide +kernel
theorem dc_Lp_init_54 : decode mb_Lp_init 54 = .ok (.aload_n 0, 1) := by decide +kernel
theorem dc_Lp_init_55 : decode mb_Lp_init 55 = .ok (.aload_n 0, 1) := by decide +kernel
theorem dc_Lp_init_56 : decode mb_Lp_init 56 = .ok (.getfield 33, 3) := by decide +kernel
theorem dc_Lp_init_59 : decode mb_Lp_init 59 = .ok (.getfield 37, 3) := by decide +kernel
theorem dc_Lp_init_62 : decode mb_Lp_init 62 = .ok (.putfield 41, 3) := by decide +kernel
theorem dc_Lp_init_65 : decode mb_Lp_init 65 = .ok (.return_, 1) := by decide +kernel
theorem dc_Lp_run_0 : decode mb_Lp_run 0 = .ok (.iload_n 1, 1) := by decide +kernel
theorem dc_Lp_run_1 : decode mb_Lp_run 1 = .ok (.ifCond .lt 10, 3) := by decide +kernel
theorem dc_Lp_run_4 : decode mb_Lp_run 4 = .ok (.iload_n 1, 1) := by decide +kernel
theorem dc_Lp_run_5 : decode mb_Lp_run 5 = .ok (.sipush 1000, 3) := by decide +kernel
theorem dc_Lp_run_8 : decode mb_Lp_run 8 = .ok (.if_icmp .le 11, 3) := by decide +kernel
theorem dc_Lp_run_11 : decode mb_Lp_run 11 = .ok (.new 42, 3) := by decide +kernel
theorem dc_Lp_run_14 : decode mb_Lp_run 14 = .ok (.dup, 1) := by decide +kernel
theorem dc_Lp_run_15 : decode mb_Lp_run 15 = .ok (.invokespecial 44, 3) := by decide +kernel
theorem dc_Lp_run_18 : decode mb_Lp_run 18 = .ok (.athrow, 1) := by decide +kernel
theorem dc_Lp_run_19 : decode mb_Lp_run 19 = .ok (.iconst 0, 1) := by decide +kernel
theorem dc_Lp_run_20 : decode mb_Lp_run 20 = .ok (.istore_n 2, 1) := by decide +kernel
theorem dc_Lp_run_21 : decode mb_Lp_run 21 = .ok (.iload_n 2, 1) := by decide +kernel
theorem dc_Lp_run_22 : decode mb_Lp_run 22 = .ok (.iload_n 1, 1) := by decide +kernel
theorem dc_Lp_run_23 : decode mb_Lp_run 23 = .ok (.if_icmp .ge 16, 3) := by decide +kernel
theorem dc_Lp_run_26 : decode mb_Lp_run 26 = .ok (.aload_n 0, 1) := by decide +kernel
theorem dc_Lp_run_27 : decode mb_Lp_run 27 = .ok (.getfield 41, 3) := by decide +kernel
theorem dc_Lp_run_30 : decode mb_Lp_run 30 = .ok (.invokevirtual 45, 3) := by decide +kernel
theorem dc_Lp_run_33 : decode mb_Lp_run 33 = .ok (.iinc 2 1, 3) := by decide +kernel
theorem dc_Lp_run_36 : decode mb_Lp_run 36 = .ok (.goto (-15), 3) := by decide +kernel
theorem dc_Lp_run_39 : decode mb_Lp_run 39 = .ok (.return_, 1) := by decide +kernel
theorem dc_Lp_count_0 : decode mb_Lp_count 0 = .ok (.iload_n 1, 1) := by decide +kernel
theorem dc_Lp_count_1 : decode mb_Lp_count 1 = .ok (.invokestatic 50, 3) := by decide +kernel
theorem dc_Lp_count_4 : decode mb_Lp_count 4 = .ok (.ifCond .ne 11, 3) := by decide +kernel
theorem dc_Lp_count_7 : decode mb_Lp_count 7 = .ok (.new 54, 3) := by decide +kernel
theorem dc_Lp_count_10 : decode mb_Lp_count 10 = .ok (.dup, 1) := by decide +kernel
theorem dc_Lp_count_11 : decode mb_Lp_count 11 = .ok (.invokespecial 56, 3) := by decide +kernel
theorem dc_Lp_count_14 : decode mb_Lp_count 14 = .ok (.athrow, 1) := by decide +kernel
theorem dc_Lp_count_15 : decode mb_Lp_count 15 = .ok (.aload_n 0, 1) := by decide +kernel
theorem dc_Lp_count_16 : decode mb_Lp_count 16 = .ok (.getfield 41, 3) := by decide +kernel
theorem dc_Lp_count_19 : decode mb_Lp_count 19 = .ok (.getfield 57, 3) := by decide +kernel
theorem dc_Lp_count_22 : decode mb_Lp_count 22 = .ok (.iload_n 1, 1) := by decide +kernel
theorem dc_Lp_count_23 : decode mb_Lp_count 23 = .ok (.iconst 1, 1) := by decide +kernel
theorem dc_Lp_count_24 : decode mb_Lp_count 24 = .ok (.isub, 1) := by decide +kernel
theorem dc_Lp_count_25 : decode mb_Lp_count 25 = .ok (.dup2, 1) := by decide +kernel
theorem dc_Lp_count_26 : decode mb_Lp_count 26 = .ok (.iaload, 1) := by decide +kernel
theorem dc_Lp_count_27 : decode mb_Lp_count 27 = .ok (.iload_n 2, 1) := by decide +kernel
theorem dc_Lp_count_28 : decode mb_Lp_count 28 = .ok (.iadd, 1) := by decide +kernel
theorem dc_Lp_count_29 : decode mb_Lp_count 29 = .ok (.iastore, 1) := by decide +kernel
theorem dc_Lp_count_30 : decode mb_Lp_count 30 = .ok (.aload_n 0, 1) := by decide +kernel
theorem dc_Lp_count_31 : decode mb_Lp_count 31 = .ok (.getfield 41, 3) := by decide +kernel
theorem dc_Lp_count_34 : decode mb_Lp_count 34 = .ok (.getfield 57, 3) := by decide +kernel
theorem dc_Lp_count_37 : decode mb_Lp_count 37 = .ok (.iload_n 1, 1) := by decide +kernel
theorem dc_Lp_count_38 : decode mb_Lp_count 38 = .ok (.iconst 1, 1) := by decide +kernel
theorem dc_Lp_count_39 : decode mb_Lp_count 39 = .ok (.isub, 1) := by decide +kernel
theorem dc_Lp_count_40 : decode mb_Lp_count 40 = .ok (.iaload, 1) := by decide +kernel
theorem dc_Lp_count_41 : decode mb_Lp_count 41 = .ok (.ireturn, 1) := by decide +kernel
theorem dc_Lp_time_0 : decode mb_Lp_time 0 = .ok (.aload_n 0, 1) := by decide +kernel
theorem dc_Lp_time_1 : decode mb_Lp_time 1 = .ok (.getfield 41, 3) := by decide +kernel
theorem dc_Lp_time_4 : decode mb_Lp_time 4 = .ok (.getfield 61, 3) := by decide +kernel
theorem dc_Lp_time_7 : decode mb_Lp_time 7 = .ok (.ireturn, 1) := by decide +kernel
theorem dc_Lp_register_0 : decode mb_Lp_register 0 = .ok (.iload_n 1, 1) := by decide +kernel
theorem dc_Lp_register_1 : decode mb_Lp_register 1 = .ok (.invokestatic 50, 3) := by decide +kernel
theorem dc_Lp_register_4 : decode mb_Lp_register 4 = .ok (.ifCond .ne 11, 3) := by decide +kernel
theorem dc_Lp_register_7 : decode mb_Lp_register 7 = .ok (.new 54, 3) := by decide +kernel
theorem dc_Lp_register_10 : decode mb_Lp_register 10 = .ok (.dup, 1) := by decide +kernel
theorem dc_Lp_register_11 : decode mb_Lp_register 11 = .ok (.invokespecial 56, 3) := by decide +kernel
theorem dc_Lp_register_14 : decode mb_Lp_register 14 = .ok (.athrow, 1) := by decide +kernel
theorem dc_Lp_register_15 : decode mb_Lp_register 15 = .ok (.aload_n 0, 1) := by decide +kernel
theorem dc_Lp_register_16 : decode mb_Lp_register 16 = .ok (.getfield 41, 3) := by decide +kernel
theorem dc_Lp_register_19 : decode mb_Lp_register 19 = .ok (.getfield 57, 3) := by decide +kernel
theorem dc_Lp_register_22 : decode mb_Lp_register 22 = .ok (.iload_n 1, 1) := by decide +kernel
theorem dc_Lp_register_23 : decode mb_Lp_register 23 = .ok (.iconst 1, 1) := by decide +kernel
theorem dc_Lp_register_24 : decode mb_Lp_register 24 = .ok (.isub, 1) := by decide +kernel
theorem dc_Lp_register_25 : decode mb_Lp_register 25 = .ok (.iaload, 1) := by decide +kernel
theorem dc_Lp_register_26 : decode mb_Lp_register 26 = .ok (.ireturn, 1) := by decide +kernel
theorem dc_Lp_entries_0 : decode mb_Lp_entries 0 = .ok (.aload_n 0, 1) := by decide +kernel
theorem dc_Lp_entries_1 : decode mb_Lp_entries 1 = .ok (.getfield 41, 3) := by decide +kernel
theorem dc_Lp_entries_4 : decode mb_Lp_entries 4 = .ok (.getfield 65, 3) := by decide +kernel
theorem dc_Lp_entries_7 : decode mb_Lp_entries 7 = .ok (.getfield 69, 3) := by decide +kernel
theorem dc_Lp_entries_10 : decode mb_Lp_entries 10 = .ok (.ireturn, 1) := by decide +kernel
theorem dc_Lp_entry_0 : decode mb_Lp_entry 0 = .ok (.iload_n 1, 1) := by decide +kernel
theorem dc_Lp_entry_1 : decode mb_Lp_entry 1 = .ok (.ifCond .lt 17, 3) := by decide +kernel
theorem dc_Lp_entry_4 : decode mb_Lp_entry 4 = .ok (.iload_n 1, 1) := by decide +kernel
theorem dc_Lp_entry_5 : decode mb_Lp_entry 5 = .ok (.aload_n 0, 1) := by decide +kernel
theorem dc_Lp_entry_6 : decode mb_Lp_entry 6 = .ok (.getfield 41, 3) := by decide +kernel
theorem dc_Lp_entry_9 : decode mb_Lp_entry 9 = .ok (.getfield 65, 3) := by decide +kernel
theorem dc_Lp_entry_12 : decode mb_Lp_entry 12 = .ok (.getfield 69, 3) := by decide +kernel
theorem dc_Lp_entry_15 : decode mb_Lp_entry 15 = .ok (.if_icmp .lt 11, 3) := by decide +kernel
theorem dc_Lp_entry_18 : decode mb_Lp_entry 18 = .ok (.new 54, 3) := by decide +kernel
theorem dc_Lp_entry_21 : decode mb_Lp_entry 21 = .ok (.dup, 1) := by decide +kernel
theorem dc_Lp_entry_22 : decode mb_Lp_entry 22 = .ok (.invokespecial 56, 3) := by decide +kernel
theorem dc_Lp_entry_25 : decode mb_Lp_entry 25 = .ok (.athrow, 1) := by decide +kernel
theorem dc_Lp_entry_26 : decode mb_Lp_entry 26 = .ok (.iload_n 2, 1) := by decide +kernel
theorem dc_Lp_entry_27 : decode mb_Lp_entry 27 = .ok (.ifCond .lt 17, 3) := by decide +kernel
theorem dc_Lp_entry_30 : decode mb_Lp_entry 30 = .ok (.iload_n 2, 1) := by decide +kernel
theorem dc_Lp_entry_31 : decode mb_Lp_entry 31 = .ok (.aload_n 0, 1) := by decide +kernel
theorem dc_Lp_entry_32 : decode mb_Lp_entry 32 = .ok (.getfield 41, 3) := by decide +kernel
theorem dc_Lp_entry_35 : decode mb_Lp_entry 35 = .ok (.getfield 65, 3) := by decide +kernel
theorem dc_Lp_entry_38 : decode mb_Lp_entry 38 = .ok (.getfield 74, 3) := by decide +kernel
theorem dc_Lp_entry_41 : decode mb_Lp_entry 41 = .ok (.if_icmp .le 11, 3) := by decide +kernel
theorem dc_Lp_entry_44 : decode mb_Lp_entry 44 = .ok (.new 77, 3) := by decide +kernel
theorem dc_Lp_entry_47 : decode mb_Lp_entry 47 = .ok (.dup, 1) := by decide +kernel
theorem dc_Lp_entry_48 : decode mb_Lp_entry 48 = .ok (.invokespecial 79, 3) := by decide +kernel
theorem dc_Lp_entry_51 : decode mb_Lp_entry 51 = .ok (.athrow, 1) := by decide +kernel
theorem dc_Lp_entry_52 : decode mb_Lp_entry 52 = .ok (.aload_n 0, 1) := by decide +kernel
theorem dc_Lp_entry_53 : decode mb_Lp_entry 53 = .ok (.getfield 41, 3) := by decide +kernel
theorem dc_Lp_entry_56 : decode mb_Lp_entry 56 = .ok (.getfield 65, 3) := by decide +kernel
theorem dc_Lp_entry_59 : decode mb_Lp_entry 59 = .ok (.iload_n 1, 1) := by decide +kernel
theorem dc_Lp_entry_60 : decode mb_Lp_entry 60 = .ok (.iload_n 2, 1) := by decide +kernel
theorem dc_Lp_entry_61 : decode mb_Lp_entry 61 = .ok (.invokevirtual 80, 3) := by decide +kernel
theorem dc_Lp_entry_64 : decode mb_Lp_entry 64 = .ok (.ireturn, 1) := by decide +kernel
theorem dc_Lp_link_0 : decode mb_Lp_link 0 = .ok (.aload_n 0, 1) := by decide +kernel
theorem dc_Lp_link_1 : decode mb_Lp_link 1 = .ok (.getfield 33, 3) := by decide +kernel
theorem dc_Lp_link_4 : decode mb_Lp_link 4 = .ok (.invokevirtual 84, 3) := by decide +kernel
theorem dc_Lp_link_7 : decode mb_Lp_link 7 = .ok (.ireturn, 1) := by decide +kernel
theorem dc_Lp_put_0 : decode mb_Lp_put 0 = .ok (.iload_n 1, 1) := by decide +kernel
theorem dc_Lp_put_1 : decode mb_Lp_put 1 = .ok (.invokestatic 88, 3) := by decide +kernel
theorem dc_Lp_put_4 : decode mb_Lp_put 4 = .ok (.ifCond .ne 11, 3) := by decide +kernel
theorem dc_Lp_put_7 : decode mb_Lp_put 7 = .ok (.new 42, 3) := by decide +kernel
theorem dc_Lp_put_10 : decode mb_Lp_put 10 = .ok (.dup, 1) := by decide +kernel
theorem dc_Lp_put_11 : decode mb_Lp_put 11 = .ok (.invokespecial 44, 3) := by decide +kernel
theorem dc_Lp_put_14 : decode mb_Lp_put 14 = .ok (.athrow, 1) := by decide +kernel
theorem dc_Lp_put_15 : decode mb_Lp_put 15 = .ok (.aload_n 0, 1) := by decide +kernel
theorem dc_Lp_put_16 : decode mb_Lp_put 16 = .ok (.getfield 14, 3) := by decide +kernel
theorem dc_Lp_put_19 : decode mb_Lp_put 19 = .ok (.getfield 91, 3) := by decide +kernel
theorem dc_Lp_put_22 : decode mb_Lp_put 22 = .ok (.bipush 80, 2) := by decide +kernel
theorem dc_Lp_put_24 : decode mb_Lp_put 24 = .ok (.if_icmp .lt 11, 3) := by decide +kernel
theorem dc_Lp_put_27 : decode mb_Lp_put 27 = .ok (.new 92, 3) := by decide +kernel
theorem dc_Lp_put_30 : decode mb_Lp_put 30 = .ok (.dup, 1) := by decide +kernel
theorem dc_Lp_put_31 : decode mb_Lp_put 31 = .ok (.invokespecial 94, 3) := by decide +kernel
theorem dc_Lp_put_34 : decode mb_Lp_put 34 = .ok (.athrow, 1) := by decide +kernel
theorem dc_Lp_put_35 : decode mb_Lp_put 35 = .ok (.aload_n 0, 1) := by decide +kernel
theorem dc_Lp_put_36 : decode mb_Lp_put 36 = .ok (.getfield 14, 3) := by decide +kernel
theorem dc_Lp_put_39 : decode mb_Lp_put 39 = .ok (.iload_n 1, 1) := by decide +kernel
theorem dc_Lp_put_40 : decode mb_Lp_put 40 = .ok (.invokevirtual 95, 3) := by decide +kernel
theorem dc_Lp_put_43 : decode mb_Lp_put 43 = .ok (.aload_n 0, 1) := by decide +kernel
theorem dc_Lp_put_44 : decode mb_Lp_put 44 = .ok (.getfield 14, 3) := by decide +kernel
theorem dc_Lp_put_47 : decode mb_Lp_put 47 = .ok (.getfield 91, 3) := by decide +kernel
theorem dc_Lp_put_50 : decode mb_Lp_put 50 = .ok (.ireturn, 1) := by decide +kernel
theorem dc_Lp_putInt_0 : decode mb_Lp_putInt 0 = .ok (.aload_n 0, 1) := by decide +kernel
theorem dc_Lp_putInt_1 : decode mb_Lp_putInt 1 = .ok (.getfield 14, 3) := by decide +kernel
theorem dc_Lp_putInt_4 : decode mb_Lp_putInt 4 = .ok (.getfield 91, 3) := by decide +kernel
theorem dc_Lp_putInt_7 : decode mb_Lp_putInt 7 = .ok (.iconst 4, 1) := by decide +kernel
theorem dc_Lp_putInt_8 : decode mb_Lp_putInt 8 = .ok (.iadd, 1) := by decide +kernel
theorem dc_Lp_putInt_9 : decode mb_Lp_putInt 9 = .ok (.bipush 80, 2) := by decide +kernel
theorem dc_Lp_putInt_11 : decode mb_Lp_putInt 11 = .ok (.if_icmp .le 11, 3) := by decide +kernel
theorem dc_Lp_putInt_14 : decode mb_Lp_putInt 14 = .ok (.new 92, 3) := by decide +kernel
theorem dc_Lp_putInt_17 : decode mb_Lp_putInt 17 = .ok (.dup, 1) := by decide +kernel
theorem dc_Lp_putInt_18 : decode mb_Lp_putInt 18 = .ok (.invokespecial 94, 3) := by decide +kernel
theorem dc_Lp_putInt_21 : decode mb_Lp_putInt 21 = .ok (.athrow, 1) := by decide +kernel
theorem dc_Lp_putInt_22 : decode mb_Lp_putInt 22 = .ok (.aload_n 0, 1) := by decide +kernel
theorem dc_Lp_putInt_23 : decode mb_Lp_putInt 23 = .ok (.getfield 14, 3) := by decide +kernel
theorem dc_Lp_putInt_26 : decode mb_Lp_putInt 26 = .ok (.iload_n 1, 1) := by decide +kernel
theorem dc_Lp_putInt_27 : decode mb_Lp_putInt 27 = .ok (.invokevirtual 98, 3) := by decide +kernel
theorem dc_Lp_putInt_30 : decode mb_Lp_putInt 30 = .ok (.aload_n 0, 1) := by decide +kernel
theorem dc_Lp_putInt_31 : decode mb_Lp_putInt 31 = .ok (.getfield 14, 3) := by decide +kernel
theorem dc_Lp_putInt_34 : decode mb_Lp_putInt 34 = .ok (.getfield 91, 3) := by decide +kernel
theorem dc_Lp_putInt_37 : decode mb_Lp_putInt 37 = .ok (.ireturn, 1) := by decide +kernel
theorem dc_Lp_poke_0 : decode mb_Lp_poke 0 = .ok (.iload_n 1, 1) := by decide +kernel
theorem dc_Lp_poke_1 : decode mb_Lp_poke 1 = .ok (.ifCond .lt 14, 3) := by decide +kernel
theorem dc_Lp_poke_4 : decode mb_Lp_poke 4 = .ok (.iload_n 1, 1) := by decide +kernel
theorem dc_Lp_poke_5 : decode mb_Lp_poke 5 = .ok (.aload_n 0, 1) := by decide +kernel
theorem dc_Lp_poke_6 : decode mb_Lp_poke 6 = .ok (.getfield 14, 3) := by decide +kernel
theorem dc_Lp_poke_9 : decode mb_Lp_poke 9 = .ok (.getfield 91, 3) := by decide +kernel
theorem dc_Lp_poke_12 : decode mb_Lp_poke 12 = .ok (.if_icmp .lt 11, 3) := by decide +kernel
theorem dc_Lp_poke_15 : decode mb_Lp_poke 15 = .ok (.new 54, 3) := by decide +kernel
theorem dc_Lp_poke_18 : decode mb_Lp_poke 18 = .ok (.dup, 1) := by decide +kernel
theorem dc_Lp_poke_19 : decode mb_Lp_poke 19 = .ok (.invokespecial 56, 3) := by decide +kernel
theorem dc_Lp_poke_22 : decode mb_Lp_poke 22 = .ok (.athrow, 1) := by decide +kernel
theorem dc_Lp_poke_23 : decode mb_Lp_poke 23 = .ok (.iload_n 2, 1) := by decide +kernel
theorem dc_Lp_poke_24 : decode mb_Lp_poke 24 = .ok (.invokestatic 88, 3) := by decide +kernel
theorem dc_Lp_poke_27 : decode mb_Lp_poke 27 = .ok (.ifCond .ne 11, 3) := by decide +kernel
theorem dc_Lp_poke_30 : decode mb_Lp_poke 30 = .ok (.new 42, 3) := by decide +kernel
theorem dc_Lp_poke_33 : decode mb_Lp_poke 33 = .ok (.dup, 1) := by decide +kernel
theorem dc_Lp_poke_34 : decode mb_Lp_poke 34 = .ok (.invokespecial 44, 3) := by decide +kernel
theorem dc_Lp_poke_37 : decode mb_Lp_poke 37 = .ok (.athrow, 1) := by decide +kernel
theorem dc_Lp_poke_38 : decode mb_Lp_poke 38 = .ok (.aload_n 0, 1) := by decide +kernel
theorem dc_Lp_poke_39 : decode mb_Lp_poke 39 = .ok (.getfield 14, 3) := by decide +kernel
theorem dc_Lp_poke_42 : decode mb_Lp_poke 42 = .ok (.iload_n 1, 1) := by decide +kernel
theorem dc_Lp_poke_43 : decode mb_Lp_poke 43 = .ok (.iload_n 2, 1) := by decide +kernel
theorem dc_Lp_poke_44 : decode mb_Lp_poke 44 = .ok (.invokevirtual 101, 3) := by decide +kernel
theorem dc_Lp_poke_47 : decode mb_Lp_poke 47 = .ok (.return_, 1) := by decide +kernel
theorem dc_Lp_frame_0 : decode mb_Lp_frame 0 = .ok (.iload_n 1, 1) := by decide +kernel
theorem dc_Lp_frame_1 : decode mb_Lp_frame 1 = .ok (.invokestatic 88, 3) := by decide +kernel
theorem dc_Lp_frame_4 : decode mb_Lp_frame 4 = .ok (.ifCond .ne 11, 3) := by decide +kernel
theorem dc_Lp_frame_7 : decode mb_Lp_frame 7 = .ok (.new 42, 3) := by decide +kernel
theorem dc_Lp_frame_10 : decode mb_Lp_frame 10 = .ok (.dup, 1) := by decide +kernel
theorem dc_Lp_frame_11 : decode mb_Lp_frame 11 = .ok (.invokespecial 44, 3) := by decide +kernel
theorem dc_Lp_frame_14 : decode mb_Lp_frame 14 = .ok (.athrow, 1) := by decide +kernel
theorem dc_Lp_frame_15 : decode mb_Lp_frame 15 = .ok (.aload_n 0, 1) := by decide +kernel
theorem dc_Lp_frame_16 : decode mb_Lp_frame 16 = .ok (.getfield 14, 3) := by decide +kernel
theorem dc_Lp_frame_19 : decode mb_Lp_frame 19 = .ok (.getfield 91, 3) := by decide +kernel
theorem dc_Lp_frame_22 : decode mb_Lp_frame 22 = .ok (.bipush 60, 2) := by decide +kernel
theorem dc_Lp_frame_24 : decode mb_Lp_frame 24 = .ok (.if_icmp .le 11, 3) := by decide +kernel
theorem dc_Lp_frame_27 : decode mb_Lp_frame 27 = .ok (.new 92, 3) := by decide +kernel
theorem dc_Lp_frame_30 : decode mb_Lp_frame 30 = .ok (.dup, 1) := by decide +kernel
theorem dc_Lp_frame_31 : decode mb_Lp_frame 31 = .ok (.invokespecial 94, 3) := by decide +kernel
theorem dc_Lp_frame_34 : decode mb_Lp_frame 34 = .ok (.athrow, 1) := by decide +kernel
theorem dc_Lp_frame_35 : decode mb_Lp_frame 35 = .ok (.aload_n 0, 1) := by decide +kernel
theorem dc_Lp_frame_36 : decode mb_Lp_frame 36 = .ok (.getfield 14, 3) := by decide +kernel
theorem dc_Lp_frame_39 : decode mb_Lp_frame 39 = .ok (.iload_n 1, 1) := by decide +kernel
theorem dc_Lp_frame_40 : decode mb_Lp_frame 40 = .ok (.invokestatic 106, 3) := by decide +kernel
theorem dc_Lp_frame_43 : decode mb_Lp_frame 43 = .ok (.aload_n 0, 1) := by decide +kernel
theorem dc_Lp_frame_44 : decode mb_Lp_frame 44 = .ok (.getfield 14, 3) := by decide +kernel
theorem dc_Lp_frame_47 : decode mb_Lp_frame 47 = .ok (.getfield 91, 3) := by decide +kernel
theorem dc_Lp_frame_50 : decode mb_Lp_frame 50 = .ok (.ireturn, 1) := by decide +kernel
theorem dc_Lp_ask_0 : decode mb_Lp_ask 0 = .ok (.aload_n 0, 1) := by decide +kernel
theorem dc_Lp_ask_1 : decode mb_Lp_ask 1 = .ok (.getfield 14, 3) := by decide +kernel
theorem dc_Lp_ask_4 : decode mb_Lp_ask 4 = .ok (.getfield 91, 3) := by decide +kernel
theorem dc_Lp_ask_7 : decode mb_Lp_ask 7 = .ok (.ifCond .eq 15, 3) := by decide +kernel
theorem dc_Lp_ask_10 : decode mb_Lp_ask 10 = .ok (.aload_n 0, 1) := by decide +kernel
theorem dc_Lp_ask_11 : decode mb_Lp_ask 11 = .ok (.getfield 14, 3) := by decide +kernel
theorem dc_Lp_ask_14 : decode mb_Lp_ask 14 = .ok (.getfield 91, 3) := by decide +kernel
theorem dc_Lp_ask_17 : decode mb_Lp_ask 17 = .ok (.bipush 60, 2) := by decide +kernel
theorem dc_Lp_ask_19 : decode mb_Lp_ask 19 = .ok (.if_icmp .le 11, 3) := by decide +kernel
theorem dc_Lp_ask_22 : decode mb_Lp_ask 22 = .ok (.new 92, 3) := by decide +kernel
theorem dc_Lp_ask_25 : decode mb_Lp_ask 25 = .ok (.dup, 1) := by decide +kernel
theorem dc_Lp_ask_26 : decode mb_Lp_ask 26 = .ok (.invokespecial 94, 3) := by decide +kernel
theorem dc_Lp_ask_29 : decode mb_Lp_ask 29 = .ok (.athrow, 1) := by decide +kernel
theorem dc_Lp_ask_30 : decode mb_Lp_ask 30 = .ok (.aload_n 0, 1) := by decide +kernel
theorem dc_Lp_ask_31 : decode mb_Lp_ask 31 = .ok (.getfield 14, 3) := by decide +kernel
theorem dc_Lp_ask_34 : decode mb_Lp_ask 34 = .ok (.aload_n 0, 1) := by decide +kernel
theorem dc_Lp_ask_35 : decode mb_Lp_ask 35 = .ok (.getfield 24, 3) := by decide +kernel
theorem dc_Lp_ask_38 : decode mb_Lp_ask 38 = .ok (.getfield 110, 3) := by decide +kernel
theorem dc_Lp_ask_41 : decode mb_Lp_ask 41 = .ok (.aload_n 0, 1) := by decide +kernel
theorem dc_Lp_ask_42 : decode mb_Lp_ask 42 = .ok (.getfield 24, 3) := by decide +kernel
theorem dc_Lp_ask_45 : decode mb_Lp_ask 45 = .ok (.getfield 113, 3) := by decide +kernel
theorem dc_Lp_ask_48 : decode mb_Lp_ask 48 = .ok (.invokestatic 116, 3) := by decide +kernel
theorem dc_Lp_ask_51 : decode mb_Lp_ask 51 = .ok (.invokestatic 106, 3) := by decide +kernel
theorem dc_Lp_ask_54 : decode mb_Lp_ask 54 = .ok (.aload_n 0, 1) := by decide +kernel
theorem dc_Lp_ask_55 : decode mb_Lp_ask 55 = .ok (.getfield 14, 3) := by decide +kernel
theorem dc_Lp_ask_58 : decode mb_Lp_ask 58 = .ok (.getfield 91, 3) := by decide +kernel
theorem dc_Lp_ask_61 : decode mb_Lp_ask 61 = .ok (.ireturn, 1) := by decide +kernel
theorem dc_Lp_clear_0 : decode mb_Lp_clear 0 = .ok (.aload_n 0, 1) := by decide +kernel
theorem dc_Lp_clear_1 : decode mb_Lp_clear 1 = .ok (.getfield 14, 3) := by decide +kernel
theorem dc_Lp_clear_4 : decode mb_Lp_clear 4 = .ok (.invokevirtual 119, 3) := by decide +kernel
theorem dc_Lp_clear_7 : decode mb_Lp_clear 7 = .ok (.return_, 1) := by decide +kernel
theorem dc_Lp_deliver_0 : decode mb_Lp_deliver 0 = .ok (.aload_n 0, 1) := by decide +kernel
theorem dc_Lp_deliver_1 : decode mb_Lp_deliver 1 = .ok (.getfield 18, 3) := by decide +kernel
theorem dc_Lp_deliver_4 : decode mb_Lp_deliver 4 = .ok (.invokevirtual 119, 3) := by decide +kernel
theorem dc_Lp_deliver_7 : decode mb_Lp_deliver 7 = .ok (.aload_n 0, 1) := by decide +kernel
theorem dc_Lp_deliver_8 : decode mb_Lp_deliver 8 = .ok (.getfield 14, 3) := by decide +kernel
theorem dc_Lp_deliver_11 : decode mb_Lp_deliver 11 = .ok (.invokestatic 122, 3) := by decide +kernel
theorem dc_Lp_deliver_14 : decode mb_Lp_deliver 14 = .ok (.ifCond .eq 18, 3) := by decide +kernel
theorem dc_Lp_deliver_17 : decode mb_Lp_deliver 17 = .ok (.aload_n 0, 1) := by decide +kernel
theorem dc_Lp_deliver_18 : decode mb_Lp_deliver 18 = .ok (.getfield 33, 3) := by decide +kernel
theorem dc_Lp_deliver_21 : decode mb_Lp_deliver 21 = .ok (.aload_n 0, 1) := by decide +kernel
theorem dc_Lp_deliver_22 : decode mb_Lp_deliver 22 = .ok (.getfield 14, 3) := by decide +kernel
theorem dc_Lp_deliver_25 : decode mb_Lp_deliver 25 = .ok (.aload_n 0, 1) := by decide +kernel
theorem dc_Lp_deliver_26 : decode mb_Lp_deliver 26 = .ok (.getfield 18, 3) := by decide +kernel
theorem dc_Lp_deliver_29 : decode mb_Lp_deliver 29 = .ok (.invokevirtual 126, 3) := by decide +kernel
theorem dc_Lp_deliver_32 : decode mb_Lp_deliver 32 = .ok (.aload_n 0, 1) := by decide +kernel
theorem dc_Lp_deliver_33 : decode mb_Lp_deliver 33 = .ok (.getfield 14, 3) := by decide +kernel
theorem dc_Lp_deliver_36 : decode mb_Lp_deliver 36 = .ok (.invokevirtual 119, 3) := by decide +kernel
theorem dc_Lp_deliver_39 : decode mb_Lp_deliver 39 = .ok (.iload_n 1, 1) := by decide +kernel
theorem dc_Lp_deliver_40 : decode mb_Lp_deliver 40 = .ok (.ifCond .eq 13, 3) := by decide +kernel
theorem dc_Lp_deliver_43 : decode mb_Lp_deliver 43 = .ok (.aload_n 0, 1) := by decide +kernel
theorem dc_Lp_deliver_44 : decode mb_Lp_deliver 44 = .ok (.getfield 18, 3) := by decide +kernel
theorem dc_Lp_deliver_47 : decode mb_Lp_deliver 47 = .ok (.invokevirtual 119, 3) := by decide +kernel
theorem dc_Lp_deliver_50 : decode mb_Lp_deliver 50 = .ok (.goto 14, 3) := by decide +kernel
theorem dc_Lp_deliver_53 : decode mb_Lp_deliver 53 = .ok (.aload_n 0, 1) := by decide +kernel
theorem dc_Lp_deliver_54 : decode mb_Lp_deliver 54 = .ok (.getfield 24, 3) := by decide +kernel
theorem dc_Lp_deliver_57 : decode mb_Lp_deliver 57 = .ok (.aload_n 0, 1) := by decide +kernel
theorem dc_Lp_deliver_58 : decode mb_Lp_deliver 58 = .ok (.getfield 18, 3) := by decide +kernel
theorem dc_Lp_deliver_61 : decode mb_Lp_deliver 61 = .ok (.invokevirtual 130, 3) := by decide +kernel
theorem dc_Lp_deliver_64 : decode mb_Lp_deliver 64 = .ok (.aload_n 0, 1) := by decide +kernel
theorem dc_Lp_deliver_65 : decode mb_Lp_deliver 65 = .ok (.getfield 18, 3) := by decide +kernel
theorem dc_Lp_deliver_68 : decode mb_Lp_deliver 68 = .ok (.getfield 91, 3) := by decide +kernel
theorem dc_Lp_deliver_71 : decode mb_Lp_deliver 71 = .ok (.ireturn, 1) := by decide +kernel
theorem dc_Lp_reply_0 : decode mb_Lp_reply 0 = .ok (.iload_n 1, 1) := by decide +kernel
theorem dc_Lp_reply_1 : decode mb_Lp_reply 1 = .ok (.ifCond .lt 14, 3) := by decide +kernel
theorem dc_Lp_reply_4 : decode mb_Lp_reply 4 = .ok (.iload_n 1, 1) := by decide +kernel
theorem dc_Lp_reply_5 : decode mb_Lp_reply 5 = .ok (.aload_n 0, 1) := by decide +kernel
theorem dc_Lp_reply_6 : decode mb_Lp_reply 6 = .ok (.getfield 18, 3) := by decide +kernel
theorem dc_Lp_reply_9 : decode mb_Lp_reply 9 = .ok (.getfield 91, 3) := by decide +kernel
theorem dc_Lp_reply_12 : decode mb_Lp_reply 12 = .ok (.if_icmp .lt 11, 3) := by decide +kernel
theorem dc_Lp_reply_15 : decode mb_Lp_reply 15 = .ok (.new 54, 3) := by decide +kernel
theorem dc_Lp_reply_18 : decode mb_Lp_reply 18 = .ok (.dup, 1) := by decide +kernel
theorem dc_Lp_reply_19 : decode mb_Lp_reply 19 = .ok (.invokespecial 56, 3) := by decide +kernel
theorem dc_Lp_reply_22 : decode mb_Lp_reply 22 = .ok (.athrow, 1) := by decide +kernel
theorem dc_Lp_reply_23 : decode mb_Lp_reply 23 = .ok (.aload_n 0, 1) := by decide +kernel
theorem dc_Lp_reply_24 : decode mb_Lp_reply 24 = .ok (.getfield 18, 3) := by decide +kernel
theorem dc_Lp_reply_27 : decode mb_Lp_reply 27 = .ok (.iload_n 1, 1) := by decide +kernel
theorem dc_Lp_reply_28 : decode mb_Lp_reply 28 = .ok (.invokevirtual 134, 3) := by decide +kernel
theorem dc_Lp_reply_31 : decode mb_Lp_reply 31 = .ok (.ireturn, 1) := by decide +kernel
theorem dc_Mo_init_0 : decode mb_Mo_init 0 = .ok (.aload_n 0, 1) := by decide +kernel
theorem dc_Mo_init_1 : decode mb_Mo_init 1 = .ok (.invokespecial 1, 3) := by decide +kernel
theorem dc_Mo_init_4 : decode mb_Mo_init 4 = .ok (.aload_n 0, 1) := by decide +kernel
theorem dc_Mo_init_5 : decode mb_Mo_init 5 = .ok (.iconst 4, 1) := by decide +kernel
theorem dc_Mo_init_6 : decode mb_Mo_init 6 = .ok (.newarray .int, 2) := by decide +kernel
theorem dc_Mo_init_8 : decode mb_Mo_init 8 = .ok (.putfield 7, 3) := by decide +kernel
theorem dc_Mo_init_11 : decode mb_Mo_init 11 = .ok (.aload_n 0, 1) := by decide +kernel
theorem dc_Mo_init_12 : decode mb_Mo_init 12 = .ok (.iconst 1, 1) := by decide +kernel
theorem dc_Mo_init_13 : decode mb_Mo_init 13 = .ok (.putfield 13, 3) := by decide +kernel
theorem dc_Mo_init_16 : decode mb_Mo_init 16 = .ok (.aload_n 0, 1) := by decide +kernel
theorem dc_Mo_init_17 : decode mb_Mo_init 17 = .ok (.iconst 3, 1) := by decide +kernel
theorem dc_Mo_init_18 : decode mb_Mo_init 18 = .ok (.newarray .int, 2) := by decide +kernel
theorem dc_Mo_init_20 : decode mb_Mo_init 20 = .ok (.dup, 1) := by decide +kernel
theorem dc_Mo_init_21 : decode mb_Mo_init 21 = .ok (.iconst 0, 1) := by decide +kernel
theorem dc_Mo_init_22 : decode mb_Mo_init 22 = .ok (.iconst 1, 1) := by decide +kernel
theorem dc_Mo_init_23 : decode mb_Mo_init 23 = .ok (.iastore, 1) := by decide +kernel
theorem dc_Mo_init_24 : decode mb_Mo_init 24 = .ok (.dup, 1) := by decide +kernel
theorem dc_Mo_init_25 : decode mb_Mo_init 25 = .ok (.iconst 1, 1) := by decide +kernel
theorem dc_Mo_init_26 : decode mb_Mo_init 26 = .ok (.iconst 0, 1) := by decide +kernel
theorem dc_Mo_init_27 : decode mb_Mo_init 27 = .ok (.iastore, 1) := by decide +kernel
theorem dc_Mo_init_28 : decode mb_Mo_init 28 = .ok (.dup, 1) := by decide +kernel
theorem dc_Mo_init_29 : decode mb_Mo_init 29 = .ok (.iconst 2, 1) := by decide +kernel
theorem dc_Mo_init_30 : decode mb_Mo_init 30 = .ok (.iconst 0, 1) := by decide +kernel
theorem dc_Mo_init_31 : decode mb_Mo_init 31 = .ok (.iastore, 1) := by decide +kernel
theorem dc_Mo_init_32 : decode mb_Mo_init 32 = .ok (.putfield 17, 3) := by decide +kernel
theorem dc_Mo_init_35 : decode mb_Mo_init 35 = .ok (.aload_n 0, 1) := by decide +kernel
theorem dc_Mo_init_36 : decode mb_Mo_init 36 = .ok (.bipush 13, 2) := by decide +kernel
theorem dc_Mo_init_38 : decode mb_Mo_init 38 = .ok (.newarray .int, 2) := by decide +kernel
theorem dc_Mo_init_40 : decode mb_Mo_init 40 = .ok (.putfield 20, 3) := by decide +kernel
theorem dc_Mo_init_43 : decode mb_Mo_init 43 = .ok (.aload_n 0, 1) := by decide +kernel
theorem dc_Mo_init_44 : decode mb_Mo_init 44 = .ok (.bipush 39, 2) := by decide +kernel
theorem dc_Mo_init_46 : decode mb_Mo_init 46 = .ok (.newarray .int, 2) := by decide +kernel
theorem dc_Mo_init_48 : decode mb_Mo_init 48 = .ok (.putfield 23, 3) := by decide +kernel
theorem dc_Mo_init_51 : decode mb_Mo_init 51 = .ok (.aload_n 0, 1) := by decide +kernel
theorem dc_Mo_init_52 : decode mb_Mo_init 52 = .ok (.sipush 280, 3) := by decide +kernel
theorem dc_Mo_init_55 : decode mb_Mo_init 55 = .ok (.newarray .int, 2) := by decide +kernel
theorem dc_Mo_init_57 : decode mb_Mo_init 57 = .ok (.putfield 26, 3) := by decide +kernel
theorem dc_Mo_init_60 : decode mb_Mo_init 60 = .ok (.aload_n 0, 1) := by decide +kernel
theorem dc_Mo_init_61 : decode mb_Mo_init 61 = .ok (.bipush 80, 2) := by decide +kernel
theorem dc_Mo_init_63 : decode mb_Mo_init 63 = .ok (.newarray .int, 2) := by decide +kernel
theorem dc_Mo_init_65 : decode mb_Mo_init 65 = .ok (.putfield 29, 3) := by decide +kernel
theorem dc_Mo_init_68 : decode mb_Mo_init 68 = .ok (.aload_n 0, 1) := by decide +kernel
theorem dc_Mo_init_69 : decode mb_Mo_init 69 = .ok (.bipush 80, 2) := by decide +kernel
theorem dc_Mo_init_71 : decode mb_Mo_init 71 = .ok (.newarray .int, 2) := by decide +kernel
theorem dc_Mo_init_73 : decode mb_Mo_init 73 = .ok (.putfield 32, 3) := by decide +kernel
theorem dc_Mo_init_76 : decode mb_Mo_init 76 = .ok (.aload_n 0, 1) := by decide +kernel
theorem dc_Mo_init_77 : decode mb_Mo_init 77 = .ok (.bipush 80, 2) := by decide +kernel
theorem dc_Mo_init_79 : decode mb_Mo_init 79 = .ok (.newarray .int, 2) := by decide +kernel
theorem dc_Mo_init_81 : decode mb_Mo_init 81 = .ok (.putfield 35, 3) := by decide +kernel
theorem dc_Mo_init_84 : decode mb_Mo_init 84 = .ok (.aload_n 0, 1) := by decide +kernel
theorem dc_Mo_init_85 : decode mb_Mo_init 85 = .ok (.sipush 300, 3) := by decide +kernel
theorem dc_Mo_init_88 : decode mb_Mo_init 88 = .ok (.newarray .int, 2) := by decide +kernel
theorem dc_Mo_init_90 : decode mb_Mo_init 90 = .ok (.putfield 38, 3) := by decide +kernel
theorem dc_Mo_init_93 : decode mb_Mo_init 93 = .ok (.aload_n 0, 1) := by decide +kernel
theorem dc_Mo_init_94 : decode mb_Mo_init 94 = .ok (.iload_n 1, 1) := by decide +kernel
theorem dc_Mo_init_95 : decode mb_Mo_init 95 = .ok (.putfield 41, 3) := by decide +kernel
theorem dc_Mo_init_98 : decode mb_Mo_init 98 = .ok (.aload_n 0, 1) := by decide +kernel
theorem dc_Mo_init_99 : decode mb_Mo_init 99 = .ok (.iload_n 2, 1) := by decide +kernel
theorem dc_Mo_init_100 : decode mb_Mo_init 100 = .ok (.iconst 1, 1) := by decide +kernel
theorem dc_Mo_init_101 : decode mb_Mo_init 101 = .ok (.if_icmp .ge 7, 3) := by decide +kernel
theorem dc_Mo_init_104 : decode mb_Mo_init 104 = .ok (.iconst 1, 1) := by decide +kernel
theorem dc_Mo_init_105 : decode mb_Mo_init 105 = .ok (.goto 15, 3) := by decide +kernel
theorem dc_Mo_init_108 : decode mb_Mo_init 108 = .ok (.iload_n 2, 1) := by decide +kernel
theorem dc_Mo_init_109 : decode mb_Mo_init 109 = .ok (.bipush 12, 2) := by decide +kernel
theorem dc_Mo_init_111 : decode mb_Mo_init 111 = .ok (.if_icmp .le 8, 3) := by decide +kernel
theorem dc_Mo_init_114 : decode mb_Mo_init 114 = .ok (.bipush 12, 2) := by decide +kernel
theorem dc_Mo_init_116 : decode mb_Mo_init 116 = .ok (.goto 4, 3) := by decide +kernel
theorem dc_Mo_init_119 : decode mb_Mo_init 119 = .ok (.iload_n 2, 1) := by decide +kernel
theorem dc_Mo_init_120 : decode mb_Mo_init 120 = .ok (.putfield 44, 3) := by decide +kernel
theorem dc_Mo_init_123 : decode mb_Mo_init 123 = .ok (.return_, 1) := by decide +kernel
theorem dc_Mo_thrown_0 : decode mb_Mo_thrown 0 = .ok (.aload_n 0, 1) := by decide +kernel
theorem dc_Mo_thrown_1 : decode mb_Mo_thrown 1 = .ok (.getfield 47, 3) := by decide +kernel
theorem dc_Mo_thrown_4 : decode mb_Mo_thrown 4 = .ok (.ireturn, 1) := by decide +kernel
theorem dc_Mo_capture_0 : decode mb_Mo_capture 0 = .ok (.aload_n 0, 1) := by decide +kernel
theorem dc_Mo_capture_1 : decode mb_Mo_capture 1 = .ok (.getfield 20, 3) := by decide +kernel
theorem dc_Mo_capture_4 : decode mb_Mo_capture 4 = .ok (.aload_n 0, 1) := by decide +kernel
theorem dc_Mo_capture_5 : decode mb_Mo_capture 5 = .ok (.getfield 50, 3) := by decide +kernel
theorem dc_Mo_capture_8 : decode mb_Mo_capture 8 = .ok (.aload_n 0, 1) := by decide +kernel
theorem dc_Mo_capture_9 : decode mb_Mo_capture 9 = .ok (.getfield 53, 3) := by decide +kernel
theorem dc_Mo_capture_12 : decode mb_Mo_capture 12 = .ok (.iastore, 1) := by decide +kernel
theorem dc_Mo_capture_13 : decode mb_Mo_capture 13 = .ok (.iconst 0, 1) := by decide +kernel
theorem dc_Mo_capture_14 : decode mb_Mo_capture 14 = .ok (.istore_n 1, 1) := by decide +kernel
theorem dc_Mo_capture_15 : decode mb_Mo_capture 15 = .ok (.iload_n 1, 1) := by decide +kernel
theorem dc_Mo_capture_16 : decode mb_Mo_capture 16 = .ok (.aload_n 0, 1) := by decide +kernel
theorem dc_Mo_capture_17 : decode mb_Mo_capture 17 = .ok (.getfield 13, 3) := by decide +kernel
theorem dc_Mo_capture_20 : decode mb_Mo_capture 20 = .ok (.if_icmp .ge 33, 3) := by decide +kernel
theorem dc_Mo_capture_23 : decode mb_Mo_capture 23 = .ok (.aload_n 0, 1) := by decide +kernel
theorem dc_Mo_capture_24 : decode mb_Mo_capture 24 = .ok (.getfield 23, 3) := by decide +kernel
theorem dc_Mo_capture_27 : decode mb_Mo_capture 27 = .ok (.iconst 3, 1) := by decide +kernel
theorem dc_Mo_capture_28 : decode mb_Mo_capture 28 = .ok (.aload_n 0, 1) := by decide +kernel
theorem dc_Mo_capture_29 : decode mb_Mo_capture 29 = .ok (.getfield 50, 3) := by decide +kernel
theorem dc_Mo_capture_32 : decode mb_Mo_capture 32 = .ok (.imul, 1) := by decide +kernel
theorem dc_Mo_capture_33 : decode mb_Mo_capture 33 = .ok (.iload_n 1, 1) := by decide +kernel
theorem dc_Mo_capture_34 : decode mb_Mo_capture 34 = .ok (.iadd, 1) := by decide +kernel
theorem dc_Mo_capture_35 : decode mb_Mo_capture 35 = .ok (.aload_n 0, 1) := by decide +kernel
theorem dc_Mo_capture_36 : decode mb_Mo_capture 36 = .ok (.getfield 7, 3) := by decide +kernel
theorem dc_Mo_capture_39 : decode mb_Mo_capture 39 = .ok (.aload_n 0, 1) := by decide +kernel
theorem dc_Mo_capture_40 : decode mb_Mo_capture 40 = .ok (.getfield 17, 3) := by decide +kernel
theorem dc_Mo_capture_43 : decode mb_Mo_capture 43 = .ok (.iload_n 1, 1) := by decide +kernel
theorem dc_Mo_capture_44 : decode mb_Mo_capture 44 = .ok (.iaload, 1) := by decide +kernel
theorem dc_Mo_capture_45 : decode mb_Mo_capture 45 = .ok (.iaload, 1) := by decide +kernel
theorem dc_Mo_capture_46 : decode mb_Mo_capture 46 = .ok (.iastore, 1) := by decide +kernel
theorem dc_Mo_capture_47 : decode mb_Mo_capture 47 = .ok (.iinc 1 1, 3) := by decide +kernel
theorem dc_Mo_capture_50 : decode mb_Mo_capture 50 = .ok (.goto (-35), 3) := by decide +kernel
theorem dc_Mo_capture_53 : decode mb_Mo_capture 53 = .ok (.aload_n 0, 1) := by decide +kernel
theorem dc_Mo_capture_54 : decode mb_Mo_capture 54 = .ok (.dup, 1) := by decide +kernel
theorem dc_Mo_capture_55 : decode mb_Mo_capture 55 = .ok (.getfield 50, 3) := by decide +kernel
theorem dc_Mo_capture_58 : decode mb_Mo_capture 58 = .ok (.iconst 1, 1) := by decide +kernel
theorem dc_Mo_capture_59 : decode mb_Mo_capture 59 = .ok (.iadd, 1) := by decide +kernel
theorem dc_Mo_capture_60 : decode mb_Mo_capture 60 = .ok (.putfield 50, 3) := by decide +kernel
theorem dc_Mo_capture_63 : decode mb_Mo_capture 63 = .ok (.aload_n 0, 1) := by decide +kernel
theorem dc_Mo_capture_64 : decode mb_Mo_capture 64 = .ok (.getfield 50, 3) := by decide +kernel
theorem dc_Mo_capture_67 : decode mb_Mo_capture 67 = .ok (.aload_n 0, 1) := by decide +kernel
theorem dc_Mo_capture_68 : decode mb_Mo_capture 68 = .ok (.getfield 44, 3) := by decide +kernel
theorem dc_Mo_capture_71 : decode mb_Mo_capture 71 = .ok (.if_icmp .gt 4, 3) := by decide +kernel
theorem dc_Mo_capture_74 : decode mb_Mo_capture 74 = .ok (.return_, 1) := by decide +kernel
theorem dc_Mo_capture_75 : decode mb_Mo_capture 75 = .ok (.iconst 0, 1) := by decide +kernel
theorem dc_Mo_capture_76 : decode mb_Mo_capture 76 = .ok (.istore_n 1, 1) := by decide +kernel
theorem dc_Mo_capture_77 : decode mb_Mo_capture 77 = .ok (.iload_n 1, 1) := by decide +kernel
theorem dc_Mo_capture_78 : decode mb_Mo_capture 78 = .ok (.iconst 1, 1) := by decide +kernel
theorem dc_Mo_capture_79 : decode mb_Mo_capture 79 = .ok (.iadd, 1) := by decide +kernel
theorem dc_Mo_capture_80 : decode mb_Mo_capture 80 = .ok (.aload_n 0, 1) := by decide +kernel
theorem dc_Mo_capture_81 : decode mb_Mo_capture 81 = .ok (.getfield 50, 3) := by decide +kernel
theorem dc_Mo_capture_84 : decode mb_Mo_capture 84 = .ok (.if_icmp .ge 58, 3) := by decide +kernel
theorem dc_Mo_capture_87 : decode mb_Mo_capture 87 = .ok (.aload_n 0, 1) := by decide +kernel
theorem dc_Mo_capture_88 : decode mb_Mo_capture 88 = .ok (.getfield 20, 3) := by decide +kernel
theorem dc_Mo_capture_91 : decode mb_Mo_capture 91 = .ok (.iload_n 1, 1) := by decide +kernel
theorem dc_Mo_capture_92 : decode mb_Mo_capture 92 = .ok (.aload_n 0, 1) := by decide +kernel
theorem dc_Mo_capture_93 : decode mb_Mo_capture 93 = .ok (.getfield 20, 3) := by decide +kernel
theorem dc_Mo_capture_96 : decode mb_Mo_capture 96 = .ok (.iload_n 1, 1) := by decide +kernel
theorem dc_Mo_capture_97 : decode mb_Mo_capture 97 = .ok (.iconst 1, 1) := by decide +kernel
theorem dc_Mo_capture_98 : decode mb_Mo_capture 98 = .ok (.iadd, 1) := by decide +kernel
theorem dc_Mo_capture_99 : decode mb_Mo_capture 99 = .ok (.iaload, 1) := by decide +kernel
theorem dc_Mo_capture_100 : decode mb_Mo_capture 100 = .ok (.iastore, 1) := by decide +kernel
theorem dc_Mo_capture_101 : decode mb_Mo_capture 101 = .ok (.iconst 0, 1) := by decide +kernel
theorem dc_Mo_capture_102 : decode mb_Mo_capture 102 = .ok (.istore_n 2, 1) := by decide +kernel
theorem dc_Mo_capture_103 : decode mb_Mo_capture 103 = .ok (.iload_n 2, 1) := by decide +kernel
theorem dc_Mo_capture_104 : decode mb_Mo_capture 104 = .ok (.iconst 3, 1) := by decide +kernel
theorem dc_Mo_capture_105 : decode mb_Mo_capture 105 = .ok (.if_icmp .ge 31, 3) := by decide +kernel
theorem dc_Mo_capture_108 : decode mb_Mo_capture 108 = .ok (.aload_n 0, 1) := by decide +kernel
theorem dc_Mo_capture_109 : decode mb_Mo_capture 109 = .ok (.getfield 23, 3) := by decide +kernel
theorem dc_Mo_capture_112 : decode mb_Mo_capture 112 = .ok (.iconst 3, 1) := by decide +kernel
theorem dc_Mo_capture_113 : decode mb_Mo_capture 113 = .ok (.iload_n 1, 1) := by decide +kernel
theorem dc_Mo_capture_114 : decode mb_Mo_capture 114 = .ok (.imul, 1) := by decide +kernel
theorem dc_Mo_capture_115 : decode mb_Mo_capture 115 = .ok (.iload_n 2, 1) := by decide +kernel
theorem dc_Mo_capture_116 : decode mb_Mo_capture 116 = .ok (.iadd, 1) := by decide +kernel
theorem dc_Mo_capture_117 : decode mb_Mo_capture 117 = .ok (.aload_n 0, 1) := by decide +kernel
theorem dc_Mo_capture_118 : decode mb_Mo_capture 118 = .ok (.getfield 23, 3) := by decide +kernel
theorem dc_Mo_capture_121 : decode mb_Mo_capture 121 = .ok (.iconst 3, 1) := by decide +kernel
theorem dc_Mo_capture_122 : decode mb_Mo_capture 122 = .ok (.iload_n 1, 1) := by decide +kernel
theorem dc_Mo_capture_123 : decode mb_Mo_capture 123 = .ok (.imul, 1) := by decide +kernel
theorem dc_Mo_capture_124 : decode mb_Mo_capture 124 = .ok (.iconst 3, 1) := by decide +kernel
theorem dc_Mo_capture_125 : decode mb_Mo_capture 125 = .ok (.iadd, 1) := by decide +kernel
theorem dc_Mo_capture_126 : decode mb_Mo_capture 126 = .ok (.iload_n 2, 1) := by decide +kernel
theorem dc_Mo_capture_127 : decode mb_Mo_capture 127 = .ok (.iadd, 1) := by decide +kernel
theorem dc_Mo_capture_128 : decode mb_Mo_capture 128 = .ok (.iaload, 1) := by decide +kernel
theorem dc_Mo_capture_129 : decode mb_Mo_capture 129 = .ok (.iastore, 1) := by decide +kernel
theorem dc_Mo_capture_130 : decode mb_Mo_capture 130 = .ok (.iinc 2 1, 3) := by decide +kernel
theorem dc_Mo_capture_133 : decode mb_Mo_capture 133 = .ok (.goto (-30), 3) := by decide +kernel
theorem dc_Mo_capture_136 : decode mb_Mo_capture 136 = .ok (.iinc 1 1, 3) := by decide +kernel
theorem dc_Mo_capture_139 : decode mb_Mo_capture 139 = .ok (.goto (-62), 3) := by decide +kernel
theorem dc_Mo_capture_142 : decode mb_Mo_capture 142 = .ok (.aload_n 0, 1) := by decide +kernel
theorem dc_Mo_capture_143 : decode mb_Mo_capture 143 = .ok (.dup, 1) := by decide +kernel
theorem dc_Mo_capture_144 : decode mb_Mo_capture 144 = .ok (.getfield 50, 3) := by decide +kernel
theorem dc_Mo_capture_147 : decode mb_Mo_capture 147 = .ok (.iconst 1, 1) := by decide +kernel
theorem dc_Mo_capture_148 : decode mb_Mo_capture 148 = .ok (.isub, 1) := by decide +kernel
theorem dc_Mo_capture_149 : decode mb_Mo_capture 149 = .ok (.putfield 50, 3) := by decide +kernel
theorem dc_Mo_capture_152 : decode mb_Mo_capture 152 = .ok (.return_, 1) := by decide +kernel
theorem dc_Mo_run_0 : decode mb_Mo_run 0 = .ok (.aload_n 0, 1) := by decide +kernel
theorem dc_Mo_run_1 : decode mb_Mo_run 1 = .ok (.iload_n 1, 1) := by decide +kernel
theorem dc_Mo_run_2 : decode mb_Mo_run 2 = .ok (.ifCond .lt 10, 3) := by decide +kernel
theorem dc_Mo_run_5 : decode mb_Mo_run 5 = .ok (.iload_n 1, 1) := by decide +kernel
theorem dc_Mo_run_6 : decode mb_Mo_run 6 = .ok (.sipush 1000, 3) := by decide +kernel
theorem dc_Mo_run_9 : decode mb_Mo_run 9 = .ok (.if_icmp .le 7, 3) := by decide +kernel
theorem dc_Mo_run_12 : decode mb_Mo_run 12 = .ok (.iconst 1, 1) := by decide +kernel
theorem dc_Mo_run_13 : decode mb_Mo_run 13 = .ok (.goto 4, 3) := by decide +kernel
theorem dc_Mo_run_16 : decode mb_Mo_run 16 = .ok (.iconst 0, 1) := by decide +kernel
theorem dc_Mo_run_17 : decode mb_Mo_run 17 = .ok (.putfield 47, 3) := by decide +kernel
theorem dc_Mo_run_20 : decode mb_Mo_run 20 = .ok (.iconst 0, 1) := by decide +kernel
theorem dc_Mo_run_21 : decode mb_Mo_run 21 = .ok (.istore_n 2, 1) := by decide +kernel
theorem dc_Mo_run_22 : decode mb_Mo_run 22 = .ok (.iload_n 2, 1) := by decide +kernel
theorem dc_Mo_run_23 : decode mb_Mo_run 23 = .ok (.iload_n 1, 1) := by decide +kernel
theorem dc_Mo_run_24 : decode mb_Mo_run 24 = .ok (.if_icmp .ge 62, 3) := by decide +kernel
theorem dc_Mo_run_27 : decode mb_Mo_run 27 = .ok (.aload_n 0, 1) := by decide +kernel
theorem dc_Mo_run_28 : decode mb_Mo_run 28 = .ok (.getfield 47, 3) := by decide +kernel
theorem dc_Mo_run_31 : decode mb_Mo_run 31 = .ok (.ifCond .ne 55, 3) := by decide +kernel
theorem dc_Mo_run_34 : decode mb_Mo_run 34 = .ok (.aload_n 0, 1) := by decide +kernel
theorem dc_Mo_run_35 : decode mb_Mo_run 35 = .ok (.aload_n 0, 1) := by decide +kernel
theorem dc_Mo_run_36 : decode mb_Mo_run 36 = .ok (.getfield 53, 3) := by decide +kernel
theorem dc_Mo_run_39 : decode mb_Mo_run 39 = .ok (.ldc 56, 2) := by decide +kernel
theorem dc_Mo_run_41 : decode mb_Mo_run 41 = .ok (.if_icmp .ne 7, 3) := by decide +kernel
theorem dc_Mo_run_44 : decode mb_Mo_run 44 = .ok (.iconst 0, 1) := by decide +kernel
theorem dc_Mo_run_45 : decode mb_Mo_run 45 = .ok (.goto 9, 3) := by decide +kernel
theorem dc_Mo_run_48 : decode mb_Mo_run 48 = .ok (.aload_n 0, 1) := by decide +kernel
theorem dc_Mo_run_49 : decode mb_Mo_run 49 = .ok (.getfield 53, 3) := by decide +kernel
theorem dc_Mo_run_52 : decode mb_Mo_run 52 = .ok (.iconst 1, 1) := by decide +kernel
theorem dc_Mo_run_53 : decode mb_Mo_run 53 = .ok (.iadd, 1) := by decide +kernel
theorem dc_Mo_run_54 : decode mb_Mo_run 54 = .ok (.putfield 53, 3) := by decide +kernel
theorem dc_Mo_run_57 : decode mb_Mo_run 57 = .ok (.aload_n 0, 1) := by decide +kernel
theorem dc_Mo_run_58 : decode mb_Mo_run 58 = .ok (.getfield 57, 3) := by decide +kernel
theorem dc_Mo_run_61 : decode mb_Mo_run 61 = .ok (.ifCond .le 19, 3) := by decide +kernel
theorem dc_Mo_run_64 : decode mb_Mo_run 64 = .ok (.aload_n 0, 1) := by decide +kernel
theorem dc_Mo_run_65 : decode mb_Mo_run 65 = .ok (.getfield 53, 3) := by decide +kernel
theorem dc_Mo_run_68 : decode mb_Mo_run 68 = .ok (.aload_n 0, 1) := by decide +kernel
theorem dc_Mo_run_69 : decode mb_Mo_run 69 = .ok (.getfield 57, 3) := by decide +kernel
theorem dc_Mo_run_72 : decode mb_Mo_run 72 = .ok (.irem, 1) := by decide +kernel
theorem dc_Mo_run_73 : decode mb_Mo_run 73 = .ok (.ifCond .ne 7, 3) := by decide +kernel
theorem dc_Mo_run_76 : decode mb_Mo_run 76 = .ok (.aload_n 0, 1) := by decide +kernel
theorem dc_Mo_run_77 : decode mb_Mo_run 77 = .ok (.invokevirtual 60, 3) := by decide +kernel
theorem dc_Mo_run_80 : decode mb_Mo_run 80 = .ok (.iinc 2 1, 3) := by decide +kernel
theorem dc_Mo_run_83 : decode mb_Mo_run 83 = .ok (.goto (-61), 3) := by decide +kernel
theorem dc_Mo_run_86 : decode mb_Mo_run 86 = .ok (.return_, 1) := by decide +kernel
theorem dc_Mo_isRegister_0 : decode mb_Mo_isRegister 0 = .ok (.iload_n 0, 1) := by decide +kernel
theorem dc_Mo_isRegister_1 : decode mb_Mo_isRegister 1 = .ok (.iconst 1, 1) := by decide +kernel
theorem dc_Mo_isRegister_2 : decode mb_Mo_isRegister 2 = .ok (.if_icmp .lt 12, 3) := by decide +kernel
theorem dc_Mo_isRegister_5 : decode mb_Mo_isRegister 5 = .ok (.iload_n 0, 1) := by decide +kernel
theorem dc_Mo_isRegister_6 : decode mb_Mo_isRegister 6 = .ok (.iconst 3, 1) := by decide +kernel
theorem dc_Mo_isRegister_7 : decode mb_Mo_isRegister 7 = .ok (.if_icmp .gt 7, 3) := by decide +kernel
theorem dc_Mo_isRegister_10 : decode mb_Mo_isRegister 10 = .ok (.iconst 1, 1) := by decide +kernel
theorem dc_Mo_isRegister_11 : decode mb_Mo_isRegister 11 = .ok (.goto 4, 3) := by decide +kernel
theorem dc_Mo_isRegister_14 : decode mb_Mo_isRegister 14 = .ok (.iconst 0, 1) := by decide +kernel
theorem dc_Mo_isRegister_15 : decode mb_Mo_isRegister 15 = .ok (.ireturn, 1) := by decide +kernel
theorem dc_Mo_count_0 : decode mb_Mo_count 0 = .ok (.aload_n 0, 1) := by decide +kernel
theorem dc_Mo_count_1 : decode mb_Mo_count 1 = .ok (.iload_n 1, 1) := by decide +kernel
theorem dc_Mo_count_2 : decode mb_Mo_count 2 = .ok (.invokestatic 63, 3) := by decide +kernel
theorem dc_Mo_count_5 : decode mb_Mo_count 5 = .ok (.ifCond .eq 7, 3) := by decide +kernel
theorem dc_Mo_count_8 : decode mb_Mo_count 8 = .ok (.iconst 0, 1) := by decide +kernel
theorem dc_Mo_count_9 : decode mb_Mo_count 9 = .ok (.goto 4, 3) := by decide +kernel
theorem dc_Mo_count_12 : decode mb_Mo_count 12 = .ok (.iconst 1, 1) := by decide +kernel
theorem dc_Mo_count_13 : decode mb_Mo_count 13 = .ok (.putfield 47, 3) := by decide +kernel
theorem dc_Mo_count_16 : decode mb_Mo_count 16 = .ok (.aload_n 0, 1) := by decide +kernel
theorem dc_Mo_count_17 : decode mb_Mo_count 17 = .ok (.getfield 47, 3) := by decide +kernel
theorem dc_Mo_count_20 : decode mb_Mo_count 20 = .ok (.ifCond .le 5, 3) := by decide +kernel
theorem dc_Mo_count_23 : decode mb_Mo_count 23 = .ok (.iconst 0, 1) := by decide +kernel
theorem dc_Mo_count_24 : decode mb_Mo_count 24 = .ok (.ireturn, 1) := by decide +kernel
theorem dc_Mo_count_25 : decode mb_Mo_count 25 = .ok (.aload_n 0, 1) := by decide +kernel
theorem dc_Mo_count_26 : decode mb_Mo_count 26 = .ok (.getfield 7, 3) := by decide +kernel
theorem dc_Mo_count_29 : decode mb_Mo_count 29 = .ok (.iload_n 1, 1) := by decide +kernel
theorem dc_Mo_count_30 : decode mb_Mo_count 30 = .ok (.dup2, 1) := by decide +kernel
theorem dc_Mo_count_31 : decode mb_Mo_count 31 = .ok (.iaload, 1) := by decide +kernel
theorem dc_Mo_count_32 : decode mb_Mo_count 32 = .ok (.iload_n 2, 1) := by decide +kernel
theorem dc_Mo_count_33 : decode mb_Mo_count 33 = .ok (.iadd, 1) := by decide +kernel
theorem dc_Mo_count_34 : decode mb_Mo_count 34 = .ok (.iastore, 1) := by decide +kernel
theorem dc_Mo_count_35 : decode mb_Mo_count 35 = .ok (.aload_n 0, 1) := by decide +kernel
theorem dc_Mo_count_36 : decode mb_Mo_count 36 = .ok (.getfield 7, 3) := by decide +kernel
theorem dc_Mo_count_39 : decode mb_Mo_count 39 = .ok (.iload_n 1, 1) := by decide +kernel
theorem dc_Mo_count_40 : decode mb_Mo_count 40 = .ok (.iaload, 1) := by decide +kernel
theorem dc_Mo_count_41 : decode mb_Mo_count 41 = .ok (.ireturn, 1) := by decide +kernel
theorem dc_Mo_time_0 : decode mb_Mo_time 0 = .ok (.aload_n 0, 1) := by decide +kernel
theorem dc_Mo_time_1 : decode mb_Mo_time 1 = .ok (.iconst 0, 1) := by decide +kernel
theorem dc_Mo_time_2 : decode mb_Mo_time 2 = .ok (.putfield 47, 3) := by decide +kernel
theorem dc_Mo_time_5 : decode mb_Mo_time 5 = .ok (.aload_n 0, 1) := by decide +kernel
theorem dc_Mo_time_6 : decode mb_Mo_time 6 = .ok (.getfield 53, 3) := by decide +kernel
theorem dc_Mo_time_9 : decode mb_Mo_time 9 = .ok (.ireturn, 1) := by decide +kernel
theorem dc_Mo_register_0 : decode mb_Mo_register 0 = .ok (.aload_n 0, 1) := by decide +kernel
theorem dc_Mo_register_1 : decode mb_Mo_register 1 = .ok (.iload_n 1, 1) := by decide +kernel
theorem dc_Mo_register_2 : decode mb_Mo_register 2 = .ok (.invokestatic 63, 3) := by decide +kernel
theorem dc_Mo_register_5 : decode mb_Mo_register 5 = .ok (.ifCond .eq 7, 3) := by decide +kernel
theorem dc_Mo_register_8 : decode mb_Mo_register 8 = .ok (.iconst 0, 1) := by decide +kernel
theorem dc_Mo_register_9 : decode mb_Mo_register 9 = .ok (.goto 4, 3) := by decide +kernel
theorem dc_Mo_register_12 : decode mb_Mo_register 12 = .ok (.iconst 1, 1) := by decide +kernel
theorem dc_Mo_register_13 : decode mb_Mo_register 13 = .ok (.putfield 47, 3) := by decide +kernel
theorem dc_Mo_register_16 : decode mb_Mo_register 16 = .ok (.aload_n 0, 1) := by decide +kernel
theorem dc_Mo_register_17 : decode mb_Mo_register 17 = .ok (.getfield 47, 3) := by decide +kernel
theorem dc_Mo_register_20 : decode mb_Mo_register 20 = .ok (.ifCond .le 7, 3) := by decide +kernel
theorem dc_Mo_register_23 : decode mb_Mo_register 23 = .ok (.iconst 0, 1) := by decide +kernel
theorem dc_Mo_register_24 : decode mb_Mo_register 24 = .ok (.goto 9, 3) := by decide +kernel
theorem dc_Mo_register_27 : decode mb_Mo_register 27 = .ok (.aload_n 0, 1) := by decide +kernel
theorem dc_Mo_register_28 : decode mb_Mo_register 28 = .ok (.getfield 7, 3) := by decide +kernel
theorem dc_Mo_register_31 : decode mb_Mo_register 31 = .ok (.iload_n 1, 1) := by decide +kernel
theorem dc_Mo_register_32 : decode mb_Mo_register 32 = .ok (.iaload, 1) := by decide +kernel
theorem dc_Mo_register_33 : decode mb_Mo_register 33 = .ok (.ireturn, 1) := by decide +kernel
