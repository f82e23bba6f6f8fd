theorem dc_Mt_takeTime_0 : decode mb_Mt_takeTime 0 = .ok (.iload_n 1, 1) := by decide +kernel
theorem dc_Mt_takeTime_1 : decode mb_Mt_takeTime 1 = .ok (.ifCond .ge 5, 3) := by decide +kernel
theorem dc_Mt_takeTime_4 : decode mb_Mt_takeTime 4 = .ok (.iconst 0, 1) := by decide +kernel
theorem dc_Mt_takeTime_5 : decode mb_Mt_takeTime 5 = .ok (.ireturn, 1) := by decide +kernel
theorem dc_Mt_takeTime_6 : decode mb_Mt_takeTime 6 = .ok (.aload_n 0, 1) := by decide +kernel
theorem dc_Mt_takeTime_7 : decode mb_Mt_takeTime 7 = .ok (.iload_n 1, 1) := by decide +kernel
theorem dc_Mt_takeTime_8 : decode mb_Mt_takeTime 8 = .ok (.putfield 13, 3) := by decide +kernel
theorem dc_Mt_takeTime_11 : decode mb_Mt_takeTime 11 = .ok (.iconst 1, 1) := by decide +kernel
theorem dc_Mt_takeTime_12 : decode mb_Mt_takeTime 12 = .ok (.ireturn, 1) := by decide +kernel
theorem dc_Mt_act_0 : decode mb_Mt_act 0 = .ok (.aload_n 1, 1) := by decide +kernel
theorem dc_Mt_act_1 : decode mb_Mt_act 1 = .ok (.iconst 1, 1) := by decide +kernel
theorem dc_Mt_act_2 : decode mb_Mt_act 2 = .ok (.invokevirtual 65, 3) := by decide +kernel
theorem dc_Mt_act_5 : decode mb_Mt_act 5 = .ok (.istore_n 3, 1) := by decide +kernel
theorem dc_Mt_act_6 : decode mb_Mt_act 6 = .ok (.aload_n 1, 1) := by decide +kernel
theorem dc_Mt_act_7 : decode mb_Mt_act 7 = .ok (.iconst 2, 1) := by decide +kernel
theorem dc_Mt_act_8 : decode mb_Mt_act 8 = .ok (.invokevirtual 65, 3) := by decide +kernel
theorem dc_Mt_act_11 : decode mb_Mt_act 11 = .ok (.istore 4, 2) := by decide +kernel
theorem dc_Mt_act_13 : decode mb_Mt_act 13 = .ok (.aload_n 1, 1) := by decide +kernel
theorem dc_Mt_act_14 : decode mb_Mt_act 14 = .ok (.iconst 3, 1) := by decide +kernel
theorem dc_Mt_act_15 : decode mb_Mt_act 15 = .ok (.invokevirtual 65, 3) := by decide +kernel
theorem dc_Mt_act_18 : decode mb_Mt_act 18 = .ok (.istore 5, 2) := by decide +kernel
theorem dc_Mt_act_20 : decode mb_Mt_act 20 = .ok (.iload_n 3, 1) := by decide +kernel
theorem dc_Mt_act_21 : decode mb_Mt_act 21 = .ok (.invokestatic 34, 3) := by decide +kernel
theorem dc_Mt_act_24 : decode mb_Mt_act 24 = .ok (.ifCond .ne 5, 3) := by decide +kernel
theorem dc_Mt_act_27 : decode mb_Mt_act 27 = .ok (.iconst 4, 1) := by decide +kernel
theorem dc_Mt_act_28 : decode mb_Mt_act 28 = .ok (.ireturn, 1) := by decide +kernel
theorem dc_Mt_act_29 : decode mb_Mt_act 29 = .ok (.iload_n 3, 1) := by decide +kernel
theorem dc_Mt_act_30 : decode mb_Mt_act 30 = .ok (.iload 4, 2) := by decide +kernel
theorem dc_Mt_act_32 : decode mb_Mt_act 32 = .ok (.invokestatic 95, 3) := by decide +kernel
theorem dc_Mt_act_35 : decode mb_Mt_act 35 = .ok (.ifCond .ne 6, 3) := by decide +kernel
theorem dc_Mt_act_38 : decode mb_Mt_act 38 = .ok (.bipush 9, 2) := by decide +kernel
theorem dc_Mt_act_40 : decode mb_Mt_act 40 = .ok (.ireturn, 1) := by decide +kernel
theorem dc_Mt_act_41 : decode mb_Mt_act 41 = .ok (.iload_n 2, 1) := by decide +kernel
theorem dc_Mt_act_42 : decode mb_Mt_act 42 = .ok (.ifCond .ne 5, 3) := by decide +kernel
theorem dc_Mt_act_45 : decode mb_Mt_act 45 = .ok (.iconst 3, 1) := by decide +kernel
theorem dc_Mt_act_46 : decode mb_Mt_act 46 = .ok (.ireturn, 1) := by decide +kernel
theorem dc_Mt_act_47 : decode mb_Mt_act 47 = .ok (.iload_n 3, 1) := by decide +kernel
theorem dc_Mt_act_48 : decode mb_Mt_act 48 = .ok (.ifCond .ne 10, 3) := by decide +kernel
theorem dc_Mt_act_51 : decode mb_Mt_act 51 = .ok (.aload_n 0, 1) := by decide +kernel
theorem dc_Mt_act_52 : decode mb_Mt_act 52 = .ok (.iload 5, 2) := by decide +kernel
theorem dc_Mt_act_54 : decode mb_Mt_act 54 = .ok (.invokevirtual 98, 3) := by decide +kernel
theorem dc_Mt_act_57 : decode mb_Mt_act 57 = .ok (.ireturn, 1) := by decide +kernel
theorem dc_Mt_act_58 : decode mb_Mt_act 58 = .ok (.iload_n 3, 1) := by decide +kernel
theorem dc_Mt_act_59 : decode mb_Mt_act 59 = .ok (.invokestatic 59, 3) := by decide +kernel
theorem dc_Mt_act_62 : decode mb_Mt_act 62 = .ok (.ifCond .eq 15, 3) := by decide +kernel
theorem dc_Mt_act_65 : decode mb_Mt_act 65 = .ok (.aload_n 0, 1) := by decide +kernel
theorem dc_Mt_act_66 : decode mb_Mt_act 66 = .ok (.getfield 9, 3) := by decide +kernel
theorem dc_Mt_act_69 : decode mb_Mt_act 69 = .ok (.iload_n 3, 1) := by decide +kernel
theorem dc_Mt_act_70 : decode mb_Mt_act 70 = .ok (.iconst 1, 1) := by decide +kernel
theorem dc_Mt_act_71 : decode mb_Mt_act 71 = .ok (.isub, 1) := by decide +kernel
theorem dc_Mt_act_72 : decode mb_Mt_act 72 = .ok (.iconst 0, 1) := by decide +kernel
theorem dc_Mt_act_73 : decode mb_Mt_act 73 = .ok (.iastore, 1) := by decide +kernel
theorem dc_Mt_act_74 : decode mb_Mt_act 74 = .ok (.goto 34, 3) := by decide +kernel
theorem dc_Mt_act_77 : decode mb_Mt_act 77 = .ok (.iload 4, 2) := by decide +kernel
theorem dc_Mt_act_79 : decode mb_Mt_act 79 = .ok (.iconst 1, 1) := by decide +kernel
theorem dc_Mt_act_80 : decode mb_Mt_act 80 = .ok (.if_icmp .ne 13, 3) := by decide +kernel
theorem dc_Mt_act_83 : decode mb_Mt_act 83 = .ok (.aload_n 0, 1) := by decide +kernel
theorem dc_Mt_act_84 : decode mb_Mt_act 84 = .ok (.getfield 22, 3) := by decide +kernel
theorem dc_Mt_act_87 : decode mb_Mt_act 87 = .ok (.invokevirtual 101, 3) := by decide +kernel
theorem dc_Mt_act_90 : decode mb_Mt_act 90 = .ok (.goto 18, 3) := by decide +kernel
theorem dc_Mt_act_93 : decode mb_Mt_act 93 = .ok (.aload_n 0, 1) := by decide +kernel
theorem dc_Mt_act_94 : decode mb_Mt_act 94 = .ok (.getfield 22, 3) := by decide +kernel
theorem dc_Mt_act_97 : decode mb_Mt_act 97 = .ok (.aload_n 0, 1) := by decide +kernel
theorem dc_Mt_act_98 : decode mb_Mt_act 98 = .ok (.getfield 13, 3) := by decide +kernel
theorem dc_Mt_act_101 : decode mb_Mt_act 101 = .ok (.aload_n 0, 1) := by decide +kernel
theorem dc_Mt_act_102 : decode mb_Mt_act 102 = .ok (.getfield 9, 3) := by decide +kernel
theorem dc_Mt_act_105 : decode mb_Mt_act 105 = .ok (.invokevirtual 30, 3) := by decide +kernel
theorem dc_Mt_act_108 : decode mb_Mt_act 108 = .ok (.iconst 0, 1) := by decide +kernel
theorem dc_Mt_act_109 : decode mb_Mt_act 109 = .ok (.ireturn, 1) := by decide +kernel
theorem dc_Mt_roundTime_0 : decode mb_Mt_roundTime 0 = .ok (.iload_n 1, 1) := by decide +kernel
theorem dc_Mt_roundTime_1 : decode mb_Mt_roundTime 1 = .ok (.ifCond .gt 6, 3) := by decide +kernel
theorem dc_Mt_roundTime_4 : decode mb_Mt_roundTime 4 = .ok (.bipush 13, 2) := by decide +kernel
theorem dc_Mt_roundTime_6 : decode mb_Mt_roundTime 6 = .ok (.ireturn, 1) := by decide +kernel
theorem dc_Mt_roundTime_7 : decode mb_Mt_roundTime 7 = .ok (.aload_n 0, 1) := by decide +kernel
theorem dc_Mt_roundTime_8 : decode mb_Mt_roundTime 8 = .ok (.dup, 1) := by decide +kernel
theorem dc_Mt_roundTime_9 : decode mb_Mt_roundTime 9 = .ok (.getfield 13, 3) := by decide +kernel
theorem dc_Mt_roundTime_12 : decode mb_Mt_roundTime 12 = .ok (.aload_n 0, 1) := by decide +kernel
theorem dc_Mt_roundTime_13 : decode mb_Mt_roundTime 13 = .ok (.getfield 13, 3) := by decide +kernel
theorem dc_Mt_roundTime_16 : decode mb_Mt_roundTime 16 = .ok (.iload_n 1, 1) := by decide +kernel
theorem dc_Mt_roundTime_17 : decode mb_Mt_roundTime 17 = .ok (.irem, 1) := by decide +kernel
theorem dc_Mt_roundTime_18 : decode mb_Mt_roundTime 18 = .ok (.isub, 1) := by decide +kernel
theorem dc_Mt_roundTime_19 : decode mb_Mt_roundTime 19 = .ok (.putfield 13, 3) := by decide +kernel
theorem dc_Mt_roundTime_22 : decode mb_Mt_roundTime 22 = .ok (.iconst 0, 1) := by decide +kernel
theorem dc_Mt_roundTime_23 : decode mb_Mt_roundTime 23 = .ok (.ireturn, 1) := by decide +kernel
theorem dc_Pf_init_0 : decode mb_Pf_init 0 = .ok (.aload_n 0, 1) := by decide +kernel
theorem dc_Pf_init_1 : decode mb_Pf_init 1 = .ok (.invokespecial 3, 3) := by decide +kernel
theorem dc_Pf_init_4 : decode mb_Pf_init 4 = .ok (.aload_n 0, 1) := by decide +kernel
theorem dc_Pf_init_5 : decode mb_Pf_init 5 = .ok (.iconst 3, 1) := by decide +kernel
theorem dc_Pf_init_6 : decode mb_Pf_init 6 = .ok (.newarray .int, 2) := by decide +kernel
theorem dc_Pf_init_8 : decode mb_Pf_init 8 = .ok (.putfield 9, 3) := by decide +kernel
theorem dc_Pf_init_11 : decode mb_Pf_init 11 = .ok (.aload_n 0, 1) := by decide +kernel
theorem dc_Pf_init_12 : decode mb_Pf_init 12 = .ok (.bipush 48, 2) := by decide +kernel
theorem dc_Pf_init_14 : decode mb_Pf_init 14 = .ok (.newarray .int, 2) := by decide +kernel
theorem dc_Pf_init_16 : decode mb_Pf_init 16 = .ok (.putfield 13, 3) := by decide +kernel
theorem dc_Pf_init_19 : decode mb_Pf_init 19 = .ok (.aload_n 0, 1) := by decide +kernel
theorem dc_Pf_init_20 : decode mb_Pf_init 20 = .ok (.iconst 1, 1) := by decide +kernel
theorem dc_Pf_init_21 : decode mb_Pf_init 21 = .ok (.putfield 16, 3) := by decide +kernel
theorem dc_Pf_init_24 : decode mb_Pf_init 24 = .ok (.aload_n 0, 1) := by decide +kernel
theorem dc_Pf_init_25 : decode mb_Pf_init 25 = .ok (.iconst 0, 1) := by decide +kernel
theorem dc_Pf_init_26 : decode mb_Pf_init 26 = .ok (.putfield 20, 3) := by decide +kernel
theorem dc_Pf_init_29 : decode mb_Pf_init 29 = .ok (.aload_n 0, 1) := by decide +kernel
theorem dc_Pf_init_30 : decode mb_Pf_init 30 = .ok (.iconst 0, 1) := by decide +kernel
theorem dc_Pf_init_31 : decode mb_Pf_init 31 = .ok (.putfield 23, 3) := by decide +kernel
theorem dc_Pf_init_34 : decode mb_Pf_init 34 = .ok (.aload_n 0, 1) := by decide +kernel
theorem dc_Pf_init_35 : decode mb_Pf_init 35 = .ok (.iconst 0, 1) := by decide +kernel
theorem dc_Pf_init_36 : decode mb_Pf_init 36 = .ok (.putfield 26, 3) := by decide +kernel
theorem dc_Pf_init_39 : decode mb_Pf_init 39 = .ok (.aload_n 0, 1) := by decide +kernel
theorem dc_Pf_init_40 : decode mb_Pf_init 40 = .ok (.iconst 1, 1) := by decide +kernel
theorem dc_Pf_init_41 : decode mb_Pf_init 41 = .ok (.bipush 12, 2) := by decide +kernel
theorem dc_Pf_init_43 : decode mb_Pf_init 43 = .ok (.iload_n 1, 1) := by decide +kernel
theorem dc_Pf_init_44 : decode mb_Pf_init 44 = .ok (.invokestatic 29, 3) := by decide +kernel
theorem dc_Pf_init_47 : decode mb_Pf_init 47 = .ok (.invokestatic 35, 3) := by decide +kernel
theorem dc_Pf_init_50 : decode mb_Pf_init 50 = .ok (.putfield 38, 3) := by decide +kernel
theorem dc_Pf_init_53 : decode mb_Pf_init 53 = .ok (.aload_n 0, 1) := by decide +kernel
theorem dc_Pf_init_54 : decode mb_Pf_init 54 = .ok (.getfield 9, 3) := by decide +kernel
theorem dc_Pf_init_57 : decode mb_Pf_init 57 = .ok (.iconst 0, 1) := by decide +kernel
theorem dc_Pf_init_58 : decode mb_Pf_init 58 = .ok (.iconst 1, 1) := by decide +kernel
theorem dc_Pf_init_59 : decode mb_Pf_init 59 = .ok (.iastore, 1) := by decide +kernel
theorem dc_Pf_init_60 : decode mb_Pf_init 60 = .ok (.return_, 1) := by decide +kernel
theorem dc_Pf_forget_0 : decode mb_Pf_forget 0 = .ok (.aload_n 0, 1) := by decide +kernel
theorem dc_Pf_forget_1 : decode mb_Pf_forget 1 = .ok (.iconst 0, 1) := by decide +kernel
theorem dc_Pf_forget_2 : decode mb_Pf_forget 2 = .ok (.putfield 23, 3) := by decide +kernel
theorem dc_Pf_forget_5 : decode mb_Pf_forget 5 = .ok (.aload_n 0, 1) := by decide +kernel
theorem dc_Pf_forget_6 : decode mb_Pf_forget 6 = .ok (.iconst 0, 1) := by decide +kernel
theorem dc_Pf_forget_7 : decode mb_Pf_forget 7 = .ok (.putfield 26, 3) := by decide +kernel
theorem dc_Pf_forget_10 : decode mb_Pf_forget 10 = .ok (.return_, 1) := by decide +kernel
theorem dc_Pf_capture_0 : decode mb_Pf_capture 0 = .ok (.aload_n 0, 1) := by decide +kernel
theorem dc_Pf_capture_1 : decode mb_Pf_capture 1 = .ok (.getfield 26, 3) := by decide +kernel
theorem dc_Pf_capture_4 : decode mb_Pf_capture 4 = .ok (.aload_n 0, 1) := by decide +kernel
theorem dc_Pf_capture_5 : decode mb_Pf_capture 5 = .ok (.getfield 38, 3) := by decide +kernel
theorem dc_Pf_capture_8 : decode mb_Pf_capture 8 = .ok (.if_icmp .lt 26, 3) := by decide +kernel
theorem dc_Pf_capture_11 : decode mb_Pf_capture 11 = .ok (.aload_n 0, 1) := by decide +kernel
theorem dc_Pf_capture_12 : decode mb_Pf_capture 12 = .ok (.aload_n 0, 1) := by decide +kernel
theorem dc_Pf_capture_13 : decode mb_Pf_capture 13 = .ok (.getfield 23, 3) := by decide +kernel
theorem dc_Pf_capture_16 : decode mb_Pf_capture 16 = .ok (.iconst 1, 1) := by decide +kernel
theorem dc_Pf_capture_17 : decode mb_Pf_capture 17 = .ok (.iadd, 1) := by decide +kernel
theorem dc_Pf_capture_18 : decode mb_Pf_capture 18 = .ok (.bipush 12, 2) := by decide +kernel
theorem dc_Pf_capture_20 : decode mb_Pf_capture 20 = .ok (.irem, 1) := by decide +kernel
theorem dc_Pf_capture_21 : decode mb_Pf_capture 21 = .ok (.putfield 23, 3) := by decide +kernel
theorem dc_Pf_capture_24 : decode mb_Pf_capture 24 = .ok (.aload_n 0, 1) := by decide +kernel
theorem dc_Pf_capture_25 : decode mb_Pf_capture 25 = .ok (.dup, 1) := by decide +kernel
theorem dc_Pf_capture_26 : decode mb_Pf_capture 26 = .ok (.getfield 26, 3) := by decide +kernel
theorem dc_Pf_capture_29 : decode mb_Pf_capture 29 = .ok (.iconst 1, 1) := by decide +kernel
theorem dc_Pf_capture_30 : decode mb_Pf_capture 30 = .ok (.isub, 1) := by decide +kernel
theorem dc_Pf_capture_31 : decode mb_Pf_capture 31 = .ok (.putfield 26, 3) := by decide +kernel
theorem dc_Pf_capture_34 : decode mb_Pf_capture 34 = .ok (.aload_n 0, 1) := by decide +kernel
theorem dc_Pf_capture_35 : decode mb_Pf_capture 35 = .ok (.aload_n 0, 1) := by decide +kernel
theorem dc_Pf_capture_36 : decode mb_Pf_capture 36 = .ok (.getfield 26, 3) := by decide +kernel
theorem dc_Pf_capture_39 : decode mb_Pf_capture 39 = .ok (.invokevirtual 41, 3) := by decide +kernel
theorem dc_Pf_capture_42 : decode mb_Pf_capture 42 = .ok (.istore_n 3, 1) := by decide +kernel
theorem dc_Pf_capture_43 : decode mb_Pf_capture 43 = .ok (.aload_n 0, 1) := by decide +kernel
theorem dc_Pf_capture_44 : decode mb_Pf_capture 44 = .ok (.getfield 13, 3) := by decide +kernel
theorem dc_Pf_capture_47 : decode mb_Pf_capture 47 = .ok (.iload_n 3, 1) := by decide +kernel
theorem dc_Pf_capture_48 : decode mb_Pf_capture 48 = .ok (.iload_n 1, 1) := by decide +kernel
theorem dc_Pf_capture_49 : decode mb_Pf_capture 49 = .ok (.iastore, 1) := by decide +kernel
theorem dc_Pf_capture_50 : decode mb_Pf_capture 50 = .ok (.iconst 1, 1) := by decide +kernel
theorem dc_Pf_capture_51 : decode mb_Pf_capture 51 = .ok (.istore 4, 2) := by decide +kernel
theorem dc_Pf_capture_53 : decode mb_Pf_capture 53 = .ok (.iload 4, 2) := by decide +kernel
theorem dc_Pf_capture_55 : decode mb_Pf_capture 55 = .ok (.aload_n 0, 1) := by decide +kernel
theorem dc_Pf_capture_56 : decode mb_Pf_capture 56 = .ok (.getfield 16, 3) := by decide +kernel
theorem dc_Pf_capture_59 : decode mb_Pf_capture 59 = .ok (.if_icmp .gt 31, 3) := by decide +kernel
theorem dc_Pf_capture_62 : decode mb_Pf_capture 62 = .ok (.aload_n 0, 1) := by decide +kernel
theorem dc_Pf_capture_63 : decode mb_Pf_capture 63 = .ok (.getfield 13, 3) := by decide +kernel
theorem dc_Pf_capture_66 : decode mb_Pf_capture 66 = .ok (.iload_n 3, 1) := by decide +kernel
theorem dc_Pf_capture_67 : decode mb_Pf_capture 67 = .ok (.iload 4, 2) := by decide +kernel
theorem dc_Pf_capture_69 : decode mb_Pf_capture 69 = .ok (.iadd, 1) := by decide +kernel
theorem dc_Pf_capture_70 : decode mb_Pf_capture 70 = .ok (.aload_n 2, 1) := by decide +kernel
theorem dc_Pf_capture_71 : decode mb_Pf_capture 71 = .ok (.aload_n 0, 1) := by decide +kernel
theorem dc_Pf_capture_72 : decode mb_Pf_capture 72 = .ok (.getfield 9, 3) := by decide +kernel
theorem dc_Pf_capture_75 : decode mb_Pf_capture 75 = .ok (.iload 4, 2) := by decide +kernel
theorem dc_Pf_capture_77 : decode mb_Pf_capture 77 = .ok (.iconst 1, 1) := by decide +kernel
theorem dc_Pf_capture_78 : decode mb_Pf_capture 78 = .ok (.isub, 1) := by decide +kernel
theorem dc_Pf_capture_79 : decode mb_Pf_capture 79 = .ok (.iaload, 1) := by decide +kernel
theorem dc_Pf_capture_80 : decode mb_Pf_capture 80 = .ok (.iconst 1, 1) := by decide +kernel
theorem dc_Pf_capture_81 : decode mb_Pf_capture 81 = .ok (.isub, 1) := by decide +kernel
theorem dc_Pf_capture_82 : decode mb_Pf_capture 82 = .ok (.iaload, 1) := by decide +kernel
theorem dc_Pf_capture_83 : decode mb_Pf_capture 83 = .ok (.iastore, 1) := by decide +kernel
theorem dc_Pf_capture_84 : decode mb_Pf_capture 84 = .ok (.iinc 4 1, 3) := by decide +kernel
theorem dc_Pf_capture_87 : decode mb_Pf_capture 87 = .ok (.goto (-34), 3) := by decide +kernel
theorem dc_Pf_capture_90 : decode mb_Pf_capture 90 = .ok (.aload_n 0, 1) := by decide +kernel
theorem dc_Pf_capture_91 : decode mb_Pf_capture 91 = .ok (.dup, 1) := by decide +kernel
theorem dc_Pf_capture_92 : decode mb_Pf_capture 92 = .ok (.getfield 26, 3) := by decide +kernel
theorem dc_Pf_capture_95 : decode mb_Pf_capture 95 = .ok (.iconst 1, 1) := by decide +kernel
theorem dc_Pf_capture_96 : decode mb_Pf_capture 96 = .ok (.iadd, 1) := by decide +kernel
theorem dc_Pf_capture_97 : decode mb_Pf_capture 97 = .ok (.putfield 26, 3) := by decide +kernel
theorem dc_Pf_capture_100 : decode mb_Pf_capture 100 = .ok (.return_, 1) := by decide +kernel
theorem dc_Pf_at_0 : decode mb_Pf_at 0 = .ok (.aload_n 0, 1) := by decide +kernel
theorem dc_Pf_at_1 : decode mb_Pf_at 1 = .ok (.getfield 13, 3) := by decide +kernel
theorem dc_Pf_at_4 : decode mb_Pf_at 4 = .ok (.aload_n 0, 1) := by decide +kernel
theorem dc_Pf_at_5 : decode mb_Pf_at 5 = .ok (.iload_n 1, 1) := by decide +kernel
theorem dc_Pf_at_6 : decode mb_Pf_at 6 = .ok (.invokevirtual 41, 3) := by decide +kernel
theorem dc_Pf_at_9 : decode mb_Pf_at 9 = .ok (.iload_n 2, 1) := by decide +kernel
theorem dc_Pf_at_10 : decode mb_Pf_at 10 = .ok (.iadd, 1) := by decide +kernel
theorem dc_Pf_at_11 : decode mb_Pf_at 11 = .ok (.iaload, 1) := by decide +kernel
theorem dc_Pf_at_12 : decode mb_Pf_at 12 = .ok (.ireturn, 1) := by decide +kernel
theorem dc_Pf_start_0 : decode mb_Pf_start 0 = .ok (.aload_n 0, 1) := by decide +kernel
theorem dc_Pf_start_1 : decode mb_Pf_start 1 = .ok (.getfield 23, 3) := by decide +kernel
theorem dc_Pf_start_4 : decode mb_Pf_start 4 = .ok (.iload_n 1, 1) := by decide +kernel
theorem dc_Pf_start_5 : decode mb_Pf_start 5 = .ok (.iadd, 1) := by decide +kernel
theorem dc_Pf_start_6 : decode mb_Pf_start 6 = .ok (.bipush 12, 2) := by decide +kernel
theorem dc_Pf_start_8 : decode mb_Pf_start 8 = .ok (.irem, 1) := by decide +kernel
theorem dc_Pf_start_9 : decode mb_Pf_start 9 = .ok (.iconst 4, 1) := by decide +kernel
theorem dc_Pf_start_10 : decode mb_Pf_start 10 = .ok (.imul, 1) := by decide +kernel
theorem dc_Pf_start_11 : decode mb_Pf_start 11 = .ok (.ireturn, 1) := by decide +kernel
theorem dc_Pf_writeEntries_0 : decode mb_Pf_writeEntries 0 = .ok (.iconst 0, 1) := by decide +kernel
theorem dc_Pf_writeEntries_1 : decode mb_Pf_writeEntries 1 = .ok (.istore 4, 2) := by decide +kernel
theorem dc_Pf_writeEntries_3 : decode mb_Pf_writeEntries 3 = .ok (.aload_n 1, 1) := by decide +kernel
theorem dc_Pf_writeEntries_4 : decode mb_Pf_writeEntries 4 = .ok (.iconst 1, 1) := by decide +kernel
theorem dc_Pf_writeEntries_5 : decode mb_Pf_writeEntries 5 = .ok (.invokevirtual 47, 3) := by decide +kernel
theorem dc_Pf_writeEntries_8 : decode mb_Pf_writeEntries 8 = .ok (.aload_n 1, 1) := by decide +kernel
theorem dc_Pf_writeEntries_9 : decode mb_Pf_writeEntries 9 = .ok (.iload 4, 2) := by decide +kernel
theorem dc_Pf_writeEntries_11 : decode mb_Pf_writeEntries 11 = .ok (.invokevirtual 47, 3) := by decide +kernel
theorem dc_Pf_writeEntries_14 : decode mb_Pf_writeEntries 14 = .ok (.iconst 0, 1) := by decide +kernel
theorem dc_Pf_writeEntries_15 : decode mb_Pf_writeEntries 15 = .ok (.istore 5, 2) := by decide +kernel
theorem dc_Pf_writeEntries_17 : decode mb_Pf_writeEntries 17 = .ok (.iload 5, 2) := by decide +kernel
theorem dc_Pf_writeEntries_19 : decode mb_Pf_writeEntries 19 = .ok (.aload_n 0, 1) := by decide +kernel
theorem dc_Pf_writeEntries_20 : decode mb_Pf_writeEntries 20 = .ok (.getfield 26, 3) := by decide +kernel
theorem dc_Pf_writeEntries_23 : decode mb_Pf_writeEntries 23 = .ok (.if_icmp .ge 93, 3) := by decide +kernel
theorem dc_Pf_writeEntries_26 : decode mb_Pf_writeEntries 26 = .ok (.aload_n 0, 1) := by decide +kernel
theorem dc_Pf_writeEntries_27 : decode mb_Pf_writeEntries 27 = .ok (.iload 5, 2) := by decide +kernel
theorem dc_Pf_writeEntries_29 : decode mb_Pf_writeEntries 29 = .ok (.invokevirtual 41, 3) := by decide +kernel
theorem dc_Pf_writeEntries_32 : decode mb_Pf_writeEntries 32 = .ok (.istore 6, 2) := by decide +kernel
theorem dc_Pf_writeEntries_34 : decode mb_Pf_writeEntries 34 = .ok (.aload_n 0, 1) := by decide +kernel
theorem dc_Pf_writeEntries_35 : decode mb_Pf_writeEntries 35 = .ok (.getfield 13, 3) := by decide +kernel
theorem dc_Pf_writeEntries_38 : decode mb_Pf_writeEntries 38 = .ok (.iload 6, 2) := by decide +kernel
theorem dc_Pf_writeEntries_40 : decode mb_Pf_writeEntries 40 = .ok (.iaload, 1) := by decide +kernel
theorem dc_Pf_writeEntries_41 : decode mb_Pf_writeEntries 41 = .ok (.iload_n 2, 1) := by decide +kernel
theorem dc_Pf_writeEntries_42 : decode mb_Pf_writeEntries 42 = .ok (.iload_n 3, 1) := by decide +kernel
theorem dc_Pf_writeEntries_43 : decode mb_Pf_writeEntries 43 = .ok (.invokestatic 53, 3) := by decide +kernel
theorem dc_Pf_writeEntries_46 : decode mb_Pf_writeEntries 46 = .ok (.ifCond .eq 64, 3) := by decide +kernel
theorem dc_Pf_writeEntries_49 : decode mb_Pf_writeEntries 49 = .ok (.aload_n 1, 1) := by decide +kernel
theorem dc_Pf_writeEntries_50 : decode mb_Pf_writeEntries 50 = .ok (.iconst 2, 1) := by decide +kernel
theorem dc_Pf_writeEntries_51 : decode mb_Pf_writeEntries 51 = .ok (.invokevirtual 47, 3) := by decide +kernel
theorem dc_Pf_writeEntries_54 : decode mb_Pf_writeEntries 54 = .ok (.aload_n 1, 1) := by decide +kernel
theorem dc_Pf_writeEntries_55 : decode mb_Pf_writeEntries 55 = .ok (.aload_n 0, 1) := by decide +kernel
theorem dc_Pf_writeEntries_56 : decode mb_Pf_writeEntries 56 = .ok (.getfield 16, 3) := by decide +kernel
theorem dc_Pf_writeEntries_59 : decode mb_Pf_writeEntries 59 = .ok (.iconst 1, 1) := by decide +kernel
theorem dc_Pf_writeEntries_60 : decode mb_Pf_writeEntries 60 = .ok (.iadd, 1) := by decide +kernel
theorem dc_Pf_writeEntries_61 : decode mb_Pf_writeEntries 61 = .ok (.invokevirtual 47, 3) := by decide +kernel
theorem dc_Pf_writeEntries_64 : decode mb_Pf_writeEntries 64 = .ok (.iconst 0, 1) := by decide +kernel
theorem dc_Pf_writeEntries_65 : decode mb_Pf_writeEntries 65 = .ok (.istore 7, 2) := by decide +kernel
theorem dc_Pf_writeEntries_67 : decode mb_Pf_writeEntries 67 = .ok (.iload 7, 2) := by decide +kernel
theorem dc_Pf_writeEntries_69 : decode mb_Pf_writeEntries 69 = .ok (.aload_n 0, 1) := by decide +kernel
theorem dc_Pf_writeEntries_70 : decode mb_Pf_writeEntries 70 = .ok (.getfield 16, 3) := by decide +kernel
theorem dc_Pf_writeEntries_73 : decode mb_Pf_writeEntries 73 = .ok (.if_icmp .gt 34, 3) := by decide +kernel
theorem dc_Pf_writeEntries_76 : decode mb_Pf_writeEntries 76 = .ok (.aload_n 1, 1) := by decide +kernel
theorem dc_Pf_writeEntries_77 : decode mb_Pf_writeEntries 77 = .ok (.iload 7, 2) := by decide +kernel
theorem dc_Pf_writeEntries_79 : decode mb_Pf_writeEntries 79 = .ok (.ifCond .ne 8, 3) := by decide +kernel
theorem dc_Pf_writeEntries_82 : decode mb_Pf_writeEntries 82 = .ok (.bipush 6, 2) := by decide +kernel
theorem dc_Pf_writeEntries_84 : decode mb_Pf_writeEntries 84 = .ok (.goto 4, 3) := by decide +kernel
theorem dc_Pf_writeEntries_87 : decode mb_Pf_writeEntries 87 = .ok (.iconst 5, 1) := by decide +kernel
theorem dc_Pf_writeEntries_88 : decode mb_Pf_writeEntries 88 = .ok (.aload_n 0, 1) := by decide +kernel
theorem dc_Pf_writeEntries_89 : decode mb_Pf_writeEntries 89 = .ok (.getfield 13, 3) := by decide +kernel
theorem dc_Pf_writeEntries_92 : decode mb_Pf_writeEntries 92 = .ok (.iload 6, 2) := by decide +kernel
theorem dc_Pf_writeEntries_94 : decode mb_Pf_writeEntries 94 = .ok (.iload 7, 2) := by decide +kernel
theorem dc_Pf_writeEntries_96 : decode mb_Pf_writeEntries 96 = .ok (.iadd, 1) := by decide +kernel
theorem dc_Pf_writeEntries_97 : decode mb_Pf_writeEntries 97 = .ok (.iaload, 1) := by decide +kernel
theorem dc_Pf_writeEntries_98 : decode mb_Pf_writeEntries 98 = .ok (.invokevirtual 57, 3) := by decide +kernel
theorem dc_Pf_writeEntries_101 : decode mb_Pf_writeEntries 101 = .ok (.iinc 7 1, 3) := by decide +kernel
theorem dc_Pf_writeEntries_104 : decode mb_Pf_writeEntries 104 = .ok (.goto (-37), 3) := by decide +kernel
theorem dc_Pf_writeEntries_107 : decode mb_Pf_writeEntries 107 = .ok (.iinc 4 1, 3) := by decide +kernel
theorem dc_Pf_writeEntries_110 : decode mb_Pf_writeEntries 110 = .ok (.iinc 5 1, 3) := by decide +kernel
theorem dc_Pf_writeEntries_113 : decode mb_Pf_writeEntries 113 = .ok (.goto (-96), 3) := by decide +kernel
theorem dc_Pf_writeEntries_116 : decode mb_Pf_writeEntries 116 = .ok (.aload_n 1, 1) := by decide +kernel
theorem dc_Pf_writeEntries_117 : decode mb_Pf_writeEntries 117 = .ok (.iconst 1, 1) := by decide +kernel
theorem dc_Pf_writeEntries_118 : decode mb_Pf_writeEntries 118 = .ok (.iload 4, 2) := by decide +kernel
theorem dc_Pf_writeEntries_120 : decode mb_Pf_writeEntries 120 = .ok (.invokevirtual 61, 3) := by decide +kernel
theorem dc_Pf_writeEntries_123 : decode mb_Pf_writeEntries 123 = .ok (.return_, 1) := by decide +kernel
theorem dc_Pf_isWithin_0 : decode mb_Pf_isWithin 0 = .ok (.iload_n 1, 1) := by decide +kernel
theorem dc_Pf_isWithin_1 : decode mb_Pf_isWithin 1 = .ok (.ifCond .lt 21, 3) := by decide +kernel
theorem dc_Pf_isWithin_4 : decode mb_Pf_isWithin 4 = .ok (.iload_n 1, 1) := by decide +kernel
theorem dc_Pf_isWithin_5 : decode mb_Pf_isWithin 5 = .ok (.iload_n 0, 1) := by decide +kernel
theorem dc_Pf_isWithin_6 : decode mb_Pf_isWithin 6 = .ok (.if_icmp .gt 16, 3) := by decide +kernel
theorem dc_Pf_isWithin_9 : decode mb_Pf_isWithin 9 = .ok (.iload_n 2, 1) := by decide +kernel
theorem dc_Pf_isWithin_10 : decode mb_Pf_isWithin 10 = .ok (.ifCond .lt 8, 3) := by decide +kernel
theorem dc_Pf_isWithin_13 : decode mb_Pf_isWithin 13 = .ok (.iload_n 0, 1) := by decide +kernel
theorem dc_Pf_isWithin_14 : decode mb_Pf_isWithin 14 = .ok (.iload_n 2, 1) := by decide +kernel
theorem dc_Pf_isWithin_15 : decode mb_Pf_isWithin 15 = .ok (.if_icmp .gt 7, 3) := by decide +kernel
theorem dc_Pf_isWithin_18 : decode mb_Pf_isWithin 18 = .ok (.iconst 1, 1) := by decide +kernel
theorem dc_Pf_isWithin_19 : decode mb_Pf_isWithin 19 = .ok (.goto 4, 3) := by decide +kernel
theorem dc_Pf_isWithin_22 : decode mb_Pf_isWithin 22 = .ok (.iconst 0, 1) := by decide +kernel
theorem dc_Pf_isWithin_23 : decode mb_Pf_isWithin 23 = .ok (.ireturn, 1) := by decide +kernel
theorem dc_Pf_writeSetting_0 : decode mb_Pf_writeSetting 0 = .ok (.iload_n 2, 1) := by decide +kernel
theorem dc_Pf_writeSetting_1 : decode mb_Pf_writeSetting 1 = .ok (.iconst 3, 1) := by decide +kernel
theorem dc_Pf_writeSetting_2 : decode mb_Pf_writeSetting 2 = .ok (.if_icmp .ne 11, 3) := by decide +kernel
theorem dc_Pf_writeSetting_5 : decode mb_Pf_writeSetting 5 = .ok (.aload_n 0, 1) := by decide +kernel
theorem dc_Pf_writeSetting_6 : decode mb_Pf_writeSetting 6 = .ok (.aload_n 1, 1) := by decide +kernel
theorem dc_Pf_writeSetting_7 : decode mb_Pf_writeSetting 7 = .ok (.invokevirtual 64, 3) := by decide +kernel
theorem dc_Pf_writeSetting_10 : decode mb_Pf_writeSetting 10 = .ok (.goto 44, 3) := by decide +kernel
theorem dc_Pf_writeSetting_13 : decode mb_Pf_writeSetting 13 = .ok (.iload_n 2, 1) := by decide +kernel
theorem dc_Pf_writeSetting_14 : decode mb_Pf_writeSetting 14 = .ok (.iconst 4, 1) := by decide +kernel
theorem dc_Pf_writeSetting_15 : decode mb_Pf_writeSetting 15 = .ok (.if_icmp .ne 16, 3) := by decide +kernel
theorem dc_Pf_writeSetting_18 : decode mb_Pf_writeSetting 18 = .ok (.aload_n 1, 1) := by decide +kernel
theorem dc_Pf_writeSetting_19 : decode mb_Pf_writeSetting 19 = .ok (.bipush 6, 2) := by decide +kernel
theorem dc_Pf_writeSetting_21 : decode mb_Pf_writeSetting 21 = .ok (.aload_n 0, 1) := by decide +kernel
theorem dc_Pf_writeSetting_22 : decode mb_Pf_writeSetting 22 = .ok (.getfield 20, 3) := by decide +kernel
theorem dc_Pf_writeSetting_25 : decode mb_Pf_writeSetting 25 = .ok (.invokevirtual 57, 3) := by decide +kernel
theorem dc_Pf_writeSetting_28 : decode mb_Pf_writeSetting 28 = .ok (.goto 26, 3) := by decide +kernel
theorem dc_Pf_writeSetting_31 : decode mb_Pf_writeSetting 31 = .ok (.aload_n 1, 1) := by decide +kernel
theorem dc_Pf_writeSetting_32 : decode mb_Pf_writeSetting 32 = .ok (.bipush 6, 2) := by decide +kernel
theorem dc_Pf_writeSetting_34 : decode mb_Pf_writeSetting 34 = .ok (.iload_n 2, 1) := by decide +kernel
theorem dc_Pf_writeSetting_35 : decode mb_Pf_writeSetting 35 = .ok (.bipush 7, 2) := by decide +kernel
theorem dc_Pf_writeSetting_37 : decode mb_Pf_writeSetting 37 = .ok (.if_icmp .ne 10, 3) := by decide +kernel
theorem dc_Pf_writeSetting_40 : decode mb_Pf_writeSetting 40 = .ok (.aload_n 0, 1) := by decide +kernel
theorem dc_Pf_writeSetting_41 : decode mb_Pf_writeSetting 41 = .ok (.getfield 26, 3) := by decide +kernel
theorem dc_Pf_writeSetting_44 : decode mb_Pf_writeSetting 44 = .ok (.goto 7, 3) := by decide +kernel
theorem dc_Pf_writeSetting_47 : decode mb_Pf_writeSetting 47 = .ok (.aload_n 0, 1) := by decide +kernel
theorem dc_Pf_writeSetting_48 : decode mb_Pf_writeSetting 48 = .ok (.getfield 38, 3) := by decide +kernel
theorem dc_Pf_writeSetting_51 : decode mb_Pf_writeSetting 51 = .ok (.invokevirtual 57, 3) := by decide +kernel
theorem dc_Pf_writeSetting_54 : decode mb_Pf_writeSetting 54 = .ok (.return_, 1) := by decide +kernel
theorem dc_Pf_writeColumns_0 : decode mb_Pf_writeColumns 0 = .ok (.aload_n 1, 1) := by decide +kernel
theorem dc_Pf_writeColumns_1 : decode mb_Pf_writeColumns 1 = .ok (.iconst 1, 1) := by decide +kernel
theorem dc_Pf_writeColumns_2 : decode mb_Pf_writeColumns 2 = .ok (.invokevirtual 47, 3) := by decide +kernel
theorem dc_Pf_writeColumns_5 : decode mb_Pf_writeColumns 5 = .ok (.aload_n 1, 1) := by decide +kernel
theorem dc_Pf_writeColumns_6 : decode mb_Pf_writeColumns 6 = .ok (.aload_n 0, 1) := by decide +kernel
theorem dc_Pf_writeColumns_7 : decode mb_Pf_writeColumns 7 = .ok (.getfield 16, 3) := by decide +kernel
theorem dc_Pf_writeColumns_10 : decode mb_Pf_writeColumns 10 = .ok (.invokevirtual 47, 3) := by decide +kernel
theorem dc_Pf_writeColumns_13 : decode mb_Pf_writeColumns 13 = .ok (.iconst 0, 1) := by decide +kernel
theorem dc_Pf_writeColumns_14 : decode mb_Pf_writeColumns 14 = .ok (.istore_n 2, 1) := by decide +kernel
theorem dc_Pf_writeColumns_15 : decode mb_Pf_writeColumns 15 = .ok (.iload_n 2, 1) := by decide +kernel
theorem dc_Pf_writeColumns_16 : decode mb_Pf_writeColumns 16 = .ok (.aload_n 0, 1) := by decide +kernel
theorem dc_Pf_writeColumns_17 : decode mb_Pf_writeColumns 17 = .ok (.getfield 16, 3) := by decide +kernel
theorem dc_Pf_writeColumns_20 : decode mb_Pf_writeColumns 20 = .ok (.if_icmp .ge 25, 3) := by decide +kernel
theorem dc_Pf_writeColumns_23 : decode mb_Pf_writeColumns 23 = .ok (.aload_n 1, 1) := by decide +kernel
theorem dc_Pf_writeColumns_24 : decode mb_Pf_writeColumns 24 = .ok (.bipush 17, 2) := by decide +kernel
theorem dc_Pf_writeColumns_26 : decode mb_Pf_writeColumns 26 = .ok (.invokevirtual 47, 3) := by decide +kernel
theorem dc_Pf_writeColumns_29 : decode mb_Pf_writeColumns 29 = .ok (.aload_n 1, 1) := by decide +kernel
theorem dc_Pf_writeColumns_30 : decode mb_Pf_writeColumns 30 = .ok (.aload_n 0, 1) := by decide +kernel
theorem dc_Pf_writeColumns_31 : decode mb_Pf_writeColumns 31 = .ok (.getfield 9, 3) := by decide +kernel
theorem dc_Pf_writeColumns_34 : decode mb_Pf_writeColumns 34 = .ok (.iload_n 2, 1) := by decide +kernel
theorem dc_Pf_writeColumns_35 : decode mb_Pf_writeColumns 35 = .ok (.iaload, 1) := by decide +kernel
theorem dc_Pf_writeColumns_36 : decode mb_Pf_writeColumns 36 = .ok (.invokevirtual 47, 3) := by decide +kernel
theorem dc_Pf_writeColumns_39 : decode mb_Pf_writeColumns 39 = .ok (.iinc 2 1, 3) := by decide +kernel
theorem dc_Pf_writeColumns_42 : decode mb_Pf_writeColumns 42 = .ok (.goto (-27), 3) := by decide +kernel
theorem dc_Pf_writeColumns_45 : decode mb_Pf_writeColumns 45 = .ok (.return_, 1) := by decide +kernel
theorem dc_Pf_takeColumns_0 : decode mb_Pf_takeColumns 0 = .ok (.aload_n 1, 1) := by decide +kernel
theorem dc_Pf_takeColumns_1 : decode mb_Pf_takeColumns 1 = .ok (.invokestatic 68, 3) := by decide +kernel
theorem dc_Pf_takeColumns_4 : decode mb_Pf_takeColumns 4 = .ok (.ifCond .ne 5, 3) := by decide +kernel
theorem dc_Pf_takeColumns_7 : decode mb_Pf_takeColumns 7 = .ok (.iconst 0, 1) := by decide +kernel
theorem dc_Pf_takeColumns_8 : decode mb_Pf_takeColumns 8 = .ok (.ireturn, 1) := by decide +kernel
theorem dc_Pf_takeColumns_9 : decode mb_Pf_takeColumns 9 = .ok (.aload_n 0, 1) := by decide +kernel
theorem dc_Pf_takeColumns_10 : decode mb_Pf_takeColumns 10 = .ok (.aload_n 1, 1) := by decide +kernel
theorem dc_Pf_takeColumns_11 : decode mb_Pf_takeColumns 11 = .ok (.iconst 4, 1) := by decide +kernel
theorem dc_Pf_takeColumns_12 : decode mb_Pf_takeColumns 12 = .ok (.invokevirtual 72, 3) := by decide +kernel
theorem dc_Pf_takeColumns_15 : decode mb_Pf_takeColumns 15 = .ok (.putfield 16, 3) := by decide +kernel
theorem dc_Pf_takeColumns_18 : decode mb_Pf_takeColumns 18 = .ok (.iconst 0, 1) := by decide +kernel
theorem dc_Pf_takeColumns_19 : decode mb_Pf_takeColumns 19 = .ok (.istore_n 2, 1) := by decide +kernel
theorem dc_Pf_takeColumns_20 : decode mb_Pf_takeColumns 20 = .ok (.iload_n 2, 1) := by decide +kernel
theorem dc_Pf_takeColumns_21 : decode mb_Pf_takeColumns 21 = .ok (.aload_n 0, 1) := by decide +kernel
theorem dc_Pf_takeColumns_22 : decode mb_Pf_takeColumns 22 = .ok (.getfield 16, 3) := by decide +kernel
theorem dc_Pf_takeColumns_25 : decode mb_Pf_takeColumns 25 = .ok (.if_icmp .ge 25, 3) := by decide +kernel
theorem dc_Pf_takeColumns_28 : decode mb_Pf_takeColumns 28 = .ok (.aload_n 0, 1) := by decide +kernel
theorem dc_Pf_takeColumns_29 : decode mb_Pf_takeColumns 29 = .ok (.getfield 9, 3) := by decide +kernel
theorem dc_Pf_takeColumns_32 : decode mb_Pf_takeColumns 32 = .ok (.iload_n 2, 1) := by decide +kernel
theorem dc_Pf_takeColumns_33 : decode mb_Pf_takeColumns 33 = .ok (.aload_n 1, 1) := by decide +kernel
theorem dc_Pf_takeColumns_34 : decode mb_Pf_takeColumns 34 = .ok (.bipush 6, 2) := by decide +kernel
theorem dc_Pf_takeColumns_36 : decode mb_Pf_takeColumns 36 = .ok (.iconst 2, 1) := by decide +kernel
theorem dc_Pf_takeColumns_37 : decode mb_Pf_takeColumns 37 = .ok (.iload_n 2, 1) := by decide +kernel
theorem dc_Pf_takeColumns_38 : decode mb_Pf_takeColumns 38 = .ok (.imul, 1) := by decide +kernel
theorem dc_Pf_takeColumns_39 : decode mb_Pf_takeColumns 39 = .ok (.iadd, 1) := by decide +kernel
theorem dc_Pf_takeColumns_40 : decode mb_Pf_takeColumns 40 = .ok (.invokevirtual 72, 3) := by decide +kernel
theorem dc_Pf_takeColumns_43 : decode mb_Pf_takeColumns 43 = .ok (.iastore, 1) := by decide +kernel
theorem dc_Pf_takeColumns_44 : decode mb_Pf_takeColumns 44 = .ok (.iinc 2 1, 3) := by decide +kernel
theorem dc_Pf_takeColumns_47 : decode mb_Pf_takeColumns 47 = .ok (.goto (-27), 3) := by decide +kernel
theorem dc_Pf_takeColumns_50 : decode mb_Pf_takeColumns 50 = .ok (.aload_n 0, 1) := by decide +kernel
theorem dc_Pf_takeColumns_51 : decode mb_Pf_takeColumns 51 = .ok (.invokevirtual 75, 3) := by decide +kernel
theorem dc_Pf_takeColumns_54 : decode mb_Pf_takeColumns 54 = .ok (.iconst 1, 1) := by decide +kernel
theorem dc_Pf_takeColumns_55 : decode mb_Pf_takeColumns 55 = .ok (.ireturn, 1) := by decide +kernel
theorem dc_Pf_hasColumns_0 : decode mb_Pf_hasColumns 0 = .ok (.aload_n 0, 1) := by decide +kernel
theorem dc_Pf_hasColumns_1 : decode mb_Pf_hasColumns 1 = .ok (.iconst 4, 1) := by decide +kernel
theorem dc_Pf_hasColumns_2 : decode mb_Pf_hasColumns 2 = .ok (.invokevirtual 72, 3) := by decide +kernel
theorem dc_Pf_hasColumns_5 : decode mb_Pf_hasColumns 5 = .ok (.istore_n 1, 1) := by decide +kernel
theorem dc_Pf_hasColumns_6 : decode mb_Pf_hasColumns 6 = .ok (.aload_n 0, 1) := by decide +kernel
theorem dc_Pf_hasColumns_7 : decode mb_Pf_hasColumns 7 = .ok (.iconst 3, 1) := by decide +kernel
theorem dc_Pf_hasColumns_8 : decode mb_Pf_hasColumns 8 = .ok (.invokevirtual 72, 3) := by decide +kernel
theorem dc_Pf_hasColumns_11 : decode mb_Pf_hasColumns 11 = .ok (.iconst 1, 1) := by decide +kernel
theorem dc_Pf_hasColumns_12 : decode mb_Pf_hasColumns 12 = .ok (.if_icmp .ne 25, 3) := by decide +kernel
theorem dc_Pf_hasColumns_15 : decode mb_Pf_hasColumns 15 = .ok (.iload_n 1, 1) := by decide +kernel
theorem dc_Pf_hasColumns_16 : decode mb_Pf_hasColumns 16 = .ok (.iconst 1, 1) := by decide +kernel
theorem dc_Pf_hasColumns_17 : decode mb_Pf_hasColumns 17 = .ok (.if_icmp .lt 20, 3) := by decide +kernel
theorem dc_Pf_hasColumns_20 : decode mb_Pf_hasColumns 20 = .ok (.iload_n 1, 1) := by decide +kernel
theorem dc_Pf_hasColumns_21 : decode mb_Pf_hasColumns 21 = .ok (.iconst 3, 1) := by decide +kernel
theorem dc_Pf_hasColumns_22 : decode mb_Pf_hasColumns 22 = .ok (.if_icmp .gt 15, 3) := by decide +kernel
theorem dc_Pf_hasColumns_25 : decode mb_Pf_hasColumns 25 = .ok (.aload_n 0, 1) := by decide +kernel
theorem dc_Pf_hasColumns_26 : decode mb_Pf_hasColumns 26 = .ok (.getfield 78, 3) := by decide +kernel
theorem dc_Pf_hasColumns_29 : decode mb_Pf_hasColumns 29 = .ok (.iconst 5, 1) := by decide +kernel
theorem dc_Pf_hasColumns_30 : decode mb_Pf_hasColumns 30 = .ok (.iconst 2, 1) := by decide +kernel
theorem dc_Pf_hasColumns_31 : decode mb_Pf_hasColumns 31 = .ok (.iload_n 1, 1) := by decide +kernel
theorem dc_Pf_hasColumns_32 : decode mb_Pf_hasColumns 32 = .ok (.imul, 1) := by decide +kernel
theorem dc_Pf_hasColumns_33 : decode mb_Pf_hasColumns 33 = .ok (.iadd, 1) := by decide +kernel
theorem dc_Pf_hasColumns_34 : decode mb_Pf_hasColumns 34 = .ok (.if_icmp .eq 5, 3) := by decide +kernel
theorem dc_Pf_hasColumns_37 : decode mb_Pf_hasColumns 37 = .ok (.iconst 0, 1) := by decide +kernel
theorem dc_Pf_hasColumns_38 : decode mb_Pf_hasColumns 38 = .ok (.ireturn, 1) := by decide +kernel
theorem dc_Pf_hasColumns_39 : decode mb_Pf_hasColumns 39 = .ok (.iconst 0, 1) := by decide +kernel
theorem dc_Pf_hasColumns_40 : decode mb_Pf_hasColumns 40 = .ok (.istore_n 2, 1) := by decide +kernel
theorem dc_Pf_hasColumns_41 : decode mb_Pf_hasColumns 41 = .ok (.iconst 0, 1) := by decide +kernel
theorem dc_Pf_hasColumns_42 : decode mb_Pf_hasColumns 42 = .ok (.istore_n 3, 1) := by decide +kernel
theorem dc_Pf_hasColumns_43 : decode mb_Pf_hasColumns 43 = .ok (.iload_n 3, 1) := by decide +kernel
theorem dc_Pf_hasColumns_44 : decode mb_Pf_hasColumns 44 = .ok (.iload_n 1, 1) := by decide +kernel
theorem dc_Pf_hasColumns_45 : decode mb_Pf_hasColumns 45 = .ok (.if_icmp .ge 62, 3) := by decide +kernel
theorem dc_Pf_hasColumns_48 : decode mb_Pf_hasColumns 48 = .ok (.aload_n 0, 1) := by decide +kernel
theorem dc_Pf_hasColumns_49 : decode mb_Pf_hasColumns 49 = .ok (.bipush 6, 2) := by decide +kernel
theorem dc_Pf_hasColumns_51 : decode mb_Pf_hasColumns 51 = .ok (.iconst 2, 1) := by decide +kernel
theorem dc_Pf_hasColumns_52 : decode mb_Pf_hasColumns 52 = .ok (.iload_n 3, 1) := by decide +kernel
theorem dc_Pf_hasColumns_53 : decode mb_Pf_hasColumns 53 = .ok (.imul, 1) := by decide +kernel
theorem dc_Pf_hasColumns_54 : decode mb_Pf_hasColumns 54 = .ok (.iadd, 1) := by decide +kernel
theorem dc_Pf_hasColumns_55 : decode mb_Pf_hasColumns 55 = .ok (.invokevirtual 72, 3) := by decide +kernel
theorem dc_Pf_hasColumns_58 : decode mb_Pf_hasColumns 58 = .ok (.istore 4, 2) := by decide +kernel
theorem dc_Pf_hasColumns_60 : decode mb_Pf_hasColumns 60 = .ok (.aload_n 0, 1) := by decide +kernel
theorem dc_Pf_hasColumns_61 : decode mb_Pf_hasColumns 61 = .ok (.iconst 5, 1) := by decide +kernel
theorem dc_Pf_hasColumns_62 : decode mb_Pf_hasColumns 62 = .ok (.iconst 2, 1) := by decide +kernel
theorem dc_Pf_hasColumns_63 : decode mb_Pf_hasColumns 63 = .ok (.iload_n 3, 1) := by decide +kernel
theorem dc_Pf_hasColumns_64 : decode mb_Pf_hasColumns 64 = .ok (.imul, 1) := by decide +kernel
theorem dc_Pf_hasColumns_65 : decode mb_Pf_hasColumns 65 = .ok (.iadd, 1) := by decide +kernel
theorem dc_Pf_hasColumns_66 : decode mb_Pf_hasColumns 66 = .ok (.invokevirtual 72, 3) := by decide +kernel
theorem dc_Pf_hasColumns_69 : decode mb_Pf_hasColumns 69 = .ok (.bipush 17, 2) := by decide +kernel
theorem dc_Pf_hasColumns_71 : decode mb_Pf_hasColumns 71 = .ok (.if_icmp .ne 21, 3) := by decide +kernel
theorem dc_Pf_hasColumns_74 : decode mb_Pf_hasColumns 74 = .ok (.iload 4, 2) := by decide +kernel
theorem dc_Pf_hasColumns_76 : decode mb_Pf_hasColumns 76 = .ok (.invokestatic 79, 3) := by decide +kernel
theorem dc_Pf_hasColumns_79 : decode mb_Pf_hasColumns 79 = .ok (.ifCond .eq 13, 3) := by decide +kernel
theorem dc_Pf_hasColumns_82 : decode mb_Pf_hasColumns 82 = .ok (.iload_n 2, 1) := by decide +kernel
theorem dc_Pf_hasColumns_83 : decode mb_Pf_hasColumns 83 = .ok (.iload 4, 2) := by decide +kernel
theorem dc_Pf_hasColumns_85 : decode mb_Pf_hasColumns 85 = .ok (.ishr, 1) := by decide +kernel
theorem dc_Pf_hasColumns_86 : decode mb_Pf_hasColumns 86 = .ok (.iconst 1, 1) := by decide +kernel
theorem dc_Pf_hasColumns_87 : decode mb_Pf_hasColumns 87 = .ok (.iand, 1) := by decide +kernel
theorem dc_Pf_hasColumns_88 : decode mb_Pf_hasColumns 88 = .ok (.iconst 1, 1) := by decide +kernel
theorem dc_Pf_hasColumns_89 : decode mb_Pf_hasColumns 89 = .ok (.if_icmp .ne 5, 3) := by decide +kernel
theorem dc_Pf_hasColumns_92 : decode mb_Pf_hasColumns 92 = .ok (.iconst 0, 1) := by decide +kernel
theorem dc_Pf_hasColumns_93 : decode mb_Pf_hasColumns 93 = .ok (.ireturn, 1) := by decide +kernel
theorem dc_Pf_hasColumns_94 : decode mb_Pf_hasColumns 94 = .ok (.iload_n 2, 1) := by decide +kernel
theorem dc_Pf_hasColumns_95 : decode mb_Pf_hasColumns 95 = .ok (.iconst 1, 1) := by decide +kernel
theorem dc_Pf_hasColumns_96 : decode mb_Pf_hasColumns 96 = .ok (.iload 4, 2) := by decide +kernel
theorem dc_Pf_hasColumns_98 : decode mb_Pf_hasColumns 98 = .ok (.ishl, 1) := by decide +kernel
theorem dc_Pf_hasColumns_99 : decode mb_Pf_hasColumns 99 = .ok (.ior, 1) := by decide +kernel
theorem dc_Pf_hasColumns_100 : decode mb_Pf_hasColumns 100 = .ok (.istore_n 2, 1) := by decide +kernel
theorem dc_Pf_hasColumns_101 : decode mb_Pf_hasColumns 101 = .ok (.iinc 3 1, 3) := by decide +kernel
theorem dc_Pf_hasColumns_104 : decode mb_Pf_hasColumns 104 = .ok (.goto (-61), 3) := by decide +kernel
theorem dc_Pf_hasColumns_107 : decode mb_Pf_hasColumns 107 = .ok (.iconst 1, 1) := by decide +kernel
theorem dc_Pf_hasColumns_108 : decode mb_Pf_hasColumns 108 = .ok (.ireturn, 1) := by decide +kernel
theorem dc_Pf_takePeriod_0 : decode mb_Pf_takePeriod 0 = .ok (.iload_n 1, 1) := by decide +kernel
theorem dc_Pf_takePeriod_1 : decode mb_Pf_takePeriod 1 = .ok (.ifCond .ge 5, 3) := by decide +kernel
theorem dc_Pf_takePeriod_4 : decode mb_Pf_takePeriod 4 = .ok (.iconst 0, 1) := by decide +kernel
theorem dc_Pf_takePeriod_5 : decode mb_Pf_takePeriod 5 = .ok (.ireturn, 1) := by decide +kernel
theorem dc_Pf_takePeriod_6 : decode mb_Pf_takePeriod 6 = .ok (.aload_n 0, 1) := by decide +kernel
theorem dc_Pf_takePeriod_7 : decode mb_Pf_takePeriod 7 = .ok (.iload_n 1, 1) := by decide +kernel
theorem dc_Pf_takePeriod_8 : decode mb_Pf_takePeriod 8 = .ok (.putfield 20, 3) := by decide +kernel
theorem dc_Pf_takePeriod_11 : decode mb_Pf_takePeriod 11 = .ok (.iconst 1, 1) := by decide +kernel
theorem dc_Pf_takePeriod_12 : decode mb_Pf_takePeriod 12 = .ok (.ireturn, 1) := by decide +kernel
theorem dc_Pf_takeCapacity_0 : decode mb_Pf_takeCapacity 0 = .ok (.iload_n 1, 1) := by decide +kernel
theorem dc_Pf_takeCapacity_1 : decode mb_Pf_takeCapacity 1 = .ok (.iconst 1, 1) := by decide +kernel
theorem dc_Pf_takeCapacity_2 : decode mb_Pf_takeCapacity 2 = .ok (.if_icmp .lt 9, 3) := by decide +kernel
theorem dc_Pf_takeCapacity_5 : decode mb_Pf_takeCapacity 5 = .ok (.iload_n 1, 1) := by decide +kernel
theorem dc_Pf_takeCapacity_6 : decode mb_Pf_takeCapacity 6 = .ok (.bipush 12, 2) := by decide +kernel
theorem dc_Pf_takeCapacity_8 : decode mb_Pf_takeCapacity 8 = .ok (.if_icmp .le 5, 3) := by decide +kernel
theorem dc_Pf_takeCapacity_11 : decode mb_Pf_takeCapacity 11 = .ok (.iconst 0, 1) := by decide +kernel
theorem dc_Pf_takeCapacity_12 : decode mb_Pf_takeCapacity 12 = .ok (.ireturn, 1) := by decide +kernel
theorem dc_Pf_takeCapacity_13 : decode mb_Pf_takeCapacity 13 = .ok (.aload_n 0, 1) := by decide +kernel
theorem dc_Pf_takeCapacity_14 : decode mb_Pf_takeCapacity 14 = .ok (.iload_n 1, 1) := by decide +kernel
theorem dc_Pf_takeCapacity_15 : decode mb_Pf_takeCapacity 15 = .ok (.putfield 38, 3) := by decide +kernel
theorem dc_Pf_takeCapacity_18 : decode mb_Pf_takeCapacity 18 = .ok (.aload_n 0, 1) := by decide +kernel
theorem dc_Pf_takeCapacity_19 : decode mb_Pf_takeCapacity 19 = .ok (.invokevirtual 75, 3) := by decide +kernel
theorem dc_Pf_takeCapacity_22 : decode mb_Pf_takeCapacity 22 = .ok (.iconst 1, 1) := by decide +kernel
theorem dc_Pf_takeCapacity_23 : decode mb_Pf_takeCapacity 23 = .ok (.ireturn, 1) := by decide +kernel
theorem dc_Rw_init_0 : decode mb_Rw_init 0 = .ok (.aload_n 0, 1) := by decide +kernel
theorem dc_Rw_init_1 : decode mb_Rw_init 1 = .ok (.invokespecial 1, 3) := by decide +kernel
theorem dc_Rw_init_4 : decode mb_Rw_init 4 = .ok (.aload_n 0, 1) := by decide +kernel
theorem dc_Rw_init_5 : decode mb_Rw_init 5 = .ok (.iconst 0, 1) := by decide +kernel
theorem dc_Rw_init_6 : decode mb_Rw_init 6 = .ok (.putfield 7, 3) := by decide +kernel
theorem dc_Rw_init_9 : decode mb_Rw_init 9 = .ok (.aload_n 0, 1) := by decide +kernel
theorem dc_Rw_init_10 : decode mb_Rw_init 10 = .ok (.iload_n 1, 1) := by decide +kernel
theorem dc_Rw_init_11 : decode mb_Rw_init 11 = .ok (.newarray .int, 2) := by decide +kernel
theorem dc_Rw_init_13 : decode mb_Rw_init 13 = .ok (.putfield 13, 3) := by decide +kernel
theorem dc_Rw_init_16 : decode mb_Rw_init 16 = .ok (.return_, 1) := by decide +kernel
theorem dc_Rw_isByte_0 : decode mb_Rw_isByte 0 = .ok (.iload_n 0, 1) := by decide +kernel
theorem dc_Rw_isByte_1 : decode mb_Rw_isByte 1 = .ok (.ifCond .lt 14, 3) := by decide +kernel
theorem dc_Rw_isByte_4 : decode mb_Rw_isByte 4 = .ok (.iload_n 0, 1) := by decide +kernel
theorem dc_Rw_isByte_5 : decode mb_Rw_isByte 5 = .ok (.sipush 255, 3) := by decide +kernel
theorem dc_Rw_isByte_8 : decode mb_Rw_isByte 8 = .ok (.if_icmp .gt 7, 3) := by decide +kernel
theorem dc_Rw_isByte_11 : decode mb_Rw_isByte 11 = .ok (.iconst 1, 1) := by decide +kernel
theorem dc_Rw_isByte_12 : decode mb_Rw_isByte 12 = .ok (.goto 4, 3) := by decide +kernel
theorem dc_Rw_isByte_15 : decode mb_Rw_isByte 15 = .ok (.iconst 0, 1) := by decide +kernel
theorem dc_Rw_isByte_16 : decode mb_Rw_isByte 16 = .ok (.ireturn, 1) := by decide +kernel
theorem dc_Rw_drop_0 : decode mb_Rw_drop 0 = .ok (.aload_n 0, 1) := by decide +kernel
theorem dc_Rw_drop_1 : decode mb_Rw_drop 1 = .ok (.iconst 0, 1) := by decide +kernel
theorem dc_Rw_drop_2 : decode mb_Rw_drop 2 = .ok (.putfield 7, 3) := by decide +kernel
theorem dc_Rw_drop_5 : decode mb_Rw_drop 5 = .ok (.return_, 1) := by decide +kernel
theorem dc_Rw_add_0 : decode mb_Rw_add 0 = .ok (.aload_n 0, 1) := by decide +kernel
theorem dc_Rw_add_1 : decode mb_Rw_add 1 = .ok (.getfield 7, 3) := by decide +kernel
theorem dc_Rw_add_4 : decode mb_Rw_add 4 = .ok (.aload_n 0, 1) := by decide +kernel
theorem dc_Rw_add_5 : decode mb_Rw_add 5 = .ok (.getfield 13, 3) := by decide +kernel
theorem dc_Rw_add_8 : decode mb_Rw_add 8 = .ok (.arraylength, 1) := by decide +kernel
theorem dc_Rw_add_9 : decode mb_Rw_add 9 = .ok (.if_icmp .ge 23, 3) := by decide +kernel
theorem dc_Rw_add_12 : decode mb_Rw_add 12 = .ok (.aload_n 0, 1) := by decide +kernel
theorem dc_Rw_add_13 : decode mb_Rw_add 13 = .ok (.getfield 13, 3) := by decide +kernel
theorem dc_Rw_add_16 : decode mb_Rw_add 16 = .ok (.aload_n 0, 1) := by decide +kernel
theorem dc_Rw_add_17 : decode mb_Rw_add 17 = .ok (.getfield 7, 3) := by decide +kernel
theorem dc_Rw_add_20 : decode mb_Rw_add 20 = .ok (.iload_n 1, 1) := by decide +kernel
theorem dc_Rw_add_21 : decode mb_Rw_add 21 = .ok (.iastore, 1) := by decide +kernel
theorem dc_Rw_add_22 : decode mb_Rw_add 22 = .ok (.aload_n 0, 1) := by decide +kernel
theorem dc_Rw_add_23 : decode mb_Rw_add 23 = .ok (.dup, 1) := by decide +kernel
theorem dc_Rw_add_24 : decode mb_Rw_add 24 = .ok (.getfield 7, 3) := by decide +kernel
theorem dc_Rw_add_27 : decode mb_Rw_add 27 = .ok (.iconst 1, 1) := by decide +kernel
theorem dc_Rw_add_28 : decode mb_Rw_add 28 = .ok (.iadd, 1) := by decide +kernel
theorem dc_Rw_add_29 : decode mb_Rw_add 29 = .ok (.putfield 7, 3) := by decide +kernel
theorem dc_Rw_add_32 : decode mb_Rw_add 32 = .ok (.return_, 1) := by decide +kernel
theorem dc_Rw_addInt_0 : decode mb_Rw_addInt 0 = .ok (.aload_n 0, 1) := by decide +kernel
theorem dc_Rw_addInt_1 : decode mb_Rw_addInt 1 = .ok (.getfield 7, 3) := by decide +kernel
theorem dc_Rw_addInt_4 : decode mb_Rw_addInt 4 = .ok (.iconst 4, 1) := by decide +kernel
theorem dc_Rw_addInt_5 : decode mb_Rw_addInt 5 = .ok (.iadd, 1) := by decide +kernel
theorem dc_Rw_addInt_6 : decode mb_Rw_addInt 6 = .ok (.aload_n 0, 1) := by decide +kernel
theorem dc_Rw_addInt_7 : decode mb_Rw_addInt 7 = .ok (.getfield 13, 3) := by decide +kernel
theorem dc_Rw_addInt_10 : decode mb_Rw_addInt 10 = .ok (.arraylength, 1) := by decide +kernel
theorem dc_Rw_addInt_11 : decode mb_Rw_addInt 11 = .ok (.if_icmp .gt 80, 3) := by decide +kernel
theorem dc_Rw_addInt_14 : decode mb_Rw_addInt 14 = .ok (.aload_n 0, 1) := by decide +kernel
theorem dc_Rw_addInt_15 : decode mb_Rw_addInt 15 = .ok (.getfield 13, 3) := by decide +kernel
theorem dc_Rw_addInt_18 : decode mb_Rw_addInt 18 = .ok (.aload_n 0, 1) := by decide +kernel
theorem dc_Rw_addInt_19 : decode mb_Rw_addInt 19 = .ok (.getfield 7, 3) := by decide +kernel
theorem dc_Rw_addInt_22 : decode mb_Rw_addInt 22 = .ok (.iload_n 1, 1) := by decide +kernel
theorem dc_Rw_addInt_23 : decode mb_Rw_addInt 23 = .ok (.bipush 24, 2) := by decide +kernel
theorem dc_Rw_addInt_25 : decode mb_Rw_addInt 25 = .ok (.iushr, 1) := by decide +kernel
theorem dc_Rw_addInt_26 : decode mb_Rw_addInt 26 = .ok (.iastore, 1) := by decide +kernel
theorem dc_Rw_addInt_27 : decode mb_Rw_addInt 27 = .ok (.aload_n 0, 1) := by decide +kernel
theorem dc_Rw_addInt_28 : decode mb_Rw_addInt 28 = .ok (.getfield 13, 3) := by decide +kernel
theorem dc_Rw_addInt_31 : decode mb_Rw_addInt 31 = .ok (.aload_n 0, 1) := by decide +kernel
theorem dc_Rw_addInt_32 : decode mb_Rw_addInt 32 = .ok (.getfield 7, 3) := by decide +kernel
theorem dc_Rw_addInt_35 : decode mb_Rw_addInt 35 = .ok (.iconst 1, 1) := by decide +kernel
theorem dc_Rw_addInt_36 : decode mb_Rw_addInt 36 = .ok (.iadd, 1) := by decide +kernel
theorem dc_Rw_addInt_37 : decode mb_Rw_addInt 37 = .ok (.iload_n 1, 1) := by decide +kernel
theorem dc_Rw_addInt_38 : decode mb_Rw_addInt 38 = .ok (.bipush 16, 2) := by decide +kernel
theorem dc_Rw_addInt_40 : decode mb_Rw_addInt 40 = .ok (.iushr, 1) := by decide +kernel
theorem dc_Rw_addInt_41 : decode mb_Rw_addInt 41 = .ok (.sipush 255, 3) := by decide +kernel
theorem dc_Rw_addInt_44 : decode mb_Rw_addInt 44 = .ok (.iand, 1) := by decide +kernel
theorem dc_Rw_addInt_45 : decode mb_Rw_addInt 45 = .ok (.iastore, 1) := by decide +kernel
theorem dc_Rw_addInt_46 : decode mb_Rw_addInt 46 = .ok (.aload_n 0, 1) := by decide +kernel
theorem dc_Rw_addInt_47 : decode mb_Rw_addInt 47 = .ok (.getfield 13, 3) := by decide +kernel
theorem dc_Rw_addInt_50 : decode mb_Rw_addInt 50 = .ok (.aload_n 0, 1) := by decide +kernel
theorem dc_Rw_addInt_51 : decode mb_Rw_addInt 51 = .ok (.getfield 7, 3) := by decide +kernel
theorem dc_Rw_addInt_54 : decode mb_Rw_addInt 54 = .ok (.iconst 2, 1) := by decide +kernel
theorem dc_Rw_addInt_55 : decode mb_Rw_addInt 55 = .ok (.iadd, 1) := by decide +kernel
theorem dc_Rw_addInt_56 : decode mb_Rw_addInt 56 = .ok (.iload_n 1, 1) := by decide +kernel
theorem dc_Rw_addInt_57 : decode mb_Rw_addInt 57 = .ok (.bipush 8, 2) := by decide +kernel
theorem dc_Rw_addInt_59 : decode mb_Rw_addInt 59 = .ok (.iushr, 1) := by decide +kernel
theorem dc_Rw_addInt_60 : decode mb_Rw_addInt 60 = .ok (.sipush 255, 3) := by decide +kernel
theorem dc_Rw_addInt_63 : decode mb_Rw_addInt 63 = .ok (.iand, 1) := by decide +kernel
theorem dc_Rw_addInt_64 : decode mb_Rw_addInt 64 = .ok (.iastore, 1) := by decide +kernel
theorem dc_Rw_addInt_65 : decode mb_Rw_addInt 65 = .ok (.aload_n 0, 1) := by decide +kernel
theorem dc_Rw_addInt_66 : decode mb_Rw_addInt 66 = .ok (.getfield 13, 3) := by decide +kernel
theorem dc_Rw_addInt_69 : decode mb_Rw_addInt 69 = .ok (.aload_n 0, 1) := by decide +kernel
theorem dc_Rw_addInt_70 : decode mb_Rw_addInt 70 = .ok (.getfield 7, 3) := by decide +kernel
theorem dc_Rw_addInt_73 : decode mb_Rw_addInt 73 = .ok (.iconst 3, 1) := by decide +kernel
theorem dc_Rw_addInt_74 : decode mb_Rw_addInt 74 = .ok (.iadd, 1) := by decide +kernel
theorem dc_Rw_addInt_75 : decode mb_Rw_addInt 75 = .ok (.iload_n 1, 1) := by decide +kernel
theorem dc_Rw_addInt_76 : decode mb_Rw_addInt 76 = .ok (.sipush 255, 3) := by decide +kernel
theorem dc_Rw_addInt_79 : decode mb_Rw_addInt 79 = .ok (.iand, 1) := by decide +kernel
theorem dc_Rw_addInt_80 : decode mb_Rw_addInt 80 = .ok (.iastore, 1) := by decide +kernel
theorem dc_Rw_addInt_81 : decode mb_Rw_addInt 81 = .ok (.aload_n 0, 1) := by decide +kernel
theorem dc_Rw_addInt_82 : decode mb_Rw_addInt 82 = .ok (.dup, 1) := by decide +kernel
theorem dc_Rw_addInt_83 : decode mb_Rw_addInt 83 = .ok (.getfield 7, 3) := by decide +kernel
theorem dc_Rw_addInt_86 : decode mb_Rw_addInt 86 = .ok (.iconst 4, 1) := by decide +kernel
theorem dc_Rw_addInt_87 : decode mb_Rw_addInt 87 = .ok (.iadd, 1) := by decide +kernel
theorem dc_Rw_addInt_88 : decode mb_Rw_addInt 88 = .ok (.putfield 7, 3) := by decide +kernel
theorem dc_Rw_addInt_91 : decode mb_Rw_addInt 91 = .ok (.return_, 1) := by decide +kernel
theorem dc_Rw_addTagged_0 : decode mb_Rw_addTagged 0 = .ok (.aload_n 0, 1) := by decide +kernel
theorem dc_Rw_addTagged_1 : decode mb_Rw_addTagged 1 = .ok (.iload_n 1, 1) := by decide +kernel
theorem dc_Rw_addTagged_2 : decode mb_Rw_addTagged 2 = .ok (.invokevirtual 17, 3) := by decide +kernel
theorem dc_Rw_addTagged_5 : decode mb_Rw_addTagged 5 = .ok (.aload_n 0, 1) := by decide +kernel
theorem dc_Rw_addTagged_6 : decode mb_Rw_addTagged 6 = .ok (.iload_n 2, 1) := by decide +kernel
theorem dc_Rw_addTagged_7 : decode mb_Rw_addTagged 7 = .ok (.invokevirtual 21, 3) := by decide +kernel
theorem dc_Rw_addTagged_10 : decode mb_Rw_addTagged 10 = .ok (.return_, 1) := by decide +kernel
theorem dc_Rw_addPart_0 : decode mb_Rw_addPart 0 = .ok (.iconst 0, 1) := by decide +kernel
theorem dc_Rw_addPart_1 : decode mb_Rw_addPart 1 = .ok (.istore 4, 2) := by decide +kernel
theorem dc_Rw_addPart_3 : decode mb_Rw_addPart 3 = .ok (.iload 4, 2) := by decide +kernel
theorem dc_Rw_addPart_5 : decode mb_Rw_addPart 5 = .ok (.iload_n 3, 1) := by decide +kernel
theorem dc_Rw_addPart_6 : decode mb_Rw_addPart 6 = .ok (.if_icmp .ge 21, 3) := by decide +kernel
theorem dc_Rw_addPart_9 : decode mb_Rw_addPart 9 = .ok (.aload_n 0, 1) := by decide +kernel
theorem dc_Rw_addPart_10 : decode mb_Rw_addPart 10 = .ok (.aload_n 1, 1) := by decide +kernel
theorem dc_Rw_addPart_11 : decode mb_Rw_addPart 11 = .ok (.iload_n 2, 1) := by decide +kernel
theorem dc_Rw_addPart_12 : decode mb_Rw_addPart 12 = .ok (.iload 4, 2) := by decide +kernel
theorem dc_Rw_addPart_14 : decode mb_Rw_addPart 14 = .ok (.iadd, 1) := by decide +kernel
theorem dc_Rw_addPart_15 : decode mb_Rw_addPart 15 = .ok (.invokevirtual 24, 3) := by decide +kernel
theorem dc_Rw_addPart_18 : decode mb_Rw_addPart 18 = .ok (.invokevirtual 17, 3) := by decide +kernel
theorem dc_Rw_addPart_21 : decode mb_Rw_addPart 21 = .ok (.iinc 4 1, 3) := by decide +kernel
theorem dc_Rw_addPart_24 : decode mb_Rw_addPart 24 = .ok (.goto (-21), 3) := by decide +kernel
theorem dc_Rw_addPart_27 : decode mb_Rw_addPart 27 = .ok (.return_, 1) := by decide +kernel
theorem dc_Rw_at_0 : decode mb_Rw_at 0 = .ok (.iload_n 1, 1) := by decide +kernel
theorem dc_Rw_at_1 : decode mb_Rw_at 1 = .ok (.ifCond .lt 20, 3) := by decide +kernel
theorem dc_Rw_at_4 : decode mb_Rw_at 4 = .ok (.iload_n 1, 1) := by decide +kernel
theorem dc_Rw_at_5 : decode mb_Rw_at 5 = .ok (.aload_n 0, 1) := by decide +kernel
theorem dc_Rw_at_6 : decode mb_Rw_at 6 = .ok (.getfield 7, 3) := by decide +kernel
theorem dc_Rw_at_9 : decode mb_Rw_at 9 = .ok (.if_icmp .ge 12, 3) := by decide +kernel
theorem dc_Rw_at_12 : decode mb_Rw_at 12 = .ok (.aload_n 0, 1) := by decide +kernel
theorem dc_Rw_at_13 : decode mb_Rw_at 13 = .ok (.getfield 13, 3) := by decide +kernel
theorem dc_Rw_at_16 : decode mb_Rw_at 16 = .ok (.iload_n 1, 1) := by decide +kernel
theorem dc_Rw_at_17 : decode mb_Rw_at 17 = .ok (.iaload, 1) := by decide +kernel
theorem dc_Rw_at_18 : decode mb_Rw_at 18 = .ok (.goto 4, 3) := by decide +kernel
theorem dc_Rw_at_21 : decode mb_Rw_at 21 = .ok (.iconst (-1), 1) := by decide +kernel
theorem dc_Rw_at_22 : decode mb_Rw_at 22 = .ok (.ireturn, 1) := by decide +kernel
theorem dc_Rw_intAt_0 : decode mb_Rw_intAt 0 = .ok (.aload_n 0, 1) := by decide +kernel
theorem dc_Rw_intAt_1 : decode mb_Rw_intAt 1 = .ok (.iload_n 1, 1) := by decide +kernel
theorem dc_Rw_intAt_2 : decode mb_Rw_intAt 2 = .ok (.invokevirtual 24, 3) := by decide +kernel
theorem dc_Rw_intAt_5 : decode mb_Rw_intAt 5 = .ok (.bipush 24, 2) := by decide +kernel
theorem dc_Rw_intAt_7 : decode mb_Rw_intAt 7 = .ok (.ishl, 1) := by decide +kernel
theorem dc_Rw_intAt_8 : decode mb_Rw_intAt 8 = .ok (.aload_n 0, 1) := by decide +kernel
theorem dc_Rw_intAt_9 : decode mb_Rw_intAt 9 = .ok (.iload_n 1, 1) := by decide +kernel
theorem dc_Rw_intAt_10 : decode mb_Rw_intAt 10 = .ok (.iconst 1, 1) := by decide +kernel
theorem dc_Rw_intAt_11 : decode mb_Rw_intAt 11 = .ok (.iadd, 1) := by decide +kernel
theorem dc_Rw_intAt_12 : decode mb_Rw_intAt 12 = .ok (.invokevirtual 24, 3) := by decide +kernel
theorem dc_Rw_intAt_15 : decode mb_Rw_intAt 15 = .ok (.bipush 16, 2) := by decide +kernel
theorem dc_Rw_intAt_17 : decode mb_Rw_intAt 17 = .ok (.ishl, 1) := by decide +kernel
theorem dc_Rw_intAt_18 : decode mb_Rw_intAt 18 = .ok (.ior, 1) := by decide +kernel
theorem dc_Rw_intAt_19 : decode mb_Rw_intAt 19 = .ok (.aload_n 0, 1) := by decide +kernel
theorem dc_Rw_intAt_20 : decode mb_Rw_intAt 20 = .ok (.iload_n 1, 1) := by decide +kernel
theorem dc_Rw_intAt_21 : decode mb_Rw_intAt 21 = .ok (.iconst 2, 1) := by decide +kernel
theorem dc_Rw_intAt_22 : decode mb_Rw_intAt 22 = .ok (.iadd, 1) := by decide +kernel
theorem dc_Rw_intAt_23 : decode mb_Rw_intAt 23 = .ok (.invokevirtual 24, 3) := by decide +kernel
theorem dc_Rw_intAt_26 : decode mb_Rw_intAt 26 = .ok (.bipush 8, 2) := by decide +kernel
theorem dc_Rw_intAt_28 : decode mb_Rw_intAt 28 = .ok (.ishl, 1) := by decide +kernel
theorem dc_Rw_intAt_29 : decode mb_Rw_intAt 29 = .ok (.ior, 1) := by decide +kernel
theorem dc_Rw_intAt_30 : decode mb_Rw_intAt 30 = .ok (.aload_n 0, 1) := by decide +kernel
theorem dc_Rw_intAt_31 : decode mb_Rw_intAt 31 = .ok (.iload_n 1, 1) := by decide +kernel
theorem dc_Rw_intAt_32 : decode mb_Rw_intAt 32 = .ok (.iconst 3, 1) := by decide +kernel
theorem dc_Rw_intAt_33 : decode mb_Rw_intAt 33 = .ok (.iadd, 1) := by decide +kernel
theorem dc_Rw_intAt_34 : decode mb_Rw_intAt 34 = .ok (.invokevirtual 24, 3) := by decide +kernel
theorem dc_Rw_intAt_37 : decode mb_Rw_intAt 37 = .ok (.ior, 1) := by decide +kernel
theorem dc_Rw_intAt_38 : decode mb_Rw_intAt 38 = .ok (.ireturn, 1) := by decide +kernel
