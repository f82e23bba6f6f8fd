theorem dc_Cn_addFailure_0 : decode mb_Cn_addFailure 0 = .ok (.aload_n 0, 1) := by decide +kernel
theorem dc_Cn_addFailure_1 : decode mb_Cn_addFailure 1 = .ok (.sipush 196, 3) := by decide +kernel
theorem dc_Cn_addFailure_4 : decode mb_Cn_addFailure 4 = .ok (.iconst 1, 1) := by decide +kernel
theorem dc_Cn_addFailure_5 : decode mb_Cn_addFailure 5 = .ok (.invokestatic 119, 3) := by decide +kernel
theorem dc_Cn_addFailure_8 : decode mb_Cn_addFailure 8 = .ok (.aload_n 0, 1) := by decide +kernel
theorem dc_Cn_addFailure_9 : decode mb_Cn_addFailure 9 = .ok (.iconst 1, 1) := by decide +kernel
theorem dc_Cn_addFailure_10 : decode mb_Cn_addFailure 10 = .ok (.iload_n 1, 1) := by decide +kernel
theorem dc_Cn_addFailure_11 : decode mb_Cn_addFailure 11 = .ok (.invokestatic 119, 3) := by decide +kernel
theorem dc_Cn_addFailure_14 : decode mb_Cn_addFailure 14 = .ok (.return_, 1) := by decide +kernel
theorem dc_Cn_addTwo_0 : decode mb_Cn_addTwo 0 = .ok (.aload_n 0, 1) := by decide +kernel
theorem dc_Cn_addTwo_1 : decode mb_Cn_addTwo 1 = .ok (.iload_n 1, 1) := by decide +kernel
theorem dc_Cn_addTwo_2 : decode mb_Cn_addTwo 2 = .ok (.invokevirtual 112, 3) := by decide +kernel
theorem dc_Cn_addTwo_5 : decode mb_Cn_addTwo 5 = .ok (.aload_n 0, 1) := by decide +kernel
theorem dc_Cn_addTwo_6 : decode mb_Cn_addTwo 6 = .ok (.iload_n 2, 1) := by decide +kernel
theorem dc_Cn_addTwo_7 : decode mb_Cn_addTwo 7 = .ok (.invokevirtual 112, 3) := by decide +kernel
theorem dc_Cn_addTwo_10 : decode mb_Cn_addTwo 10 = .ok (.return_, 1) := by decide +kernel
theorem dc_Fr_wrap_0 : decode mb_Fr_wrap 0 = .ok (.aload_n 0, 1) := by decide +kernel
theorem dc_Fr_wrap_1 : decode mb_Fr_wrap 1 = .ok (.getfield 7, 3) := by decide +kernel
theorem dc_Fr_wrap_4 : decode mb_Fr_wrap 4 = .ok (.istore_n 2, 1) := by decide +kernel
theorem dc_Fr_wrap_5 : decode mb_Fr_wrap 5 = .ok (.aload_n 0, 1) := by decide +kernel
theorem dc_Fr_wrap_6 : decode mb_Fr_wrap 6 = .ok (.bipush 6, 2) := by decide +kernel
theorem dc_Fr_wrap_8 : decode mb_Fr_wrap 8 = .ok (.invokevirtual 15, 3) := by decide +kernel
theorem dc_Fr_wrap_11 : decode mb_Fr_wrap 11 = .ok (.aload_n 0, 1) := by decide +kernel
theorem dc_Fr_wrap_12 : decode mb_Fr_wrap 12 = .ok (.iconst 0, 1) := by decide +kernel
theorem dc_Fr_wrap_13 : decode mb_Fr_wrap 13 = .ok (.bipush 126, 2) := by decide +kernel
theorem dc_Fr_wrap_15 : decode mb_Fr_wrap 15 = .ok (.invokevirtual 19, 3) := by decide +kernel
theorem dc_Fr_wrap_18 : decode mb_Fr_wrap 18 = .ok (.aload_n 0, 1) := by decide +kernel
theorem dc_Fr_wrap_19 : decode mb_Fr_wrap 19 = .ok (.iconst 1, 1) := by decide +kernel
theorem dc_Fr_wrap_20 : decode mb_Fr_wrap 20 = .ok (.iload_n 2, 1) := by decide +kernel
theorem dc_Fr_wrap_21 : decode mb_Fr_wrap 21 = .ok (.ifCond .ne 7, 3) := by decide +kernel
theorem dc_Fr_wrap_24 : decode mb_Fr_wrap 24 = .ok (.iconst 5, 1) := by decide +kernel
theorem dc_Fr_wrap_25 : decode mb_Fr_wrap 25 = .ok (.goto 11, 3) := by decide +kernel
theorem dc_Fr_wrap_28 : decode mb_Fr_wrap 28 = .ok (.bipush 6, 2) := by decide +kernel
theorem dc_Fr_wrap_30 : decode mb_Fr_wrap 30 = .ok (.iload_n 2, 1) := by decide +kernel
theorem dc_Fr_wrap_31 : decode mb_Fr_wrap 31 = .ok (.iadd, 1) := by decide +kernel
theorem dc_Fr_wrap_32 : decode mb_Fr_wrap 32 = .ok (.iconst 3, 1) := by decide +kernel
theorem dc_Fr_wrap_33 : decode mb_Fr_wrap 33 = .ok (.iadd, 1) := by decide +kernel
theorem dc_Fr_wrap_34 : decode mb_Fr_wrap 34 = .ok (.iconst 2, 1) := by decide +kernel
theorem dc_Fr_wrap_35 : decode mb_Fr_wrap 35 = .ok (.isub, 1) := by decide +kernel
theorem dc_Fr_wrap_36 : decode mb_Fr_wrap 36 = .ok (.invokevirtual 19, 3) := by decide +kernel
theorem dc_Fr_wrap_39 : decode mb_Fr_wrap 39 = .ok (.aload_n 0, 1) := by decide +kernel
theorem dc_Fr_wrap_40 : decode mb_Fr_wrap 40 = .ok (.iconst 2, 1) := by decide +kernel
theorem dc_Fr_wrap_41 : decode mb_Fr_wrap 41 = .ok (.bipush 17, 2) := by decide +kernel
theorem dc_Fr_wrap_43 : decode mb_Fr_wrap 43 = .ok (.invokevirtual 19, 3) := by decide +kernel
theorem dc_Fr_wrap_46 : decode mb_Fr_wrap 46 = .ok (.aload_n 0, 1) := by decide +kernel
theorem dc_Fr_wrap_47 : decode mb_Fr_wrap 47 = .ok (.iconst 3, 1) := by decide +kernel
theorem dc_Fr_wrap_48 : decode mb_Fr_wrap 48 = .ok (.iload_n 1, 1) := by decide +kernel
theorem dc_Fr_wrap_49 : decode mb_Fr_wrap 49 = .ok (.invokevirtual 19, 3) := by decide +kernel
theorem dc_Fr_wrap_52 : decode mb_Fr_wrap 52 = .ok (.aload_n 0, 1) := by decide +kernel
theorem dc_Fr_wrap_53 : decode mb_Fr_wrap 53 = .ok (.iconst 4, 1) := by decide +kernel
theorem dc_Fr_wrap_54 : decode mb_Fr_wrap 54 = .ok (.invokestatic 23, 3) := by decide +kernel
theorem dc_Fr_wrap_57 : decode mb_Fr_wrap 57 = .ok (.istore_n 3, 1) := by decide +kernel
theorem dc_Fr_wrap_58 : decode mb_Fr_wrap 58 = .ok (.aload_n 0, 1) := by decide +kernel
theorem dc_Fr_wrap_59 : decode mb_Fr_wrap 59 = .ok (.iconst 4, 1) := by decide +kernel
theorem dc_Fr_wrap_60 : decode mb_Fr_wrap 60 = .ok (.iload_n 3, 1) := by decide +kernel
theorem dc_Fr_wrap_61 : decode mb_Fr_wrap 61 = .ok (.sipush 255, 3) := by decide +kernel
theorem dc_Fr_wrap_64 : decode mb_Fr_wrap 64 = .ok (.iand, 1) := by decide +kernel
theorem dc_Fr_wrap_65 : decode mb_Fr_wrap 65 = .ok (.invokevirtual 19, 3) := by decide +kernel
theorem dc_Fr_wrap_68 : decode mb_Fr_wrap 68 = .ok (.aload_n 0, 1) := by decide +kernel
theorem dc_Fr_wrap_69 : decode mb_Fr_wrap 69 = .ok (.iconst 5, 1) := by decide +kernel
theorem dc_Fr_wrap_70 : decode mb_Fr_wrap 70 = .ok (.iload_n 3, 1) := by decide +kernel
theorem dc_Fr_wrap_71 : decode mb_Fr_wrap 71 = .ok (.bipush 8, 2) := by decide +kernel
theorem dc_Fr_wrap_73 : decode mb_Fr_wrap 73 = .ok (.ishr, 1) := by decide +kernel
theorem dc_Fr_wrap_74 : decode mb_Fr_wrap 74 = .ok (.invokevirtual 19, 3) := by decide +kernel
theorem dc_Fr_wrap_77 : decode mb_Fr_wrap 77 = .ok (.iload_n 2, 1) := by decide +kernel
theorem dc_Fr_wrap_78 : decode mb_Fr_wrap 78 = .ok (.ifCond .le 32, 3) := by decide +kernel
theorem dc_Fr_wrap_81 : decode mb_Fr_wrap 81 = .ok (.aload_n 0, 1) := by decide +kernel
theorem dc_Fr_wrap_82 : decode mb_Fr_wrap 82 = .ok (.aload_n 0, 1) := by decide +kernel
theorem dc_Fr_wrap_83 : decode mb_Fr_wrap 83 = .ok (.getfield 7, 3) := by decide +kernel
theorem dc_Fr_wrap_86 : decode mb_Fr_wrap 86 = .ok (.invokestatic 23, 3) := by decide +kernel
theorem dc_Fr_wrap_89 : decode mb_Fr_wrap 89 = .ok (.istore 4, 2) := by decide +kernel
theorem dc_Fr_wrap_91 : decode mb_Fr_wrap 91 = .ok (.aload_n 0, 1) := by decide +kernel
theorem dc_Fr_wrap_92 : decode mb_Fr_wrap 92 = .ok (.iload 4, 2) := by decide +kernel
theorem dc_Fr_wrap_94 : decode mb_Fr_wrap 94 = .ok (.sipush 255, 3) := by decide +kernel
theorem dc_Fr_wrap_97 : decode mb_Fr_wrap 97 = .ok (.iand, 1) := by decide +kernel
theorem dc_Fr_wrap_98 : decode mb_Fr_wrap 98 = .ok (.invokevirtual 27, 3) := by decide +kernel
theorem dc_Fr_wrap_101 : decode mb_Fr_wrap 101 = .ok (.aload_n 0, 1) := by decide +kernel
theorem dc_Fr_wrap_102 : decode mb_Fr_wrap 102 = .ok (.iload 4, 2) := by decide +kernel
theorem dc_Fr_wrap_104 : decode mb_Fr_wrap 104 = .ok (.bipush 8, 2) := by decide +kernel
theorem dc_Fr_wrap_106 : decode mb_Fr_wrap 106 = .ok (.ishr, 1) := by decide +kernel
theorem dc_Fr_wrap_107 : decode mb_Fr_wrap 107 = .ok (.invokevirtual 27, 3) := by decide +kernel
theorem dc_Fr_wrap_110 : decode mb_Fr_wrap 110 = .ok (.aload_n 0, 1) := by decide +kernel
theorem dc_Fr_wrap_111 : decode mb_Fr_wrap 111 = .ok (.bipush 126, 2) := by decide +kernel
theorem dc_Fr_wrap_113 : decode mb_Fr_wrap 113 = .ok (.invokevirtual 27, 3) := by decide +kernel
theorem dc_Fr_wrap_116 : decode mb_Fr_wrap 116 = .ok (.return_, 1) := by decide +kernel
theorem dc_Fr_isFrame_0 : decode mb_Fr_isFrame 0 = .ok (.aload_n 0, 1) := by decide +kernel
theorem dc_Fr_isFrame_1 : decode mb_Fr_isFrame 1 = .ok (.getfield 7, 3) := by decide +kernel
theorem dc_Fr_isFrame_4 : decode mb_Fr_isFrame 4 = .ok (.istore_n 1, 1) := by decide +kernel
theorem dc_Fr_isFrame_5 : decode mb_Fr_isFrame 5 = .ok (.aload_n 0, 1) := by decide +kernel
theorem dc_Fr_isFrame_6 : decode mb_Fr_isFrame 6 = .ok (.invokestatic 30, 3) := by decide +kernel
theorem dc_Fr_isFrame_9 : decode mb_Fr_isFrame 9 = .ok (.istore_n 2, 1) := by decide +kernel
theorem dc_Fr_isFrame_10 : decode mb_Fr_isFrame 10 = .ok (.iload_n 1, 1) := by decide +kernel
theorem dc_Fr_isFrame_11 : decode mb_Fr_isFrame 11 = .ok (.bipush 7, 2) := by decide +kernel
theorem dc_Fr_isFrame_13 : decode mb_Fr_isFrame 13 = .ok (.if_icmp .eq 16, 3) := by decide +kernel
theorem dc_Fr_isFrame_16 : decode mb_Fr_isFrame 16 = .ok (.iload_n 2, 1) := by decide +kernel
theorem dc_Fr_isFrame_17 : decode mb_Fr_isFrame 17 = .ok (.iconst 1, 1) := by decide +kernel
theorem dc_Fr_isFrame_18 : decode mb_Fr_isFrame 18 = .ok (.if_icmp .lt 9, 3) := by decide +kernel
theorem dc_Fr_isFrame_21 : decode mb_Fr_isFrame 21 = .ok (.iload_n 2, 1) := by decide +kernel
theorem dc_Fr_isFrame_22 : decode mb_Fr_isFrame 22 = .ok (.bipush 60, 2) := by decide +kernel
theorem dc_Fr_isFrame_24 : decode mb_Fr_isFrame 24 = .ok (.if_icmp .le 5, 3) := by decide +kernel
theorem dc_Fr_isFrame_27 : decode mb_Fr_isFrame 27 = .ok (.iconst 0, 1) := by decide +kernel
theorem dc_Fr_isFrame_28 : decode mb_Fr_isFrame 28 = .ok (.ireturn, 1) := by decide +kernel
theorem dc_Fr_isFrame_29 : decode mb_Fr_isFrame 29 = .ok (.aload_n 0, 1) := by decide +kernel
theorem dc_Fr_isFrame_30 : decode mb_Fr_isFrame 30 = .ok (.iconst 0, 1) := by decide +kernel
theorem dc_Fr_isFrame_31 : decode mb_Fr_isFrame 31 = .ok (.invokevirtual 34, 3) := by decide +kernel
theorem dc_Fr_isFrame_34 : decode mb_Fr_isFrame 34 = .ok (.bipush 126, 2) := by decide +kernel
theorem dc_Fr_isFrame_36 : decode mb_Fr_isFrame 36 = .ok (.if_icmp .ne 64, 3) := by decide +kernel
theorem dc_Fr_isFrame_39 : decode mb_Fr_isFrame 39 = .ok (.aload_n 0, 1) := by decide +kernel
theorem dc_Fr_isFrame_40 : decode mb_Fr_isFrame 40 = .ok (.iconst 1, 1) := by decide +kernel
theorem dc_Fr_isFrame_41 : decode mb_Fr_isFrame 41 = .ok (.invokevirtual 34, 3) := by decide +kernel
theorem dc_Fr_isFrame_44 : decode mb_Fr_isFrame 44 = .ok (.iload_n 1, 1) := by decide +kernel
theorem dc_Fr_isFrame_45 : decode mb_Fr_isFrame 45 = .ok (.iconst 2, 1) := by decide +kernel
theorem dc_Fr_isFrame_46 : decode mb_Fr_isFrame 46 = .ok (.isub, 1) := by decide +kernel
theorem dc_Fr_isFrame_47 : decode mb_Fr_isFrame 47 = .ok (.if_icmp .ne 53, 3) := by decide +kernel
theorem dc_Fr_isFrame_50 : decode mb_Fr_isFrame 50 = .ok (.aload_n 0, 1) := by decide +kernel
theorem dc_Fr_isFrame_51 : decode mb_Fr_isFrame 51 = .ok (.iconst 2, 1) := by decide +kernel
theorem dc_Fr_isFrame_52 : decode mb_Fr_isFrame 52 = .ok (.invokevirtual 34, 3) := by decide +kernel
theorem dc_Fr_isFrame_55 : decode mb_Fr_isFrame 55 = .ok (.bipush 17, 2) := by decide +kernel
theorem dc_Fr_isFrame_57 : decode mb_Fr_isFrame 57 = .ok (.if_icmp .ne 43, 3) := by decide +kernel
theorem dc_Fr_isFrame_60 : decode mb_Fr_isFrame 60 = .ok (.aload_n 0, 1) := by decide +kernel
theorem dc_Fr_isFrame_61 : decode mb_Fr_isFrame 61 = .ok (.iload_n 1, 1) := by decide +kernel
theorem dc_Fr_isFrame_62 : decode mb_Fr_isFrame 62 = .ok (.iconst 1, 1) := by decide +kernel
theorem dc_Fr_isFrame_63 : decode mb_Fr_isFrame 63 = .ok (.isub, 1) := by decide +kernel
theorem dc_Fr_isFrame_64 : decode mb_Fr_isFrame 64 = .ok (.invokevirtual 34, 3) := by decide +kernel
theorem dc_Fr_isFrame_67 : decode mb_Fr_isFrame 67 = .ok (.bipush 126, 2) := by decide +kernel
theorem dc_Fr_isFrame_69 : decode mb_Fr_isFrame 69 = .ok (.if_icmp .ne 31, 3) := by decide +kernel
theorem dc_Fr_isFrame_72 : decode mb_Fr_isFrame 72 = .ok (.aload_n 0, 1) := by decide +kernel
theorem dc_Fr_isFrame_73 : decode mb_Fr_isFrame 73 = .ok (.iconst 4, 1) := by decide +kernel
theorem dc_Fr_isFrame_74 : decode mb_Fr_isFrame 74 = .ok (.invokestatic 38, 3) := by decide +kernel
theorem dc_Fr_isFrame_77 : decode mb_Fr_isFrame 77 = .ok (.ifCond .eq 23, 3) := by decide +kernel
theorem dc_Fr_isFrame_80 : decode mb_Fr_isFrame 80 = .ok (.iload_n 1, 1) := by decide +kernel
theorem dc_Fr_isFrame_81 : decode mb_Fr_isFrame 81 = .ok (.bipush 7, 2) := by decide +kernel
theorem dc_Fr_isFrame_83 : decode mb_Fr_isFrame 83 = .ok (.if_icmp .eq 13, 3) := by decide +kernel
theorem dc_Fr_isFrame_86 : decode mb_Fr_isFrame 86 = .ok (.aload_n 0, 1) := by decide +kernel
theorem dc_Fr_isFrame_87 : decode mb_Fr_isFrame 87 = .ok (.iload_n 1, 1) := by decide +kernel
theorem dc_Fr_isFrame_88 : decode mb_Fr_isFrame 88 = .ok (.iconst 3, 1) := by decide +kernel
theorem dc_Fr_isFrame_89 : decode mb_Fr_isFrame 89 = .ok (.isub, 1) := by decide +kernel
theorem dc_Fr_isFrame_90 : decode mb_Fr_isFrame 90 = .ok (.invokestatic 38, 3) := by decide +kernel
theorem dc_Fr_isFrame_93 : decode mb_Fr_isFrame 93 = .ok (.ifCond .eq 7, 3) := by decide +kernel
theorem dc_Fr_isFrame_96 : decode mb_Fr_isFrame 96 = .ok (.iconst 1, 1) := by decide +kernel
theorem dc_Fr_isFrame_97 : decode mb_Fr_isFrame 97 = .ok (.goto 4, 3) := by decide +kernel
theorem dc_Fr_isFrame_100 : decode mb_Fr_isFrame 100 = .ok (.iconst 0, 1) := by decide +kernel
theorem dc_Fr_isFrame_101 : decode mb_Fr_isFrame 101 = .ok (.ireturn, 1) := by decide +kernel
theorem dc_Fr_payloadSize_0 : decode mb_Fr_payloadSize 0 = .ok (.aload_n 0, 1) := by decide +kernel
theorem dc_Fr_payloadSize_1 : decode mb_Fr_payloadSize 1 = .ok (.getfield 7, 3) := by decide +kernel
theorem dc_Fr_payloadSize_4 : decode mb_Fr_payloadSize 4 = .ok (.bipush 6, 2) := by decide +kernel
theorem dc_Fr_payloadSize_6 : decode mb_Fr_payloadSize 6 = .ok (.isub, 1) := by decide +kernel
theorem dc_Fr_payloadSize_7 : decode mb_Fr_payloadSize 7 = .ok (.iconst 3, 1) := by decide +kernel
theorem dc_Fr_payloadSize_8 : decode mb_Fr_payloadSize 8 = .ok (.isub, 1) := by decide +kernel
theorem dc_Fr_payloadSize_9 : decode mb_Fr_payloadSize 9 = .ok (.ireturn, 1) := by decide +kernel
theorem dc_Fr_isChecked_0 : decode mb_Fr_isChecked 0 = .ok (.aload_n 0, 1) := by decide +kernel
theorem dc_Fr_isChecked_1 : decode mb_Fr_isChecked 1 = .ok (.iload_n 1, 1) := by decide +kernel
theorem dc_Fr_isChecked_2 : decode mb_Fr_isChecked 2 = .ok (.invokestatic 23, 3) := by decide +kernel
theorem dc_Fr_isChecked_5 : decode mb_Fr_isChecked 5 = .ok (.istore_n 2, 1) := by decide +kernel
theorem dc_Fr_isChecked_6 : decode mb_Fr_isChecked 6 = .ok (.aload_n 0, 1) := by decide +kernel
theorem dc_Fr_isChecked_7 : decode mb_Fr_isChecked 7 = .ok (.iload_n 1, 1) := by decide +kernel
theorem dc_Fr_isChecked_8 : decode mb_Fr_isChecked 8 = .ok (.invokevirtual 34, 3) := by decide +kernel
theorem dc_Fr_isChecked_11 : decode mb_Fr_isChecked 11 = .ok (.iload_n 2, 1) := by decide +kernel
theorem dc_Fr_isChecked_12 : decode mb_Fr_isChecked 12 = .ok (.sipush 255, 3) := by decide +kernel
theorem dc_Fr_isChecked_15 : decode mb_Fr_isChecked 15 = .ok (.iand, 1) := by decide +kernel
theorem dc_Fr_isChecked_16 : decode mb_Fr_isChecked 16 = .ok (.if_icmp .ne 21, 3) := by decide +kernel
theorem dc_Fr_isChecked_19 : decode mb_Fr_isChecked 19 = .ok (.aload_n 0, 1) := by decide +kernel
theorem dc_Fr_isChecked_20 : decode mb_Fr_isChecked 20 = .ok (.iload_n 1, 1) := by decide +kernel
theorem dc_Fr_isChecked_21 : decode mb_Fr_isChecked 21 = .ok (.iconst 1, 1) := by decide +kernel
theorem dc_Fr_isChecked_22 : decode mb_Fr_isChecked 22 = .ok (.iadd, 1) := by decide +kernel
theorem dc_Fr_isChecked_23 : decode mb_Fr_isChecked 23 = .ok (.invokevirtual 34, 3) := by decide +kernel
theorem dc_Fr_isChecked_26 : decode mb_Fr_isChecked 26 = .ok (.iload_n 2, 1) := by decide +kernel
theorem dc_Fr_isChecked_27 : decode mb_Fr_isChecked 27 = .ok (.bipush 8, 2) := by decide +kernel
theorem dc_Fr_isChecked_29 : decode mb_Fr_isChecked 29 = .ok (.ishr, 1) := by decide +kernel
theorem dc_Fr_isChecked_30 : decode mb_Fr_isChecked 30 = .ok (.if_icmp .ne 7, 3) := by decide +kernel
theorem dc_Fr_isChecked_33 : decode mb_Fr_isChecked 33 = .ok (.iconst 1, 1) := by decide +kernel
theorem dc_Fr_isChecked_34 : decode mb_Fr_isChecked 34 = .ok (.goto 4, 3) := by decide +kernel
theorem dc_Fr_isChecked_37 : decode mb_Fr_isChecked 37 = .ok (.iconst 0, 1) := by decide +kernel
theorem dc_Fr_isChecked_38 : decode mb_Fr_isChecked 38 = .ok (.ireturn, 1) := by decide +kernel
theorem dc_Fr_check_0 : decode mb_Fr_check 0 = .ok (.ldc 42, 2) := by decide +kernel
theorem dc_Fr_check_2 : decode mb_Fr_check 2 = .ok (.istore_n 2, 1) := by decide +kernel
theorem dc_Fr_check_3 : decode mb_Fr_check 3 = .ok (.iconst 1, 1) := by decide +kernel
theorem dc_Fr_check_4 : decode mb_Fr_check 4 = .ok (.istore_n 3, 1) := by decide +kernel
theorem dc_Fr_check_5 : decode mb_Fr_check 5 = .ok (.iload_n 3, 1) := by decide +kernel
theorem dc_Fr_check_6 : decode mb_Fr_check 6 = .ok (.iload_n 1, 1) := by decide +kernel
theorem dc_Fr_check_7 : decode mb_Fr_check 7 = .ok (.if_icmp .ge 53, 3) := by decide +kernel
theorem dc_Fr_check_10 : decode mb_Fr_check 10 = .ok (.iload_n 2, 1) := by decide +kernel
theorem dc_Fr_check_11 : decode mb_Fr_check 11 = .ok (.aload_n 0, 1) := by decide +kernel
theorem dc_Fr_check_12 : decode mb_Fr_check 12 = .ok (.iload_n 3, 1) := by decide +kernel
theorem dc_Fr_check_13 : decode mb_Fr_check 13 = .ok (.invokevirtual 34, 3) := by decide +kernel
theorem dc_Fr_check_16 : decode mb_Fr_check 16 = .ok (.ixor, 1) := by decide +kernel
theorem dc_Fr_check_17 : decode mb_Fr_check 17 = .ok (.istore_n 2, 1) := by decide +kernel
theorem dc_Fr_check_18 : decode mb_Fr_check 18 = .ok (.iconst 0, 1) := by decide +kernel
theorem dc_Fr_check_19 : decode mb_Fr_check 19 = .ok (.istore 4, 2) := by decide +kernel
theorem dc_Fr_check_21 : decode mb_Fr_check 21 = .ok (.iload 4, 2) := by decide +kernel
theorem dc_Fr_check_23 : decode mb_Fr_check 23 = .ok (.bipush 8, 2) := by decide +kernel
theorem dc_Fr_check_25 : decode mb_Fr_check 25 = .ok (.if_icmp .ge 29, 3) := by decide +kernel
theorem dc_Fr_check_28 : decode mb_Fr_check 28 = .ok (.iload_n 2, 1) := by decide +kernel
theorem dc_Fr_check_29 : decode mb_Fr_check 29 = .ok (.iconst 1, 1) := by decide +kernel
theorem dc_Fr_check_30 : decode mb_Fr_check 30 = .ok (.iand, 1) := by decide +kernel
theorem dc_Fr_check_31 : decode mb_Fr_check 31 = .ok (.iconst 1, 1) := by decide +kernel
theorem dc_Fr_check_32 : decode mb_Fr_check 32 = .ok (.if_icmp .ne 12, 3) := by decide +kernel
theorem dc_Fr_check_35 : decode mb_Fr_check 35 = .ok (.iload_n 2, 1) := by decide +kernel
theorem dc_Fr_check_36 : decode mb_Fr_check 36 = .ok (.iconst 1, 1) := by decide +kernel
theorem dc_Fr_check_37 : decode mb_Fr_check 37 = .ok (.iushr, 1) := by decide +kernel
theorem dc_Fr_check_38 : decode mb_Fr_check 38 = .ok (.ldc 43, 2) := by decide +kernel
theorem dc_Fr_check_40 : decode mb_Fr_check 40 = .ok (.ixor, 1) := by decide +kernel
theorem dc_Fr_check_41 : decode mb_Fr_check 41 = .ok (.goto 6, 3) := by decide +kernel
theorem dc_Fr_check_44 : decode mb_Fr_check 44 = .ok (.iload_n 2, 1) := by decide +kernel
theorem dc_Fr_check_45 : decode mb_Fr_check 45 = .ok (.iconst 1, 1) := by decide +kernel
theorem dc_Fr_check_46 : decode mb_Fr_check 46 = .ok (.iushr, 1) := by decide +kernel
theorem dc_Fr_check_47 : decode mb_Fr_check 47 = .ok (.istore_n 2, 1) := by decide +kernel
theorem dc_Fr_check_48 : decode mb_Fr_check 48 = .ok (.iinc 4 1, 3) := by decide +kernel
theorem dc_Fr_check_51 : decode mb_Fr_check 51 = .ok (.goto (-30), 3) := by decide +kernel
theorem dc_Fr_check_54 : decode mb_Fr_check 54 = .ok (.iinc 3 1, 3) := by decide +kernel
theorem dc_Fr_check_57 : decode mb_Fr_check 57 = .ok (.goto (-52), 3) := by decide +kernel
theorem dc_Fr_check_60 : decode mb_Fr_check 60 = .ok (.ldc 42, 2) := by decide +kernel
theorem dc_Fr_check_62 : decode mb_Fr_check 62 = .ok (.iload_n 2, 1) := by decide +kernel
theorem dc_Fr_check_63 : decode mb_Fr_check 63 = .ok (.isub, 1) := by decide +kernel
theorem dc_Fr_check_64 : decode mb_Fr_check 64 = .ok (.ireturn, 1) := by decide +kernel
theorem dc_Fr_information_0 : decode mb_Fr_information 0 = .ok (.bipush 16, 2) := by decide +kernel
theorem dc_Fr_information_2 : decode mb_Fr_information 2 = .ok (.iconst 2, 1) := by decide +kernel
theorem dc_Fr_information_3 : decode mb_Fr_information 3 = .ok (.iload_n 0, 1) := by decide +kernel
theorem dc_Fr_information_4 : decode mb_Fr_information 4 = .ok (.imul, 1) := by decide +kernel
theorem dc_Fr_information_5 : decode mb_Fr_information 5 = .ok (.iadd, 1) := by decide +kernel
theorem dc_Fr_information_6 : decode mb_Fr_information 6 = .ok (.bipush 32, 2) := by decide +kernel
theorem dc_Fr_information_8 : decode mb_Fr_information 8 = .ok (.iload_n 1, 1) := by decide +kernel
theorem dc_Fr_information_9 : decode mb_Fr_information 9 = .ok (.imul, 1) := by decide +kernel
theorem dc_Fr_information_10 : decode mb_Fr_information 10 = .ok (.iadd, 1) := by decide +kernel
theorem dc_Fr_information_11 : decode mb_Fr_information 11 = .ok (.ireturn, 1) := by decide +kernel
theorem dc_Fr_isInformation_0 : decode mb_Fr_isInformation 0 = .ok (.iload_n 0, 1) := by decide +kernel
theorem dc_Fr_isInformation_1 : decode mb_Fr_isInformation 1 = .ok (.bipush 17, 2) := by decide +kernel
theorem dc_Fr_isInformation_3 : decode mb_Fr_isInformation 3 = .ok (.iand, 1) := by decide +kernel
theorem dc_Fr_isInformation_4 : decode mb_Fr_isInformation 4 = .ok (.bipush 16, 2) := by decide +kernel
theorem dc_Fr_isInformation_6 : decode mb_Fr_isInformation 6 = .ok (.if_icmp .ne 7, 3) := by decide +kernel
theorem dc_Fr_isInformation_9 : decode mb_Fr_isInformation 9 = .ok (.iconst 1, 1) := by decide +kernel
theorem dc_Fr_isInformation_10 : decode mb_Fr_isInformation 10 = .ok (.goto 4, 3) := by decide +kernel
theorem dc_Fr_isInformation_13 : decode mb_Fr_isInformation 13 = .ok (.iconst 0, 1) := by decide +kernel
theorem dc_Fr_isInformation_14 : decode mb_Fr_isInformation 14 = .ok (.ireturn, 1) := by decide +kernel
theorem dc_Fr_after_0 : decode mb_Fr_after 0 = .ok (.iload_n 0, 1) := by decide +kernel
theorem dc_Fr_after_1 : decode mb_Fr_after 1 = .ok (.iconst 1, 1) := by decide +kernel
theorem dc_Fr_after_2 : decode mb_Fr_after 2 = .ok (.iadd, 1) := by decide +kernel
theorem dc_Fr_after_3 : decode mb_Fr_after 3 = .ok (.bipush 7, 2) := by decide +kernel
theorem dc_Fr_after_5 : decode mb_Fr_after 5 = .ok (.iand, 1) := by decide +kernel
theorem dc_Fr_after_6 : decode mb_Fr_after 6 = .ok (.ireturn, 1) := by decide +kernel
theorem dc_Fr_before_0 : decode mb_Fr_before 0 = .ok (.iload_n 0, 1) := by decide +kernel
theorem dc_Fr_before_1 : decode mb_Fr_before 1 = .ok (.bipush 7, 2) := by decide +kernel
theorem dc_Fr_before_3 : decode mb_Fr_before 3 = .ok (.iadd, 1) := by decide +kernel
theorem dc_Fr_before_4 : decode mb_Fr_before 4 = .ok (.bipush 7, 2) := by decide +kernel
theorem dc_Fr_before_6 : decode mb_Fr_before 6 = .ok (.iand, 1) := by decide +kernel
theorem dc_Fr_before_7 : decode mb_Fr_before 7 = .ok (.ireturn, 1) := by decide +kernel
theorem dc_Mt_init_0 : decode mb_Mt_init 0 = .ok (.aload_n 0, 1) := by decide +kernel
theorem dc_Mt_init_1 : decode mb_Mt_init 1 = .ok (.invokespecial 1, 3) := by decide +kernel
theorem dc_Mt_init_4 : decode mb_Mt_init 4 = .ok (.aload_n 0, 1) := by decide +kernel
theorem dc_Mt_init_5 : decode mb_Mt_init 5 = .ok (.iconst 3, 1) := by decide +kernel
theorem dc_Mt_init_6 : decode mb_Mt_init 6 = .ok (.newarray .int, 2) := by decide +kernel
theorem dc_Mt_init_8 : decode mb_Mt_init 8 = .ok (.putfield 9, 3) := by decide +kernel
theorem dc_Mt_init_11 : decode mb_Mt_init 11 = .ok (.aload_n 0, 1) := by decide +kernel
theorem dc_Mt_init_12 : decode mb_Mt_init 12 = .ok (.iconst 0, 1) := by decide +kernel
theorem dc_Mt_init_13 : decode mb_Mt_init 13 = .ok (.putfield 13, 3) := by decide +kernel
theorem dc_Mt_init_16 : decode mb_Mt_init 16 = .ok (.aload_n 0, 1) := by decide +kernel
theorem dc_Mt_init_17 : decode mb_Mt_init 17 = .ok (.new 17, 3) := by decide +kernel
theorem dc_Mt_init_20 : decode mb_Mt_init 20 = .ok (.dup, 1) := by decide +kernel
theorem dc_Mt_init_21 : decode mb_Mt_init 21 = .ok (.iload_n 1, 1) := by decide +kernel
theorem dc_Mt_init_22 : decode mb_Mt_init 22 = .ok (.invokespecial 19, 3) := by decide +kernel
theorem dc_Mt_init_25 : decode mb_Mt_init 25 = .ok (.putfield 22, 3) := by decide +kernel
theorem dc_Mt_init_28 : decode mb_Mt_init 28 = .ok (.return_, 1) := by decide +kernel
theorem dc_Mt_isRegister_0 : decode mb_Mt_isRegister 0 = .ok (.iload_n 0, 1) := by decide +kernel
theorem dc_Mt_isRegister_1 : decode mb_Mt_isRegister 1 = .ok (.iconst 1, 1) := by decide +kernel
theorem dc_Mt_isRegister_2 : decode mb_Mt_isRegister 2 = .ok (.if_icmp .lt 12, 3) := by decide +kernel
theorem dc_Mt_isRegister_5 : decode mb_Mt_isRegister 5 = .ok (.iload_n 0, 1) := by decide +kernel
theorem dc_Mt_isRegister_6 : decode mb_Mt_isRegister 6 = .ok (.iconst 3, 1) := by decide +kernel
theorem dc_Mt_isRegister_7 : decode mb_Mt_isRegister 7 = .ok (.if_icmp .gt 7, 3) := by decide +kernel
theorem dc_Mt_isRegister_10 : decode mb_Mt_isRegister 10 = .ok (.iconst 1, 1) := by decide +kernel
theorem dc_Mt_isRegister_11 : decode mb_Mt_isRegister 11 = .ok (.goto 4, 3) := by decide +kernel
theorem dc_Mt_isRegister_14 : decode mb_Mt_isRegister 14 = .ok (.iconst 0, 1) := by decide +kernel
theorem dc_Mt_isRegister_15 : decode mb_Mt_isRegister 15 = .ok (.ireturn, 1) := by decide +kernel
theorem dc_Mt_isObject_0 : decode mb_Mt_isObject 0 = .ok (.iload_n 0, 1) := by decide +kernel
theorem dc_Mt_isObject_1 : decode mb_Mt_isObject 1 = .ok (.ifCond .lt 12, 3) := by decide +kernel
theorem dc_Mt_isObject_4 : decode mb_Mt_isObject 4 = .ok (.iload_n 0, 1) := by decide +kernel
theorem dc_Mt_isObject_5 : decode mb_Mt_isObject 5 = .ok (.iconst 4, 1) := by decide +kernel
theorem dc_Mt_isObject_6 : decode mb_Mt_isObject 6 = .ok (.if_icmp .gt 7, 3) := by decide +kernel
theorem dc_Mt_isObject_9 : decode mb_Mt_isObject 9 = .ok (.iconst 1, 1) := by decide +kernel
theorem dc_Mt_isObject_10 : decode mb_Mt_isObject 10 = .ok (.goto 4, 3) := by decide +kernel
theorem dc_Mt_isObject_13 : decode mb_Mt_isObject 13 = .ok (.iconst 0, 1) := by decide +kernel
theorem dc_Mt_isObject_14 : decode mb_Mt_isObject 14 = .ok (.ireturn, 1) := by decide +kernel
theorem dc_Mt_passSecond_0 : decode mb_Mt_passSecond 0 = .ok (.aload_n 0, 1) := by decide +kernel
theorem dc_Mt_passSecond_1 : decode mb_Mt_passSecond 1 = .ok (.aload_n 0, 1) := by decide +kernel
theorem dc_Mt_passSecond_2 : decode mb_Mt_passSecond 2 = .ok (.getfield 13, 3) := by decide +kernel
theorem dc_Mt_passSecond_5 : decode mb_Mt_passSecond 5 = .ok (.ldc 26, 2) := by decide +kernel
theorem dc_Mt_passSecond_7 : decode mb_Mt_passSecond 7 = .ok (.if_icmp .ne 7, 3) := by decide +kernel
theorem dc_Mt_passSecond_10 : decode mb_Mt_passSecond 10 = .ok (.iconst 0, 1) := by decide +kernel
theorem dc_Mt_passSecond_11 : decode mb_Mt_passSecond 11 = .ok (.goto 9, 3) := by decide +kernel
theorem dc_Mt_passSecond_14 : decode mb_Mt_passSecond 14 = .ok (.aload_n 0, 1) := by decide +kernel
theorem dc_Mt_passSecond_15 : decode mb_Mt_passSecond 15 = .ok (.getfield 13, 3) := by decide +kernel
theorem dc_Mt_passSecond_18 : decode mb_Mt_passSecond 18 = .ok (.iconst 1, 1) := by decide +kernel
theorem dc_Mt_passSecond_19 : decode mb_Mt_passSecond 19 = .ok (.iadd, 1) := by decide +kernel
theorem dc_Mt_passSecond_20 : decode mb_Mt_passSecond 20 = .ok (.putfield 13, 3) := by decide +kernel
theorem dc_Mt_passSecond_23 : decode mb_Mt_passSecond 23 = .ok (.aload_n 0, 1) := by decide +kernel
theorem dc_Mt_passSecond_24 : decode mb_Mt_passSecond 24 = .ok (.getfield 22, 3) := by decide +kernel
theorem dc_Mt_passSecond_27 : decode mb_Mt_passSecond 27 = .ok (.getfield 27, 3) := by decide +kernel
theorem dc_Mt_passSecond_30 : decode mb_Mt_passSecond 30 = .ok (.ifCond .eq 33, 3) := by decide +kernel
theorem dc_Mt_passSecond_33 : decode mb_Mt_passSecond 33 = .ok (.aload_n 0, 1) := by decide +kernel
theorem dc_Mt_passSecond_34 : decode mb_Mt_passSecond 34 = .ok (.getfield 13, 3) := by decide +kernel
theorem dc_Mt_passSecond_37 : decode mb_Mt_passSecond 37 = .ok (.aload_n 0, 1) := by decide +kernel
theorem dc_Mt_passSecond_38 : decode mb_Mt_passSecond 38 = .ok (.getfield 22, 3) := by decide +kernel
theorem dc_Mt_passSecond_41 : decode mb_Mt_passSecond 41 = .ok (.getfield 27, 3) := by decide +kernel
theorem dc_Mt_passSecond_44 : decode mb_Mt_passSecond 44 = .ok (.irem, 1) := by decide +kernel
theorem dc_Mt_passSecond_45 : decode mb_Mt_passSecond 45 = .ok (.ifCond .ne 18, 3) := by decide +kernel
theorem dc_Mt_passSecond_48 : decode mb_Mt_passSecond 48 = .ok (.aload_n 0, 1) := by decide +kernel
theorem dc_Mt_passSecond_49 : decode mb_Mt_passSecond 49 = .ok (.getfield 22, 3) := by decide +kernel
theorem dc_Mt_passSecond_52 : decode mb_Mt_passSecond 52 = .ok (.aload_n 0, 1) := by decide +kernel
theorem dc_Mt_passSecond_53 : decode mb_Mt_passSecond 53 = .ok (.getfield 13, 3) := by decide +kernel
theorem dc_Mt_passSecond_56 : decode mb_Mt_passSecond 56 = .ok (.aload_n 0, 1) := by decide +kernel
theorem dc_Mt_passSecond_57 : decode mb_Mt_passSecond 57 = .ok (.getfield 9, 3) := by decide +kernel
theorem dc_Mt_passSecond_60 : decode mb_Mt_passSecond 60 = .ok (.invokevirtual 30, 3) := by decide +kernel
theorem dc_Mt_passSecond_63 : decode mb_Mt_passSecond 63 = .ok (.return_, 1) := by decide +kernel
theorem dc_Mt_isAttribute_0 : decode mb_Mt_isAttribute 0 = .ok (.iload_n 0, 1) := by decide +kernel
theorem dc_Mt_isAttribute_1 : decode mb_Mt_isAttribute 1 = .ok (.ifCond .ne 19, 3) := by decide +kernel
theorem dc_Mt_isAttribute_4 : decode mb_Mt_isAttribute 4 = .ok (.iload_n 1, 1) := by decide +kernel
theorem dc_Mt_isAttribute_5 : decode mb_Mt_isAttribute 5 = .ok (.iconst 1, 1) := by decide +kernel
theorem dc_Mt_isAttribute_6 : decode mb_Mt_isAttribute 6 = .ok (.if_icmp .eq 8, 3) := by decide +kernel
theorem dc_Mt_isAttribute_9 : decode mb_Mt_isAttribute 9 = .ok (.iload_n 1, 1) := by decide +kernel
theorem dc_Mt_isAttribute_10 : decode mb_Mt_isAttribute 10 = .ok (.iconst 2, 1) := by decide +kernel
theorem dc_Mt_isAttribute_11 : decode mb_Mt_isAttribute 11 = .ok (.if_icmp .ne 7, 3) := by decide +kernel
theorem dc_Mt_isAttribute_14 : decode mb_Mt_isAttribute 14 = .ok (.iconst 1, 1) := by decide +kernel
theorem dc_Mt_isAttribute_15 : decode mb_Mt_isAttribute 15 = .ok (.goto 4, 3) := by decide +kernel
theorem dc_Mt_isAttribute_18 : decode mb_Mt_isAttribute 18 = .ok (.iconst 0, 1) := by decide +kernel
theorem dc_Mt_isAttribute_19 : decode mb_Mt_isAttribute 19 = .ok (.ireturn, 1) := by decide +kernel
theorem dc_Mt_isAttribute_20 : decode mb_Mt_isAttribute 20 = .ok (.iload_n 0, 1) := by decide +kernel
theorem dc_Mt_isAttribute_21 : decode mb_Mt_isAttribute 21 = .ok (.iconst 4, 1) := by decide +kernel
theorem dc_Mt_isAttribute_22 : decode mb_Mt_isAttribute 22 = .ok (.if_icmp .ne 31, 3) := by decide +kernel
theorem dc_Mt_isAttribute_25 : decode mb_Mt_isAttribute 25 = .ok (.iload_n 1, 1) := by decide +kernel
theorem dc_Mt_isAttribute_26 : decode mb_Mt_isAttribute 26 = .ok (.iconst 1, 1) := by decide +kernel
theorem dc_Mt_isAttribute_27 : decode mb_Mt_isAttribute 27 = .ok (.if_icmp .lt 8, 3) := by decide +kernel
theorem dc_Mt_isAttribute_30 : decode mb_Mt_isAttribute 30 = .ok (.iload_n 1, 1) := by decide +kernel
theorem dc_Mt_isAttribute_31 : decode mb_Mt_isAttribute 31 = .ok (.iconst 4, 1) := by decide +kernel
theorem dc_Mt_isAttribute_32 : decode mb_Mt_isAttribute 32 = .ok (.if_icmp .le 15, 3) := by decide +kernel
theorem dc_Mt_isAttribute_35 : decode mb_Mt_isAttribute 35 = .ok (.iload_n 1, 1) := by decide +kernel
theorem dc_Mt_isAttribute_36 : decode mb_Mt_isAttribute 36 = .ok (.bipush 7, 2) := by decide +kernel
theorem dc_Mt_isAttribute_38 : decode mb_Mt_isAttribute 38 = .ok (.if_icmp .eq 9, 3) := by decide +kernel
theorem dc_Mt_isAttribute_41 : decode mb_Mt_isAttribute 41 = .ok (.iload_n 1, 1) := by decide +kernel
theorem dc_Mt_isAttribute_42 : decode mb_Mt_isAttribute 42 = .ok (.bipush 8, 2) := by decide +kernel
theorem dc_Mt_isAttribute_44 : decode mb_Mt_isAttribute 44 = .ok (.if_icmp .ne 7, 3) := by decide +kernel
theorem dc_Mt_isAttribute_47 : decode mb_Mt_isAttribute 47 = .ok (.iconst 1, 1) := by decide +kernel
theorem dc_Mt_isAttribute_48 : decode mb_Mt_isAttribute 48 = .ok (.goto 4, 3) := by decide +kernel
theorem dc_Mt_isAttribute_51 : decode mb_Mt_isAttribute 51 = .ok (.iconst 0, 1) := by decide +kernel
theorem dc_Mt_isAttribute_52 : decode mb_Mt_isAttribute 52 = .ok (.ireturn, 1) := by decide +kernel
theorem dc_Mt_isAttribute_53 : decode mb_Mt_isAttribute 53 = .ok (.iload_n 1, 1) := by decide +kernel
theorem dc_Mt_isAttribute_54 : decode mb_Mt_isAttribute 54 = .ok (.iconst 1, 1) := by decide +kernel
theorem dc_Mt_isAttribute_55 : decode mb_Mt_isAttribute 55 = .ok (.if_icmp .lt 12, 3) := by decide +kernel
theorem dc_Mt_isAttribute_58 : decode mb_Mt_isAttribute 58 = .ok (.iload_n 1, 1) := by decide +kernel
theorem dc_Mt_isAttribute_59 : decode mb_Mt_isAttribute 59 = .ok (.iconst 3, 1) := by decide +kernel
theorem dc_Mt_isAttribute_60 : decode mb_Mt_isAttribute 60 = .ok (.if_icmp .gt 7, 3) := by decide +kernel
theorem dc_Mt_isAttribute_63 : decode mb_Mt_isAttribute 63 = .ok (.iconst 1, 1) := by decide +kernel
theorem dc_Mt_isAttribute_64 : decode mb_Mt_isAttribute 64 = .ok (.goto 4, 3) := by decide +kernel
theorem dc_Mt_isAttribute_67 : decode mb_Mt_isAttribute 67 = .ok (.iconst 0, 1) := by decide +kernel
theorem dc_Mt_isAttribute_68 : decode mb_Mt_isAttribute 68 = .ok (.ireturn, 1) := by decide +kernel
theorem dc_Mt_isSettable_0 : decode mb_Mt_isSettable 0 = .ok (.iload_n 0, 1) := by decide +kernel
theorem dc_Mt_isSettable_1 : decode mb_Mt_isSettable 1 = .ok (.iconst 4, 1) := by decide +kernel
theorem dc_Mt_isSettable_2 : decode mb_Mt_isSettable 2 = .ok (.if_icmp .ne 27, 3) := by decide +kernel
theorem dc_Mt_isSettable_5 : decode mb_Mt_isSettable 5 = .ok (.iload_n 1, 1) := by decide +kernel
theorem dc_Mt_isSettable_6 : decode mb_Mt_isSettable 6 = .ok (.iconst 3, 1) := by decide +kernel
theorem dc_Mt_isSettable_7 : decode mb_Mt_isSettable 7 = .ok (.if_icmp .eq 14, 3) := by decide +kernel
theorem dc_Mt_isSettable_10 : decode mb_Mt_isSettable 10 = .ok (.iload_n 1, 1) := by decide +kernel
theorem dc_Mt_isSettable_11 : decode mb_Mt_isSettable 11 = .ok (.iconst 4, 1) := by decide +kernel
theorem dc_Mt_isSettable_12 : decode mb_Mt_isSettable 12 = .ok (.if_icmp .eq 9, 3) := by decide +kernel
theorem dc_Mt_isSettable_15 : decode mb_Mt_isSettable 15 = .ok (.iload_n 1, 1) := by decide +kernel
theorem dc_Mt_isSettable_16 : decode mb_Mt_isSettable 16 = .ok (.bipush 8, 2) := by decide +kernel
theorem dc_Mt_isSettable_18 : decode mb_Mt_isSettable 18 = .ok (.if_icmp .ne 7, 3) := by decide +kernel
theorem dc_Mt_isSettable_21 : decode mb_Mt_isSettable 21 = .ok (.iconst 1, 1) := by decide +kernel
theorem dc_Mt_isSettable_22 : decode mb_Mt_isSettable 22 = .ok (.goto 17, 3) := by decide +kernel
theorem dc_Mt_isSettable_25 : decode mb_Mt_isSettable 25 = .ok (.iconst 0, 1) := by decide +kernel
theorem dc_Mt_isSettable_26 : decode mb_Mt_isSettable 26 = .ok (.goto 13, 3) := by decide +kernel
theorem dc_Mt_isSettable_29 : decode mb_Mt_isSettable 29 = .ok (.iload_n 1, 1) := by decide +kernel
theorem dc_Mt_isSettable_30 : decode mb_Mt_isSettable 30 = .ok (.iconst 2, 1) := by decide +kernel
theorem dc_Mt_isSettable_31 : decode mb_Mt_isSettable 31 = .ok (.if_icmp .ne 7, 3) := by decide +kernel
theorem dc_Mt_isSettable_34 : decode mb_Mt_isSettable 34 = .ok (.iconst 1, 1) := by decide +kernel
theorem dc_Mt_isSettable_35 : decode mb_Mt_isSettable 35 = .ok (.goto 4, 3) := by decide +kernel
theorem dc_Mt_isSettable_38 : decode mb_Mt_isSettable 38 = .ok (.iconst 0, 1) := by decide +kernel
theorem dc_Mt_isSettable_39 : decode mb_Mt_isSettable 39 = .ok (.ireturn, 1) := by decide +kernel
theorem dc_Mt_isMethod_0 : decode mb_Mt_isMethod 0 = .ok (.iload_n 0, 1) := by decide +kernel
theorem dc_Mt_isMethod_1 : decode mb_Mt_isMethod 1 = .ok (.ifCond .ne 14, 3) := by decide +kernel
theorem dc_Mt_isMethod_4 : decode mb_Mt_isMethod 4 = .ok (.iload_n 1, 1) := by decide +kernel
theorem dc_Mt_isMethod_5 : decode mb_Mt_isMethod 5 = .ok (.iconst 3, 1) := by decide +kernel
theorem dc_Mt_isMethod_6 : decode mb_Mt_isMethod 6 = .ok (.if_icmp .ne 7, 3) := by decide +kernel
theorem dc_Mt_isMethod_9 : decode mb_Mt_isMethod 9 = .ok (.iconst 1, 1) := by decide +kernel
theorem dc_Mt_isMethod_10 : decode mb_Mt_isMethod 10 = .ok (.goto 4, 3) := by decide +kernel
theorem dc_Mt_isMethod_13 : decode mb_Mt_isMethod 13 = .ok (.iconst 0, 1) := by decide +kernel
theorem dc_Mt_isMethod_14 : decode mb_Mt_isMethod 14 = .ok (.ireturn, 1) := by decide +kernel
theorem dc_Mt_isMethod_15 : decode mb_Mt_isMethod 15 = .ok (.iload_n 0, 1) := by decide +kernel
theorem dc_Mt_isMethod_16 : decode mb_Mt_isMethod 16 = .ok (.iconst 4, 1) := by decide +kernel
theorem dc_Mt_isMethod_17 : decode mb_Mt_isMethod 17 = .ok (.if_icmp .ne 21, 3) := by decide +kernel
theorem dc_Mt_isMethod_20 : decode mb_Mt_isMethod 20 = .ok (.iload_n 1, 1) := by decide +kernel
theorem dc_Mt_isMethod_21 : decode mb_Mt_isMethod 21 = .ok (.iconst 1, 1) := by decide +kernel
theorem dc_Mt_isMethod_22 : decode mb_Mt_isMethod 22 = .ok (.if_icmp .eq 8, 3) := by decide +kernel
theorem dc_Mt_isMethod_25 : decode mb_Mt_isMethod 25 = .ok (.iload_n 1, 1) := by decide +kernel
theorem dc_Mt_isMethod_26 : decode mb_Mt_isMethod 26 = .ok (.iconst 2, 1) := by decide +kernel
theorem dc_Mt_isMethod_27 : decode mb_Mt_isMethod 27 = .ok (.if_icmp .ne 7, 3) := by decide +kernel
theorem dc_Mt_isMethod_30 : decode mb_Mt_isMethod 30 = .ok (.iconst 1, 1) := by decide +kernel
theorem dc_Mt_isMethod_31 : decode mb_Mt_isMethod 31 = .ok (.goto 17, 3) := by decide +kernel
theorem dc_Mt_isMethod_34 : decode mb_Mt_isMethod 34 = .ok (.iconst 0, 1) := by decide +kernel
theorem dc_Mt_isMethod_35 : decode mb_Mt_isMethod 35 = .ok (.goto 13, 3) := by decide +kernel
theorem dc_Mt_isMethod_38 : decode mb_Mt_isMethod 38 = .ok (.iload_n 1, 1) := by decide +kernel
theorem dc_Mt_isMethod_39 : decode mb_Mt_isMethod 39 = .ok (.iconst 1, 1) := by decide +kernel
theorem dc_Mt_isMethod_40 : decode mb_Mt_isMethod 40 = .ok (.if_icmp .ne 7, 3) := by decide +kernel
theorem dc_Mt_isMethod_43 : decode mb_Mt_isMethod 43 = .ok (.iconst 1, 1) := by decide +kernel
theorem dc_Mt_isMethod_44 : decode mb_Mt_isMethod 44 = .ok (.goto 4, 3) := by decide +kernel
theorem dc_Mt_isMethod_47 : decode mb_Mt_isMethod 47 = .ok (.iconst 0, 1) := by decide +kernel
theorem dc_Mt_isMethod_48 : decode mb_Mt_isMethod 48 = .ok (.ireturn, 1) := by decide +kernel
theorem dc_Mt_resultOfGetting_0 : decode mb_Mt_resultOfGetting 0 = .ok (.iload_n 0, 1) := by decide +kernel
theorem dc_Mt_resultOfGetting_1 : decode mb_Mt_resultOfGetting 1 = .ok (.invokestatic 34, 3) := by decide +kernel
theorem dc_Mt_resultOfGetting_4 : decode mb_Mt_resultOfGetting 4 = .ok (.ifCond .ne 5, 3) := by decide +kernel
theorem dc_Mt_resultOfGetting_7 : decode mb_Mt_resultOfGetting 7 = .ok (.iconst 4, 1) := by decide +kernel
theorem dc_Mt_resultOfGetting_8 : decode mb_Mt_resultOfGetting 8 = .ok (.ireturn, 1) := by decide +kernel
theorem dc_Mt_resultOfGetting_9 : decode mb_Mt_resultOfGetting 9 = .ok (.iload_n 0, 1) := by decide +kernel
theorem dc_Mt_resultOfGetting_10 : decode mb_Mt_resultOfGetting 10 = .ok (.iload_n 1, 1) := by decide +kernel
theorem dc_Mt_resultOfGetting_11 : decode mb_Mt_resultOfGetting 11 = .ok (.invokestatic 38, 3) := by decide +kernel
theorem dc_Mt_resultOfGetting_14 : decode mb_Mt_resultOfGetting 14 = .ok (.ifCond .ne 6, 3) := by decide +kernel
theorem dc_Mt_resultOfGetting_17 : decode mb_Mt_resultOfGetting 17 = .ok (.bipush 9, 2) := by decide +kernel
theorem dc_Mt_resultOfGetting_19 : decode mb_Mt_resultOfGetting 19 = .ok (.ireturn, 1) := by decide +kernel
theorem dc_Mt_resultOfGetting_20 : decode mb_Mt_resultOfGetting 20 = .ok (.iload_n 2, 1) := by decide +kernel
theorem dc_Mt_resultOfGetting_21 : decode mb_Mt_resultOfGetting 21 = .ok (.ifCond .eq 18, 3) := by decide +kernel
theorem dc_Mt_resultOfGetting_24 : decode mb_Mt_resultOfGetting 24 = .ok (.iload_n 0, 1) := by decide +kernel
theorem dc_Mt_resultOfGetting_25 : decode mb_Mt_resultOfGetting 25 = .ok (.iconst 4, 1) := by decide +kernel
theorem dc_Mt_resultOfGetting_26 : decode mb_Mt_resultOfGetting 26 = .ok (.if_icmp .ne 8, 3) := by decide +kernel
theorem dc_Mt_resultOfGetting_29 : decode mb_Mt_resultOfGetting 29 = .ok (.iload_n 1, 1) := by decide +kernel
theorem dc_Mt_resultOfGetting_30 : decode mb_Mt_resultOfGetting 30 = .ok (.iconst 2, 1) := by decide +kernel
theorem dc_Mt_resultOfGetting_31 : decode mb_Mt_resultOfGetting 31 = .ok (.if_icmp .eq 8, 3) := by decide +kernel
theorem dc_Mt_resultOfGetting_34 : decode mb_Mt_resultOfGetting 34 = .ok (.bipush 13, 2) := by decide +kernel
theorem dc_Mt_resultOfGetting_36 : decode mb_Mt_resultOfGetting 36 = .ok (.goto 4, 3) := by decide +kernel
theorem dc_Mt_resultOfGetting_39 : decode mb_Mt_resultOfGetting 39 = .ok (.iconst 0, 1) := by decide +kernel
theorem dc_Mt_resultOfGetting_40 : decode mb_Mt_resultOfGetting 40 = .ok (.ireturn, 1) := by decide +kernel
theorem dc_Mt_write_0 : decode mb_Mt_write 0 = .ok (.iload_n 3, 1) := by decide +kernel
theorem dc_Mt_write_1 : decode mb_Mt_write 1 = .ok (.iconst 1, 1) := by decide +kernel
theorem dc_Mt_write_2 : decode mb_Mt_write 2 = .ok (.if_icmp .ne 27, 3) := by decide +kernel
theorem dc_Mt_write_5 : decode mb_Mt_write 5 = .ok (.aload_n 1, 1) := by decide +kernel
theorem dc_Mt_write_6 : decode mb_Mt_write 6 = .ok (.bipush 9, 2) := by decide +kernel
theorem dc_Mt_write_8 : decode mb_Mt_write 8 = .ok (.invokevirtual 42, 3) := by decide +kernel
theorem dc_Mt_write_11 : decode mb_Mt_write 11 = .ok (.aload_n 1, 1) := by decide +kernel
theorem dc_Mt_write_12 : decode mb_Mt_write 12 = .ok (.iconst 2, 1) := by decide +kernel
theorem dc_Mt_write_13 : decode mb_Mt_write 13 = .ok (.invokevirtual 42, 3) := by decide +kernel
theorem dc_Mt_write_16 : decode mb_Mt_write 16 = .ok (.aload_n 1, 1) := by decide +kernel
theorem dc_Mt_write_17 : decode mb_Mt_write 17 = .ok (.iconst 1, 1) := by decide +kernel
theorem dc_Mt_write_18 : decode mb_Mt_write 18 = .ok (.invokevirtual 42, 3) := by decide +kernel
theorem dc_Mt_write_21 : decode mb_Mt_write 21 = .ok (.aload_n 1, 1) := by decide +kernel
theorem dc_Mt_write_22 : decode mb_Mt_write 22 = .ok (.iload_n 2, 1) := by decide +kernel
theorem dc_Mt_write_23 : decode mb_Mt_write 23 = .ok (.invokevirtual 42, 3) := by decide +kernel
theorem dc_Mt_write_26 : decode mb_Mt_write 26 = .ok (.goto 76, 3) := by decide +kernel
theorem dc_Mt_write_29 : decode mb_Mt_write 29 = .ok (.iload_n 2, 1) := by decide +kernel
theorem dc_Mt_write_30 : decode mb_Mt_write 30 = .ok (.ifCond .ne 16, 3) := by decide +kernel
theorem dc_Mt_write_33 : decode mb_Mt_write 33 = .ok (.aload_n 1, 1) := by decide +kernel
theorem dc_Mt_write_34 : decode mb_Mt_write 34 = .ok (.bipush 6, 2) := by decide +kernel
theorem dc_Mt_write_36 : decode mb_Mt_write 36 = .ok (.aload_n 0, 1) := by decide +kernel
theorem dc_Mt_write_37 : decode mb_Mt_write 37 = .ok (.getfield 13, 3) := by decide +kernel
theorem dc_Mt_write_40 : decode mb_Mt_write 40 = .ok (.invokevirtual 47, 3) := by decide +kernel
theorem dc_Mt_write_43 : decode mb_Mt_write 43 = .ok (.goto 59, 3) := by decide +kernel
theorem dc_Mt_write_46 : decode mb_Mt_write 46 = .ok (.iload_n 2, 1) := by decide +kernel
theorem dc_Mt_write_47 : decode mb_Mt_write 47 = .ok (.iconst 4, 1) := by decide +kernel
theorem dc_Mt_write_48 : decode mb_Mt_write 48 = .ok (.if_icmp .ne 23, 3) := by decide +kernel
theorem dc_Mt_write_51 : decode mb_Mt_write 51 = .ok (.iload_n 3, 1) := by decide +kernel
theorem dc_Mt_write_52 : decode mb_Mt_write 52 = .ok (.iconst 2, 1) := by decide +kernel
theorem dc_Mt_write_53 : decode mb_Mt_write 53 = .ok (.if_icmp .ne 18, 3) := by decide +kernel
theorem dc_Mt_write_56 : decode mb_Mt_write 56 = .ok (.aload_n 0, 1) := by decide +kernel
theorem dc_Mt_write_57 : decode mb_Mt_write 57 = .ok (.getfield 22, 3) := by decide +kernel
theorem dc_Mt_write_60 : decode mb_Mt_write 60 = .ok (.aload_n 1, 1) := by decide +kernel
theorem dc_Mt_write_61 : decode mb_Mt_write 61 = .ok (.iload 4, 2) := by decide +kernel
theorem dc_Mt_write_63 : decode mb_Mt_write 63 = .ok (.iload 5, 2) := by decide +kernel
theorem dc_Mt_write_65 : decode mb_Mt_write 65 = .ok (.invokevirtual 51, 3) := by decide +kernel
theorem dc_Mt_write_68 : decode mb_Mt_write 68 = .ok (.goto 34, 3) := by decide +kernel
theorem dc_Mt_write_71 : decode mb_Mt_write 71 = .ok (.iload_n 2, 1) := by decide +kernel
theorem dc_Mt_write_72 : decode mb_Mt_write 72 = .ok (.iconst 4, 1) := by decide +kernel
theorem dc_Mt_write_73 : decode mb_Mt_write 73 = .ok (.if_icmp .ne 15, 3) := by decide +kernel
theorem dc_Mt_write_76 : decode mb_Mt_write 76 = .ok (.aload_n 0, 1) := by decide +kernel
theorem dc_Mt_write_77 : decode mb_Mt_write 77 = .ok (.getfield 22, 3) := by decide +kernel
theorem dc_Mt_write_80 : decode mb_Mt_write 80 = .ok (.aload_n 1, 1) := by decide +kernel
theorem dc_Mt_write_81 : decode mb_Mt_write 81 = .ok (.iload_n 3, 1) := by decide +kernel
theorem dc_Mt_write_82 : decode mb_Mt_write 82 = .ok (.invokevirtual 55, 3) := by decide +kernel
theorem dc_Mt_write_85 : decode mb_Mt_write 85 = .ok (.goto 17, 3) := by decide +kernel
theorem dc_Mt_write_88 : decode mb_Mt_write 88 = .ok (.iload_n 2, 1) := by decide +kernel
theorem dc_Mt_write_89 : decode mb_Mt_write 89 = .ok (.invokestatic 59, 3) := by decide +kernel
theorem dc_Mt_write_92 : decode mb_Mt_write 92 = .ok (.ifCond .eq 10, 3) := by decide +kernel
theorem dc_Mt_write_95 : decode mb_Mt_write 95 = .ok (.aload_n 0, 1) := by decide +kernel
theorem dc_Mt_write_96 : decode mb_Mt_write 96 = .ok (.aload_n 1, 1) := by decide +kernel
theorem dc_Mt_write_97 : decode mb_Mt_write 97 = .ok (.iload_n 2, 1) := by decide +kernel
theorem dc_Mt_write_98 : decode mb_Mt_write 98 = .ok (.iload_n 3, 1) := by decide +kernel
theorem dc_Mt_write_99 : decode mb_Mt_write 99 = .ok (.invokevirtual 62, 3) := by decide +kernel
theorem dc_Mt_write_102 : decode mb_Mt_write 102 = .ok (.return_, 1) := by decide +kernel
theorem dc_Mt_writeRegister_0 : decode mb_Mt_writeRegister 0 = .ok (.iload_n 3, 1) := by decide +kernel
theorem dc_Mt_writeRegister_1 : decode mb_Mt_writeRegister 1 = .ok (.iconst 2, 1) := by decide +kernel
theorem dc_Mt_writeRegister_2 : decode mb_Mt_writeRegister 2 = .ok (.if_icmp .ne 19, 3) := by decide +kernel
theorem dc_Mt_writeRegister_5 : decode mb_Mt_writeRegister 5 = .ok (.aload_n 1, 1) := by decide +kernel
theorem dc_Mt_writeRegister_6 : decode mb_Mt_writeRegister 6 = .ok (.iconst 5, 1) := by decide +kernel
theorem dc_Mt_writeRegister_7 : decode mb_Mt_writeRegister 7 = .ok (.aload_n 0, 1) := by decide +kernel
theorem dc_Mt_writeRegister_8 : decode mb_Mt_writeRegister 8 = .ok (.getfield 9, 3) := by decide +kernel
theorem dc_Mt_writeRegister_11 : decode mb_Mt_writeRegister 11 = .ok (.iload_n 2, 1) := by decide +kernel
theorem dc_Mt_writeRegister_12 : decode mb_Mt_writeRegister 12 = .ok (.iconst 1, 1) := by decide +kernel
theorem dc_Mt_writeRegister_13 : decode mb_Mt_writeRegister 13 = .ok (.isub, 1) := by decide +kernel
theorem dc_Mt_writeRegister_14 : decode mb_Mt_writeRegister 14 = .ok (.iaload, 1) := by decide +kernel
theorem dc_Mt_writeRegister_15 : decode mb_Mt_writeRegister 15 = .ok (.invokevirtual 47, 3) := by decide +kernel
theorem dc_Mt_writeRegister_18 : decode mb_Mt_writeRegister 18 = .ok (.goto 44, 3) := by decide +kernel
theorem dc_Mt_writeRegister_21 : decode mb_Mt_writeRegister 21 = .ok (.aload_n 1, 1) := by decide +kernel
theorem dc_Mt_writeRegister_22 : decode mb_Mt_writeRegister 22 = .ok (.iconst 2, 1) := by decide +kernel
theorem dc_Mt_writeRegister_23 : decode mb_Mt_writeRegister 23 = .ok (.invokevirtual 42, 3) := by decide +kernel
theorem dc_Mt_writeRegister_26 : decode mb_Mt_writeRegister 26 = .ok (.aload_n 1, 1) := by decide +kernel
theorem dc_Mt_writeRegister_27 : decode mb_Mt_writeRegister 27 = .ok (.iconst 2, 1) := by decide +kernel
theorem dc_Mt_writeRegister_28 : decode mb_Mt_writeRegister 28 = .ok (.invokevirtual 42, 3) := by decide +kernel
theorem dc_Mt_writeRegister_31 : decode mb_Mt_writeRegister 31 = .ok (.aload_n 1, 1) := by decide +kernel
theorem dc_Mt_writeRegister_32 : decode mb_Mt_writeRegister 32 = .ok (.bipush 15, 2) := by decide +kernel
theorem dc_Mt_writeRegister_34 : decode mb_Mt_writeRegister 34 = .ok (.invokevirtual 42, 3) := by decide +kernel
theorem dc_Mt_writeRegister_37 : decode mb_Mt_writeRegister 37 = .ok (.aload_n 1, 1) := by decide +kernel
theorem dc_Mt_writeRegister_38 : decode mb_Mt_writeRegister 38 = .ok (.iload_n 2, 1) := by decide +kernel
theorem dc_Mt_writeRegister_39 : decode mb_Mt_writeRegister 39 = .ok (.iconst 2, 1) := by decide +kernel
theorem dc_Mt_writeRegister_40 : decode mb_Mt_writeRegister 40 = .ok (.isub, 1) := by decide +kernel
theorem dc_Mt_writeRegister_41 : decode mb_Mt_writeRegister 41 = .ok (.sipush 255, 3) := by decide +kernel
theorem dc_Mt_writeRegister_44 : decode mb_Mt_writeRegister 44 = .ok (.iand, 1) := by decide +kernel
theorem dc_Mt_writeRegister_45 : decode mb_Mt_writeRegister 45 = .ok (.invokevirtual 42, 3) := by decide +kernel
theorem dc_Mt_writeRegister_48 : decode mb_Mt_writeRegister 48 = .ok (.aload_n 1, 1) := by decide +kernel
theorem dc_Mt_writeRegister_49 : decode mb_Mt_writeRegister 49 = .ok (.bipush 22, 2) := by decide +kernel
theorem dc_Mt_writeRegister_51 : decode mb_Mt_writeRegister 51 = .ok (.invokevirtual 42, 3) := by decide +kernel
theorem dc_Mt_writeRegister_54 : decode mb_Mt_writeRegister 54 = .ok (.aload_n 1, 1) := by decide +kernel
theorem dc_Mt_writeRegister_55 : decode mb_Mt_writeRegister 55 = .ok (.bipush 27, 2) := by decide +kernel
theorem dc_Mt_writeRegister_57 : decode mb_Mt_writeRegister 57 = .ok (.iload_n 2, 1) := by decide +kernel
theorem dc_Mt_writeRegister_58 : decode mb_Mt_writeRegister 58 = .ok (.iadd, 1) := by decide +kernel
theorem dc_Mt_writeRegister_59 : decode mb_Mt_writeRegister 59 = .ok (.invokevirtual 42, 3) := by decide +kernel
theorem dc_Mt_writeRegister_62 : decode mb_Mt_writeRegister 62 = .ok (.return_, 1) := by decide +kernel
theorem dc_Mt_set_0 : decode mb_Mt_set 0 = .ok (.aload_n 1, 1) := by decide +kernel
theorem dc_Mt_set_1 : decode mb_Mt_set 1 = .ok (.iconst 1, 1) := by decide +kernel
theorem dc_Mt_set_2 : decode mb_Mt_set 2 = .ok (.invokevirtual 65, 3) := by decide +kernel
theorem dc_Mt_set_5 : decode mb_Mt_set 5 = .ok (.istore_n 3, 1) := by decide +kernel
theorem dc_Mt_set_6 : decode mb_Mt_set 6 = .ok (.aload_n 1, 1) := by decide +kernel
theorem dc_Mt_set_7 : decode mb_Mt_set 7 = .ok (.iconst 2, 1) := by decide +kernel
theorem dc_Mt_set_8 : decode mb_Mt_set 8 = .ok (.invokevirtual 65, 3) := by decide +kernel
theorem dc_Mt_set_11 : decode mb_Mt_set 11 = .ok (.istore 4, 2) := by decide +kernel
theorem dc_Mt_set_13 : decode mb_Mt_set 13 = .ok (.iload_n 3, 1) := by decide +kernel
theorem dc_Mt_set_14 : decode mb_Mt_set 14 = .ok (.invokestatic 34, 3) := by decide +kernel
theorem dc_Mt_set_17 : decode mb_Mt_set 17 = .ok (.ifCond .ne 5, 3) := by decide +kernel
theorem dc_Mt_set_20 : decode mb_Mt_set 20 = .ok (.iconst 4, 1) := by decide +kernel
theorem dc_Mt_set_21 : decode mb_Mt_set 21 = .ok (.ireturn, 1) := by decide +kernel
theorem dc_Mt_set_22 : decode mb_Mt_set 22 = .ok (.iload_n 3, 1) := by decide +kernel
theorem dc_Mt_set_23 : decode mb_Mt_set 23 = .ok (.iload 4, 2) := by decide +kernel
theorem dc_Mt_set_25 : decode mb_Mt_set 25 = .ok (.invokestatic 38, 3) := by decide +kernel
theorem dc_Mt_set_28 : decode mb_Mt_set 28 = .ok (.ifCond .ne 6, 3) := by decide +kernel
theorem dc_Mt_set_31 : decode mb_Mt_set 31 = .ok (.bipush 9, 2) := by decide +kernel
theorem dc_Mt_set_33 : decode mb_Mt_set 33 = .ok (.ireturn, 1) := by decide +kernel
theorem dc_Mt_set_34 : decode mb_Mt_set 34 = .ok (.iload_n 2, 1) := by decide +kernel
theorem dc_Mt_set_35 : decode mb_Mt_set 35 = .ok (.ifCond .eq 12, 3) := by decide +kernel
theorem dc_Mt_set_38 : decode mb_Mt_set 38 = .ok (.iload_n 3, 1) := by decide +kernel
theorem dc_Mt_set_39 : decode mb_Mt_set 39 = .ok (.iload 4, 2) := by decide +kernel
theorem dc_Mt_set_41 : decode mb_Mt_set 41 = .ok (.invokestatic 69, 3) := by decide +kernel
theorem dc_Mt_set_44 : decode mb_Mt_set 44 = .ok (.ifCond .ne 5, 3) := by decide +kernel
theorem dc_Mt_set_47 : decode mb_Mt_set 47 = .ok (.iconst 3, 1) := by decide +kernel
theorem dc_Mt_set_48 : decode mb_Mt_set 48 = .ok (.ireturn, 1) := by decide +kernel
theorem dc_Mt_set_49 : decode mb_Mt_set 49 = .ok (.iload_n 3, 1) := by decide +kernel
theorem dc_Mt_set_50 : decode mb_Mt_set 50 = .ok (.iconst 4, 1) := by decide +kernel
theorem dc_Mt_set_51 : decode mb_Mt_set 51 = .ok (.if_icmp .ne 20, 3) := by decide +kernel
theorem dc_Mt_set_54 : decode mb_Mt_set 54 = .ok (.iload 4, 2) := by decide +kernel
theorem dc_Mt_set_56 : decode mb_Mt_set 56 = .ok (.iconst 3, 1) := by decide +kernel
theorem dc_Mt_set_57 : decode mb_Mt_set 57 = .ok (.if_icmp .ne 14, 3) := by decide +kernel
theorem dc_Mt_set_60 : decode mb_Mt_set 60 = .ok (.aload_n 0, 1) := by decide +kernel
theorem dc_Mt_set_61 : decode mb_Mt_set 61 = .ok (.getfield 22, 3) := by decide +kernel
theorem dc_Mt_set_64 : decode mb_Mt_set 64 = .ok (.aload_n 1, 1) := by decide +kernel
theorem dc_Mt_set_65 : decode mb_Mt_set 65 = .ok (.invokevirtual 72, 3) := by decide +kernel
theorem dc_Mt_set_68 : decode mb_Mt_set 68 = .ok (.goto 11, 3) := by decide +kernel
theorem dc_Mt_set_71 : decode mb_Mt_set 71 = .ok (.aload_n 0, 1) := by decide +kernel
theorem dc_Mt_set_72 : decode mb_Mt_set 72 = .ok (.aload_n 1, 1) := by decide +kernel
theorem dc_Mt_set_73 : decode mb_Mt_set 73 = .ok (.iload_n 3, 1) := by decide +kernel
theorem dc_Mt_set_74 : decode mb_Mt_set 74 = .ok (.iload 4, 2) := by decide +kernel
theorem dc_Mt_set_76 : decode mb_Mt_set 76 = .ok (.invokevirtual 76, 3) := by decide +kernel
theorem dc_Mt_set_79 : decode mb_Mt_set 79 = .ok (.istore 5, 2) := by decide +kernel
theorem dc_Mt_set_81 : decode mb_Mt_set 81 = .ok (.iload 5, 2) := by decide +kernel
theorem dc_Mt_set_83 : decode mb_Mt_set 83 = .ok (.ifCond .eq 7, 3) := by decide +kernel
theorem dc_Mt_set_86 : decode mb_Mt_set 86 = .ok (.iconst 0, 1) := by decide +kernel
theorem dc_Mt_set_87 : decode mb_Mt_set 87 = .ok (.goto 5, 3) := by decide +kernel
theorem dc_Mt_set_90 : decode mb_Mt_set 90 = .ok (.bipush 12, 2) := by decide +kernel
theorem dc_Mt_set_92 : decode mb_Mt_set 92 = .ok (.ireturn, 1) := by decide +kernel
theorem dc_Mt_takeNumber_0 : decode mb_Mt_takeNumber 0 = .ok (.iload_n 2, 1) := by decide +kernel
theorem dc_Mt_takeNumber_1 : decode mb_Mt_takeNumber 1 = .ok (.invokestatic 59, 3) := by decide +kernel
theorem dc_Mt_takeNumber_4 : decode mb_Mt_takeNumber 4 = .ok (.ifCond .eq 7, 3) := by decide +kernel
theorem dc_Mt_takeNumber_7 : decode mb_Mt_takeNumber 7 = .ok (.iconst 5, 1) := by decide +kernel
theorem dc_Mt_takeNumber_8 : decode mb_Mt_takeNumber 8 = .ok (.goto 5, 3) := by decide +kernel
theorem dc_Mt_takeNumber_11 : decode mb_Mt_takeNumber 11 = .ok (.bipush 6, 2) := by decide +kernel
theorem dc_Mt_takeNumber_13 : decode mb_Mt_takeNumber 13 = .ok (.istore 4, 2) := by decide +kernel
theorem dc_Mt_takeNumber_15 : decode mb_Mt_takeNumber 15 = .ok (.aload_n 1, 1) := by decide +kernel
theorem dc_Mt_takeNumber_16 : decode mb_Mt_takeNumber 16 = .ok (.getfield 80, 3) := by decide +kernel
theorem dc_Mt_takeNumber_19 : decode mb_Mt_takeNumber 19 = .ok (.bipush 8, 2) := by decide +kernel
theorem dc_Mt_takeNumber_21 : decode mb_Mt_takeNumber 21 = .ok (.if_icmp .ne 13, 3) := by decide +kernel
theorem dc_Mt_takeNumber_24 : decode mb_Mt_takeNumber 24 = .ok (.aload_n 1, 1) := by decide +kernel
theorem dc_Mt_takeNumber_25 : decode mb_Mt_takeNumber 25 = .ok (.iconst 3, 1) := by decide +kernel
theorem dc_Mt_takeNumber_26 : decode mb_Mt_takeNumber 26 = .ok (.invokevirtual 65, 3) := by decide +kernel
theorem dc_Mt_takeNumber_29 : decode mb_Mt_takeNumber 29 = .ok (.iload 4, 2) := by decide +kernel
theorem dc_Mt_takeNumber_31 : decode mb_Mt_takeNumber 31 = .ok (.if_icmp .eq 5, 3) := by decide +kernel
theorem dc_Mt_takeNumber_34 : decode mb_Mt_takeNumber 34 = .ok (.iconst 0, 1) := by decide +kernel
theorem dc_Mt_takeNumber_35 : decode mb_Mt_takeNumber 35 = .ok (.ireturn, 1) := by decide +kernel
theorem dc_Mt_takeNumber_36 : decode mb_Mt_takeNumber 36 = .ok (.aload_n 1, 1) := by decide +kernel
theorem dc_Mt_takeNumber_37 : decode mb_Mt_takeNumber 37 = .ok (.iconst 4, 1) := by decide +kernel
theorem dc_Mt_takeNumber_38 : decode mb_Mt_takeNumber 38 = .ok (.invokevirtual 83, 3) := by decide +kernel
theorem dc_Mt_takeNumber_41 : decode mb_Mt_takeNumber 41 = .ok (.istore 5, 2) := by decide +kernel
theorem dc_Mt_takeNumber_43 : decode mb_Mt_takeNumber 43 = .ok (.iload_n 2, 1) := by decide +kernel
theorem dc_Mt_takeNumber_44 : decode mb_Mt_takeNumber 44 = .ok (.invokestatic 59, 3) := by decide +kernel
theorem dc_Mt_takeNumber_47 : decode mb_Mt_takeNumber 47 = .ok (.ifCond .eq 15, 3) := by decide +kernel
theorem dc_Mt_takeNumber_50 : decode mb_Mt_takeNumber 50 = .ok (.aload_n 0, 1) := by decide +kernel
theorem dc_Mt_takeNumber_51 : decode mb_Mt_takeNumber 51 = .ok (.getfield 9, 3) := by decide +kernel
theorem dc_Mt_takeNumber_54 : decode mb_Mt_takeNumber 54 = .ok (.iload_n 2, 1) := by decide +kernel
theorem dc_Mt_takeNumber_55 : decode mb_Mt_takeNumber 55 = .ok (.iconst 1, 1) := by decide +kernel
theorem dc_Mt_takeNumber_56 : decode mb_Mt_takeNumber 56 = .ok (.isub, 1) := by decide +kernel
theorem dc_Mt_takeNumber_57 : decode mb_Mt_takeNumber 57 = .ok (.iload 5, 2) := by decide +kernel
theorem dc_Mt_takeNumber_59 : decode mb_Mt_takeNumber 59 = .ok (.iastore, 1) := by decide +kernel
theorem dc_Mt_takeNumber_60 : decode mb_Mt_takeNumber 60 = .ok (.iconst 1, 1) := by decide +kernel
theorem dc_Mt_takeNumber_61 : decode mb_Mt_takeNumber 61 = .ok (.ireturn, 1) := by decide +kernel
theorem dc_Mt_takeNumber_62 : decode mb_Mt_takeNumber 62 = .ok (.iload_n 2, 1) := by decide +kernel
theorem dc_Mt_takeNumber_63 : decode mb_Mt_takeNumber 63 = .ok (.iconst 4, 1) := by decide +kernel
theorem dc_Mt_takeNumber_64 : decode mb_Mt_takeNumber 64 = .ok (.if_icmp .ne 30, 3) := by decide +kernel
theorem dc_Mt_takeNumber_67 : decode mb_Mt_takeNumber 67 = .ok (.iload_n 3, 1) := by decide +kernel
theorem dc_Mt_takeNumber_68 : decode mb_Mt_takeNumber 68 = .ok (.iconst 4, 1) := by decide +kernel
theorem dc_Mt_takeNumber_69 : decode mb_Mt_takeNumber 69 = .ok (.if_icmp .ne 15, 3) := by decide +kernel
theorem dc_Mt_takeNumber_72 : decode mb_Mt_takeNumber 72 = .ok (.aload_n 0, 1) := by decide +kernel
theorem dc_Mt_takeNumber_73 : decode mb_Mt_takeNumber 73 = .ok (.getfield 22, 3) := by decide +kernel
theorem dc_Mt_takeNumber_76 : decode mb_Mt_takeNumber 76 = .ok (.iload 5, 2) := by decide +kernel
theorem dc_Mt_takeNumber_78 : decode mb_Mt_takeNumber 78 = .ok (.invokevirtual 86, 3) := by decide +kernel
theorem dc_Mt_takeNumber_81 : decode mb_Mt_takeNumber 81 = .ok (.goto 12, 3) := by decide +kernel
theorem dc_Mt_takeNumber_84 : decode mb_Mt_takeNumber 84 = .ok (.aload_n 0, 1) := by decide +kernel
theorem dc_Mt_takeNumber_85 : decode mb_Mt_takeNumber 85 = .ok (.getfield 22, 3) := by decide +kernel
theorem dc_Mt_takeNumber_88 : decode mb_Mt_takeNumber 88 = .ok (.iload 5, 2) := by decide +kernel
theorem dc_Mt_takeNumber_90 : decode mb_Mt_takeNumber 90 = .ok (.invokevirtual 89, 3) := by decide +kernel
theorem dc_Mt_takeNumber_93 : decode mb_Mt_takeNumber 93 = .ok (.ireturn, 1) := by decide +kernel
theorem dc_Mt_takeNumber_94 : decode mb_Mt_takeNumber 94 = .ok (.aload_n 0, 1) := by decide +kernel
theorem dc_Mt_takeNumber_95 : decode mb_Mt_takeNumber 95 = .ok (.iload 5, 2) := by decide +kernel
theorem dc_Mt_takeNumber_97 : decode mb_Mt_takeNumber 97 = .ok (.invokevirtual 92, 3) := by decide +kernel
theorem dc_Mt_takeNumber_100 : decode mb_Mt_takeNumber 100 = .ok (.ireturn, 1) := by decide +kernel
