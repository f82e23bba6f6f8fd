theorem dc_Mo_look_0 : decode mb_Mo_look 0 = .ok (.aload_n 0, 1) := by decide +kernel
theorem dc_Mo_look_1 : decode mb_Mo_look 1 = .ok (.getfield 29, 3) := by decide +kernel
theorem dc_Mo_look_4 : decode mb_Mo_look 4 = .ok (.iconst 3, 1) := by decide +kernel
theorem dc_Mo_look_5 : decode mb_Mo_look 5 = .ok (.iaload, 1) := by decide +kernel
theorem dc_Mo_look_6 : decode mb_Mo_look 6 = .ok (.istore_n 2, 1) := by decide +kernel
theorem dc_Mo_look_7 : decode mb_Mo_look 7 = .ok (.iload_n 2, 1) := by decide +kernel
theorem dc_Mo_look_8 : decode mb_Mo_look 8 = .ok (.sipush 147, 3) := by decide +kernel
theorem dc_Mo_look_11 : decode mb_Mo_look 11 = .ok (.if_icmp .ne 46, 3) := by decide +kernel
theorem dc_Mo_look_14 : decode mb_Mo_look 14 = .ok (.iload_n 1, 1) := by decide +kernel
theorem dc_Mo_look_15 : decode mb_Mo_look 15 = .ok (.ifCond .ne 42, 3) := by decide +kernel
theorem dc_Mo_look_18 : decode mb_Mo_look 18 = .ok (.aload_n 0, 1) := by decide +kernel
theorem dc_Mo_look_19 : decode mb_Mo_look 19 = .ok (.iconst 1, 1) := by decide +kernel
theorem dc_Mo_look_20 : decode mb_Mo_look 20 = .ok (.putfield 67, 3) := by decide +kernel
theorem dc_Mo_look_23 : decode mb_Mo_look 23 = .ok (.aload_n 0, 1) := by decide +kernel
theorem dc_Mo_look_24 : decode mb_Mo_look 24 = .ok (.iconst 0, 1) := by decide +kernel
theorem dc_Mo_look_25 : decode mb_Mo_look 25 = .ok (.putfield 74, 3) := by decide +kernel
theorem dc_Mo_look_28 : decode mb_Mo_look 28 = .ok (.aload_n 0, 1) := by decide +kernel
theorem dc_Mo_look_29 : decode mb_Mo_look 29 = .ok (.iconst 0, 1) := by decide +kernel
theorem dc_Mo_look_30 : decode mb_Mo_look 30 = .ok (.putfield 77, 3) := by decide +kernel
theorem dc_Mo_look_33 : decode mb_Mo_look 33 = .ok (.aload_n 0, 1) := by decide +kernel
theorem dc_Mo_look_34 : decode mb_Mo_look 34 = .ok (.iconst 0, 1) := by decide +kernel
theorem dc_Mo_look_35 : decode mb_Mo_look 35 = .ok (.putfield 71, 3) := by decide +kernel
theorem dc_Mo_look_38 : decode mb_Mo_look 38 = .ok (.aload_n 0, 1) := by decide +kernel
theorem dc_Mo_look_39 : decode mb_Mo_look 39 = .ok (.iconst 0, 1) := by decide +kernel
theorem dc_Mo_look_40 : decode mb_Mo_look 40 = .ok (.putfield 122, 3) := by decide +kernel
theorem dc_Mo_look_43 : decode mb_Mo_look 43 = .ok (.aload_n 0, 1) := by decide +kernel
theorem dc_Mo_look_44 : decode mb_Mo_look 44 = .ok (.iconst 0, 1) := by decide +kernel
theorem dc_Mo_look_45 : decode mb_Mo_look 45 = .ok (.putfield 106, 3) := by decide +kernel
theorem dc_Mo_look_48 : decode mb_Mo_look 48 = .ok (.aload_n 0, 1) := by decide +kernel
theorem dc_Mo_look_49 : decode mb_Mo_look 49 = .ok (.bipush 115, 2) := by decide +kernel
theorem dc_Mo_look_51 : decode mb_Mo_look 51 = .ok (.invokevirtual 109, 3) := by decide +kernel
theorem dc_Mo_look_54 : decode mb_Mo_look 54 = .ok (.goto 74, 3) := by decide +kernel
theorem dc_Mo_look_57 : decode mb_Mo_look 57 = .ok (.iload_n 2, 1) := by decide +kernel
theorem dc_Mo_look_58 : decode mb_Mo_look 58 = .ok (.bipush 83, 2) := by decide +kernel
theorem dc_Mo_look_60 : decode mb_Mo_look 60 = .ok (.if_icmp .ne 33, 3) := by decide +kernel
theorem dc_Mo_look_63 : decode mb_Mo_look 63 = .ok (.iload_n 1, 1) := by decide +kernel
theorem dc_Mo_look_64 : decode mb_Mo_look 64 = .ok (.ifCond .ne 29, 3) := by decide +kernel
theorem dc_Mo_look_67 : decode mb_Mo_look 67 = .ok (.aload_n 0, 1) := by decide +kernel
theorem dc_Mo_look_68 : decode mb_Mo_look 68 = .ok (.aload_n 0, 1) := by decide +kernel
theorem dc_Mo_look_69 : decode mb_Mo_look 69 = .ok (.getfield 67, 3) := by decide +kernel
theorem dc_Mo_look_72 : decode mb_Mo_look 72 = .ok (.ifCond .eq 8, 3) := by decide +kernel
theorem dc_Mo_look_75 : decode mb_Mo_look 75 = .ok (.bipush 115, 2) := by decide +kernel
theorem dc_Mo_look_77 : decode mb_Mo_look 77 = .ok (.goto 5, 3) := by decide +kernel
theorem dc_Mo_look_80 : decode mb_Mo_look 80 = .ok (.bipush 31, 2) := by decide +kernel
theorem dc_Mo_look_82 : decode mb_Mo_look 82 = .ok (.invokevirtual 109, 3) := by decide +kernel
theorem dc_Mo_look_85 : decode mb_Mo_look 85 = .ok (.aload_n 0, 1) := by decide +kernel
theorem dc_Mo_look_86 : decode mb_Mo_look 86 = .ok (.iconst 0, 1) := by decide +kernel
theorem dc_Mo_look_87 : decode mb_Mo_look 87 = .ok (.putfield 67, 3) := by decide +kernel
theorem dc_Mo_look_90 : decode mb_Mo_look 90 = .ok (.goto 38, 3) := by decide +kernel
theorem dc_Mo_look_93 : decode mb_Mo_look 93 = .ok (.iload_n 1, 1) := by decide +kernel
theorem dc_Mo_look_94 : decode mb_Mo_look 94 = .ok (.ifCond .le 34, 3) := by decide +kernel
theorem dc_Mo_look_97 : decode mb_Mo_look 97 = .ok (.iload_n 2, 1) := by decide +kernel
theorem dc_Mo_look_98 : decode mb_Mo_look 98 = .ok (.iconst 2, 1) := by decide +kernel
theorem dc_Mo_look_99 : decode mb_Mo_look 99 = .ok (.irem, 1) := by decide +kernel
theorem dc_Mo_look_100 : decode mb_Mo_look 100 = .ok (.ifCond .ne 28, 3) := by decide +kernel
theorem dc_Mo_look_103 : decode mb_Mo_look 103 = .ok (.iload_n 2, 1) := by decide +kernel
theorem dc_Mo_look_104 : decode mb_Mo_look 104 = .ok (.bipush 16, 2) := by decide +kernel
theorem dc_Mo_look_106 : decode mb_Mo_look 106 = .ok (.idiv, 1) := by decide +kernel
theorem dc_Mo_look_107 : decode mb_Mo_look 107 = .ok (.iconst 2, 1) := by decide +kernel
theorem dc_Mo_look_108 : decode mb_Mo_look 108 = .ok (.irem, 1) := by decide +kernel
theorem dc_Mo_look_109 : decode mb_Mo_look 109 = .ok (.iconst 1, 1) := by decide +kernel
theorem dc_Mo_look_110 : decode mb_Mo_look 110 = .ok (.if_icmp .ne 18, 3) := by decide +kernel
theorem dc_Mo_look_113 : decode mb_Mo_look 113 = .ok (.aload_n 0, 1) := by decide +kernel
theorem dc_Mo_look_114 : decode mb_Mo_look 114 = .ok (.iload_n 2, 1) := by decide +kernel
theorem dc_Mo_look_115 : decode mb_Mo_look 115 = .ok (.iconst 2, 1) := by decide +kernel
theorem dc_Mo_look_116 : decode mb_Mo_look 116 = .ok (.idiv, 1) := by decide +kernel
theorem dc_Mo_look_117 : decode mb_Mo_look 117 = .ok (.bipush 8, 2) := by decide +kernel
theorem dc_Mo_look_119 : decode mb_Mo_look 119 = .ok (.irem, 1) := by decide +kernel
theorem dc_Mo_look_120 : decode mb_Mo_look 120 = .ok (.iload_n 2, 1) := by decide +kernel
theorem dc_Mo_look_121 : decode mb_Mo_look 121 = .ok (.bipush 32, 2) := by decide +kernel
theorem dc_Mo_look_123 : decode mb_Mo_look 123 = .ok (.idiv, 1) := by decide +kernel
theorem dc_Mo_look_124 : decode mb_Mo_look 124 = .ok (.iload_n 1, 1) := by decide +kernel
theorem dc_Mo_look_125 : decode mb_Mo_look 125 = .ok (.invokevirtual 125, 3) := by decide +kernel
theorem dc_Mo_look_128 : decode mb_Mo_look 128 = .ok (.return_, 1) := by decide +kernel
theorem dc_Mo_deliver_0 : decode mb_Mo_deliver 0 = .ok (.aload_n 0, 1) := by decide +kernel
theorem dc_Mo_deliver_1 : decode mb_Mo_deliver 1 = .ok (.iconst 0, 1) := by decide +kernel
theorem dc_Mo_deliver_2 : decode mb_Mo_deliver 2 = .ok (.putfield 47, 3) := by decide +kernel
theorem dc_Mo_deliver_5 : decode mb_Mo_deliver 5 = .ok (.aload_n 0, 1) := by decide +kernel
theorem dc_Mo_deliver_6 : decode mb_Mo_deliver 6 = .ok (.iconst 0, 1) := by decide +kernel
theorem dc_Mo_deliver_7 : decode mb_Mo_deliver 7 = .ok (.putfield 103, 3) := by decide +kernel
theorem dc_Mo_deliver_10 : decode mb_Mo_deliver 10 = .ok (.aload_n 0, 1) := by decide +kernel
theorem dc_Mo_deliver_11 : decode mb_Mo_deliver 11 = .ok (.invokevirtual 129, 3) := by decide +kernel
theorem dc_Mo_deliver_14 : decode mb_Mo_deliver 14 = .ok (.istore_n 2, 1) := by decide +kernel
theorem dc_Mo_deliver_15 : decode mb_Mo_deliver 15 = .ok (.iload_n 2, 1) := by decide +kernel
theorem dc_Mo_deliver_16 : decode mb_Mo_deliver 16 = .ok (.ifCond .lt 8, 3) := by decide +kernel
theorem dc_Mo_deliver_19 : decode mb_Mo_deliver 19 = .ok (.aload_n 0, 1) := by decide +kernel
theorem dc_Mo_deliver_20 : decode mb_Mo_deliver 20 = .ok (.iload_n 2, 1) := by decide +kernel
theorem dc_Mo_deliver_21 : decode mb_Mo_deliver 21 = .ok (.invokevirtual 133, 3) := by decide +kernel
theorem dc_Mo_deliver_24 : decode mb_Mo_deliver 24 = .ok (.aload_n 0, 1) := by decide +kernel
theorem dc_Mo_deliver_25 : decode mb_Mo_deliver 25 = .ok (.iconst 0, 1) := by decide +kernel
theorem dc_Mo_deliver_26 : decode mb_Mo_deliver 26 = .ok (.putfield 80, 3) := by decide +kernel
theorem dc_Mo_deliver_29 : decode mb_Mo_deliver 29 = .ok (.iload_n 1, 1) := by decide +kernel
theorem dc_Mo_deliver_30 : decode mb_Mo_deliver 30 = .ok (.ifCond .eq 11, 3) := by decide +kernel
theorem dc_Mo_deliver_33 : decode mb_Mo_deliver 33 = .ok (.aload_n 0, 1) := by decide +kernel
theorem dc_Mo_deliver_34 : decode mb_Mo_deliver 34 = .ok (.iconst 0, 1) := by decide +kernel
theorem dc_Mo_deliver_35 : decode mb_Mo_deliver 35 = .ok (.putfield 103, 3) := by decide +kernel
theorem dc_Mo_deliver_38 : decode mb_Mo_deliver 38 = .ok (.goto 20, 3) := by decide +kernel
theorem dc_Mo_deliver_41 : decode mb_Mo_deliver 41 = .ok (.aload_n 0, 1) := by decide +kernel
theorem dc_Mo_deliver_42 : decode mb_Mo_deliver 42 = .ok (.getfield 103, 3) := by decide +kernel
theorem dc_Mo_deliver_45 : decode mb_Mo_deliver 45 = .ok (.ifCond .le 13, 3) := by decide +kernel
theorem dc_Mo_deliver_48 : decode mb_Mo_deliver 48 = .ok (.aload_n 0, 1) := by decide +kernel
theorem dc_Mo_deliver_49 : decode mb_Mo_deliver 49 = .ok (.aload_n 0, 1) := by decide +kernel
theorem dc_Mo_deliver_50 : decode mb_Mo_deliver 50 = .ok (.getfield 32, 3) := by decide +kernel
theorem dc_Mo_deliver_53 : decode mb_Mo_deliver 53 = .ok (.iconst 3, 1) := by decide +kernel
theorem dc_Mo_deliver_54 : decode mb_Mo_deliver 54 = .ok (.iaload, 1) := by decide +kernel
theorem dc_Mo_deliver_55 : decode mb_Mo_deliver 55 = .ok (.invokevirtual 136, 3) := by decide +kernel
theorem dc_Mo_deliver_58 : decode mb_Mo_deliver 58 = .ok (.aload_n 0, 1) := by decide +kernel
theorem dc_Mo_deliver_59 : decode mb_Mo_deliver 59 = .ok (.getfield 103, 3) := by decide +kernel
theorem dc_Mo_deliver_62 : decode mb_Mo_deliver 62 = .ok (.ireturn, 1) := by decide +kernel
theorem dc_Mo_hear_0 : decode mb_Mo_hear 0 = .ok (.iload_n 1, 1) := by decide +kernel
theorem dc_Mo_hear_1 : decode mb_Mo_hear 1 = .ok (.bipush 115, 2) := by decide +kernel
theorem dc_Mo_hear_3 : decode mb_Mo_hear 3 = .ok (.if_icmp .ne 16, 3) := by decide +kernel
theorem dc_Mo_hear_6 : decode mb_Mo_hear 6 = .ok (.aload_n 0, 1) := by decide +kernel
theorem dc_Mo_hear_7 : decode mb_Mo_hear 7 = .ok (.iconst 0, 1) := by decide +kernel
theorem dc_Mo_hear_8 : decode mb_Mo_hear 8 = .ok (.putfield 97, 3) := by decide +kernel
theorem dc_Mo_hear_11 : decode mb_Mo_hear 11 = .ok (.aload_n 0, 1) := by decide +kernel
theorem dc_Mo_hear_12 : decode mb_Mo_hear 12 = .ok (.iconst 0, 1) := by decide +kernel
theorem dc_Mo_hear_13 : decode mb_Mo_hear 13 = .ok (.putfield 100, 3) := by decide +kernel
theorem dc_Mo_hear_16 : decode mb_Mo_hear 16 = .ok (.goto 74, 3) := by decide +kernel
theorem dc_Mo_hear_19 : decode mb_Mo_hear 19 = .ok (.iload_n 1, 1) := by decide +kernel
theorem dc_Mo_hear_20 : decode mb_Mo_hear 20 = .ok (.iconst 2, 1) := by decide +kernel
theorem dc_Mo_hear_21 : decode mb_Mo_hear 21 = .ok (.irem, 1) := by decide +kernel
theorem dc_Mo_hear_22 : decode mb_Mo_hear 22 = .ok (.ifCond .ne 68, 3) := by decide +kernel
theorem dc_Mo_hear_25 : decode mb_Mo_hear 25 = .ok (.iload_n 1, 1) := by decide +kernel
theorem dc_Mo_hear_26 : decode mb_Mo_hear 26 = .ok (.bipush 16, 2) := by decide +kernel
theorem dc_Mo_hear_28 : decode mb_Mo_hear 28 = .ok (.idiv, 1) := by decide +kernel
theorem dc_Mo_hear_29 : decode mb_Mo_hear 29 = .ok (.iconst 2, 1) := by decide +kernel
theorem dc_Mo_hear_30 : decode mb_Mo_hear 30 = .ok (.irem, 1) := by decide +kernel
theorem dc_Mo_hear_31 : decode mb_Mo_hear 31 = .ok (.iconst 1, 1) := by decide +kernel
theorem dc_Mo_hear_32 : decode mb_Mo_hear 32 = .ok (.if_icmp .ne 58, 3) := by decide +kernel
theorem dc_Mo_hear_35 : decode mb_Mo_hear 35 = .ok (.iload_n 1, 1) := by decide +kernel
theorem dc_Mo_hear_36 : decode mb_Mo_hear 36 = .ok (.iconst 2, 1) := by decide +kernel
theorem dc_Mo_hear_37 : decode mb_Mo_hear 37 = .ok (.idiv, 1) := by decide +kernel
theorem dc_Mo_hear_38 : decode mb_Mo_hear 38 = .ok (.bipush 8, 2) := by decide +kernel
theorem dc_Mo_hear_40 : decode mb_Mo_hear 40 = .ok (.irem, 1) := by decide +kernel
theorem dc_Mo_hear_41 : decode mb_Mo_hear 41 = .ok (.aload_n 0, 1) := by decide +kernel
theorem dc_Mo_hear_42 : decode mb_Mo_hear 42 = .ok (.getfield 100, 3) := by decide +kernel
theorem dc_Mo_hear_45 : decode mb_Mo_hear 45 = .ok (.if_icmp .ne 45, 3) := by decide +kernel
theorem dc_Mo_hear_48 : decode mb_Mo_hear 48 = .ok (.iload_n 1, 1) := by decide +kernel
theorem dc_Mo_hear_49 : decode mb_Mo_hear 49 = .ok (.bipush 32, 2) := by decide +kernel
theorem dc_Mo_hear_51 : decode mb_Mo_hear 51 = .ok (.idiv, 1) := by decide +kernel
theorem dc_Mo_hear_52 : decode mb_Mo_hear 52 = .ok (.aload_n 0, 1) := by decide +kernel
theorem dc_Mo_hear_53 : decode mb_Mo_hear 53 = .ok (.getfield 97, 3) := by decide +kernel
theorem dc_Mo_hear_56 : decode mb_Mo_hear 56 = .ok (.iconst 1, 1) := by decide +kernel
theorem dc_Mo_hear_57 : decode mb_Mo_hear 57 = .ok (.iadd, 1) := by decide +kernel
theorem dc_Mo_hear_58 : decode mb_Mo_hear 58 = .ok (.bipush 8, 2) := by decide +kernel
theorem dc_Mo_hear_60 : decode mb_Mo_hear 60 = .ok (.irem, 1) := by decide +kernel
theorem dc_Mo_hear_61 : decode mb_Mo_hear 61 = .ok (.if_icmp .ne 29, 3) := by decide +kernel
theorem dc_Mo_hear_64 : decode mb_Mo_hear 64 = .ok (.aload_n 0, 1) := by decide +kernel
theorem dc_Mo_hear_65 : decode mb_Mo_hear 65 = .ok (.aload_n 0, 1) := by decide +kernel
theorem dc_Mo_hear_66 : decode mb_Mo_hear 66 = .ok (.getfield 97, 3) := by decide +kernel
theorem dc_Mo_hear_69 : decode mb_Mo_hear 69 = .ok (.iconst 1, 1) := by decide +kernel
theorem dc_Mo_hear_70 : decode mb_Mo_hear 70 = .ok (.iadd, 1) := by decide +kernel
theorem dc_Mo_hear_71 : decode mb_Mo_hear 71 = .ok (.bipush 8, 2) := by decide +kernel
theorem dc_Mo_hear_73 : decode mb_Mo_hear 73 = .ok (.irem, 1) := by decide +kernel
theorem dc_Mo_hear_74 : decode mb_Mo_hear 74 = .ok (.putfield 97, 3) := by decide +kernel
theorem dc_Mo_hear_77 : decode mb_Mo_hear 77 = .ok (.aload_n 0, 1) := by decide +kernel
theorem dc_Mo_hear_78 : decode mb_Mo_hear 78 = .ok (.aload_n 0, 1) := by decide +kernel
theorem dc_Mo_hear_79 : decode mb_Mo_hear 79 = .ok (.getfield 100, 3) := by decide +kernel
theorem dc_Mo_hear_82 : decode mb_Mo_hear 82 = .ok (.iconst 1, 1) := by decide +kernel
theorem dc_Mo_hear_83 : decode mb_Mo_hear 83 = .ok (.iadd, 1) := by decide +kernel
theorem dc_Mo_hear_84 : decode mb_Mo_hear 84 = .ok (.bipush 8, 2) := by decide +kernel
theorem dc_Mo_hear_86 : decode mb_Mo_hear 86 = .ok (.irem, 1) := by decide +kernel
theorem dc_Mo_hear_87 : decode mb_Mo_hear 87 = .ok (.putfield 100, 3) := by decide +kernel
theorem dc_Mo_hear_90 : decode mb_Mo_hear 90 = .ok (.return_, 1) := by decide +kernel
theorem dc_Mo_reply_0 : decode mb_Mo_reply 0 = .ok (.aload_n 0, 1) := by decide +kernel
theorem dc_Mo_reply_1 : decode mb_Mo_reply 1 = .ok (.iload_n 1, 1) := by decide +kernel
theorem dc_Mo_reply_2 : decode mb_Mo_reply 2 = .ok (.ifCond .lt 11, 3) := by decide +kernel
theorem dc_Mo_reply_5 : decode mb_Mo_reply 5 = .ok (.iload_n 1, 1) := by decide +kernel
theorem dc_Mo_reply_6 : decode mb_Mo_reply 6 = .ok (.aload_n 0, 1) := by decide +kernel
theorem dc_Mo_reply_7 : decode mb_Mo_reply 7 = .ok (.getfield 103, 3) := by decide +kernel
theorem dc_Mo_reply_10 : decode mb_Mo_reply 10 = .ok (.if_icmp .lt 7, 3) := by decide +kernel
theorem dc_Mo_reply_13 : decode mb_Mo_reply 13 = .ok (.iconst 1, 1) := by decide +kernel
theorem dc_Mo_reply_14 : decode mb_Mo_reply 14 = .ok (.goto 4, 3) := by decide +kernel
theorem dc_Mo_reply_17 : decode mb_Mo_reply 17 = .ok (.iconst 0, 1) := by decide +kernel
theorem dc_Mo_reply_18 : decode mb_Mo_reply 18 = .ok (.putfield 47, 3) := by decide +kernel
theorem dc_Mo_reply_21 : decode mb_Mo_reply 21 = .ok (.aload_n 0, 1) := by decide +kernel
theorem dc_Mo_reply_22 : decode mb_Mo_reply 22 = .ok (.getfield 47, 3) := by decide +kernel
theorem dc_Mo_reply_25 : decode mb_Mo_reply 25 = .ok (.ifCond .le 7, 3) := by decide +kernel
theorem dc_Mo_reply_28 : decode mb_Mo_reply 28 = .ok (.iconst 0, 1) := by decide +kernel
theorem dc_Mo_reply_29 : decode mb_Mo_reply 29 = .ok (.goto 9, 3) := by decide +kernel
theorem dc_Mo_reply_32 : decode mb_Mo_reply 32 = .ok (.aload_n 0, 1) := by decide +kernel
theorem dc_Mo_reply_33 : decode mb_Mo_reply 33 = .ok (.getfield 32, 3) := by decide +kernel
theorem dc_Mo_reply_36 : decode mb_Mo_reply 36 = .ok (.iload_n 1, 1) := by decide +kernel
theorem dc_Mo_reply_37 : decode mb_Mo_reply 37 = .ok (.iaload, 1) := by decide +kernel
theorem dc_Mo_reply_38 : decode mb_Mo_reply 38 = .ok (.ireturn, 1) := by decide +kernel
theorem dc_Mo_at_0 : decode mb_Mo_at 0 = .ok (.aload_n 0, 1) := by decide +kernel
theorem dc_Mo_at_1 : decode mb_Mo_at 1 = .ok (.getfield 29, 3) := by decide +kernel
theorem dc_Mo_at_4 : decode mb_Mo_at 4 = .ok (.bipush 6, 2) := by decide +kernel
theorem dc_Mo_at_6 : decode mb_Mo_at 6 = .ok (.iload_n 1, 1) := by decide +kernel
theorem dc_Mo_at_7 : decode mb_Mo_at 7 = .ok (.iadd, 1) := by decide +kernel
theorem dc_Mo_at_8 : decode mb_Mo_at 8 = .ok (.iaload, 1) := by decide +kernel
theorem dc_Mo_at_9 : decode mb_Mo_at 9 = .ok (.ireturn, 1) := by decide +kernel
theorem dc_Mo_intAt_0 : decode mb_Mo_intAt 0 = .ok (.aload_n 0, 1) := by decide +kernel
theorem dc_Mo_intAt_1 : decode mb_Mo_intAt 1 = .ok (.iload_n 1, 1) := by decide +kernel
theorem dc_Mo_intAt_2 : decode mb_Mo_intAt 2 = .ok (.invokevirtual 139, 3) := by decide +kernel
theorem dc_Mo_intAt_5 : decode mb_Mo_intAt 5 = .ok (.bipush 24, 2) := by decide +kernel
theorem dc_Mo_intAt_7 : decode mb_Mo_intAt 7 = .ok (.ishl, 1) := by decide +kernel
theorem dc_Mo_intAt_8 : decode mb_Mo_intAt 8 = .ok (.aload_n 0, 1) := by decide +kernel
theorem dc_Mo_intAt_9 : decode mb_Mo_intAt 9 = .ok (.iload_n 1, 1) := by decide +kernel
theorem dc_Mo_intAt_10 : decode mb_Mo_intAt 10 = .ok (.iconst 1, 1) := by decide +kernel
theorem dc_Mo_intAt_11 : decode mb_Mo_intAt 11 = .ok (.iadd, 1) := by decide +kernel
theorem dc_Mo_intAt_12 : decode mb_Mo_intAt 12 = .ok (.invokevirtual 139, 3) := by decide +kernel
theorem dc_Mo_intAt_15 : decode mb_Mo_intAt 15 = .ok (.bipush 16, 2) := by decide +kernel
theorem dc_Mo_intAt_17 : decode mb_Mo_intAt 17 = .ok (.ishl, 1) := by decide +kernel
theorem dc_Mo_intAt_18 : decode mb_Mo_intAt 18 = .ok (.ior, 1) := by decide +kernel
theorem dc_Mo_intAt_19 : decode mb_Mo_intAt 19 = .ok (.aload_n 0, 1) := by decide +kernel
theorem dc_Mo_intAt_20 : decode mb_Mo_intAt 20 = .ok (.iload_n 1, 1) := by decide +kernel
theorem dc_Mo_intAt_21 : decode mb_Mo_intAt 21 = .ok (.iconst 2, 1) := by decide +kernel
theorem dc_Mo_intAt_22 : decode mb_Mo_intAt 22 = .ok (.iadd, 1) := by decide +kernel
theorem dc_Mo_intAt_23 : decode mb_Mo_intAt 23 = .ok (.invokevirtual 139, 3) := by decide +kernel
theorem dc_Mo_intAt_26 : decode mb_Mo_intAt 26 = .ok (.bipush 8, 2) := by decide +kernel
theorem dc_Mo_intAt_28 : decode mb_Mo_intAt 28 = .ok (.ishl, 1) := by decide +kernel
theorem dc_Mo_intAt_29 : decode mb_Mo_intAt 29 = .ok (.ior, 1) := by decide +kernel
theorem dc_Mo_intAt_30 : decode mb_Mo_intAt 30 = .ok (.aload_n 0, 1) := by decide +kernel
theorem dc_Mo_intAt_31 : decode mb_Mo_intAt 31 = .ok (.iload_n 1, 1) := by decide +kernel
theorem dc_Mo_intAt_32 : decode mb_Mo_intAt 32 = .ok (.iconst 3, 1) := by decide +kernel
theorem dc_Mo_intAt_33 : decode mb_Mo_intAt 33 = .ok (.iadd, 1) := by decide +kernel
theorem dc_Mo_intAt_34 : decode mb_Mo_intAt 34 = .ok (.invokevirtual 139, 3) := by decide +kernel
theorem dc_Mo_intAt_37 : decode mb_Mo_intAt 37 = .ok (.ior, 1) := by decide +kernel
theorem dc_Mo_intAt_38 : decode mb_Mo_intAt 38 = .ok (.ireturn, 1) := by decide +kernel
theorem dc_Mo_emit_0 : decode mb_Mo_emit 0 = .ok (.aload_n 0, 1) := by decide +kernel
theorem dc_Mo_emit_1 : decode mb_Mo_emit 1 = .ok (.getfield 38, 3) := by decide +kernel
theorem dc_Mo_emit_4 : decode mb_Mo_emit 4 = .ok (.aload_n 0, 1) := by decide +kernel
theorem dc_Mo_emit_5 : decode mb_Mo_emit 5 = .ok (.getfield 116, 3) := by decide +kernel
theorem dc_Mo_emit_8 : decode mb_Mo_emit 8 = .ok (.iload_n 1, 1) := by decide +kernel
theorem dc_Mo_emit_9 : decode mb_Mo_emit 9 = .ok (.sipush 255, 3) := by decide +kernel
theorem dc_Mo_emit_12 : decode mb_Mo_emit 12 = .ok (.iand, 1) := by decide +kernel
theorem dc_Mo_emit_13 : decode mb_Mo_emit 13 = .ok (.iastore, 1) := by decide +kernel
theorem dc_Mo_emit_14 : decode mb_Mo_emit 14 = .ok (.aload_n 0, 1) := by decide +kernel
theorem dc_Mo_emit_15 : decode mb_Mo_emit 15 = .ok (.dup, 1) := by decide +kernel
theorem dc_Mo_emit_16 : decode mb_Mo_emit 16 = .ok (.getfield 116, 3) := by decide +kernel
theorem dc_Mo_emit_19 : decode mb_Mo_emit 19 = .ok (.iconst 1, 1) := by decide +kernel
theorem dc_Mo_emit_20 : decode mb_Mo_emit 20 = .ok (.iadd, 1) := by decide +kernel
theorem dc_Mo_emit_21 : decode mb_Mo_emit 21 = .ok (.putfield 116, 3) := by decide +kernel
theorem dc_Mo_emit_24 : decode mb_Mo_emit 24 = .ok (.return_, 1) := by decide +kernel
theorem dc_Mo_emitInt_0 : decode mb_Mo_emitInt 0 = .ok (.aload_n 0, 1) := by decide +kernel
theorem dc_Mo_emitInt_1 : decode mb_Mo_emitInt 1 = .ok (.iload_n 1, 1) := by decide +kernel
theorem dc_Mo_emitInt_2 : decode mb_Mo_emitInt 2 = .ok (.invokevirtual 142, 3) := by decide +kernel
theorem dc_Mo_emitInt_5 : decode mb_Mo_emitInt 5 = .ok (.iconst 3, 1) := by decide +kernel
theorem dc_Mo_emitInt_6 : decode mb_Mo_emitInt 6 = .ok (.istore_n 3, 1) := by decide +kernel
theorem dc_Mo_emitInt_7 : decode mb_Mo_emitInt 7 = .ok (.iload_n 3, 1) := by decide +kernel
theorem dc_Mo_emitInt_8 : decode mb_Mo_emitInt 8 = .ok (.ifCond .lt 19, 3) := by decide +kernel
theorem dc_Mo_emitInt_11 : decode mb_Mo_emitInt 11 = .ok (.aload_n 0, 1) := by decide +kernel
theorem dc_Mo_emitInt_12 : decode mb_Mo_emitInt 12 = .ok (.iload_n 2, 1) := by decide +kernel
theorem dc_Mo_emitInt_13 : decode mb_Mo_emitInt 13 = .ok (.bipush 8, 2) := by decide +kernel
theorem dc_Mo_emitInt_15 : decode mb_Mo_emitInt 15 = .ok (.iload_n 3, 1) := by decide +kernel
theorem dc_Mo_emitInt_16 : decode mb_Mo_emitInt 16 = .ok (.imul, 1) := by decide +kernel
theorem dc_Mo_emitInt_17 : decode mb_Mo_emitInt 17 = .ok (.iushr, 1) := by decide +kernel
theorem dc_Mo_emitInt_18 : decode mb_Mo_emitInt 18 = .ok (.invokevirtual 142, 3) := by decide +kernel
theorem dc_Mo_emitInt_21 : decode mb_Mo_emitInt 21 = .ok (.iinc 3 (-1), 3) := by decide +kernel
theorem dc_Mo_emitInt_24 : decode mb_Mo_emitInt 24 = .ok (.goto (-17), 3) := by decide +kernel
theorem dc_Mo_emitInt_27 : decode mb_Mo_emitInt 27 = .ok (.return_, 1) := by decide +kernel
theorem dc_Mo_say_0 : decode mb_Mo_say 0 = .ok (.aload_n 0, 1) := by decide +kernel
theorem dc_Mo_say_1 : decode mb_Mo_say 1 = .ok (.iconst 0, 1) := by decide +kernel
theorem dc_Mo_say_2 : decode mb_Mo_say 2 = .ok (.putfield 116, 3) := by decide +kernel
theorem dc_Mo_say_5 : decode mb_Mo_say 5 = .ok (.aload_n 0, 1) := by decide +kernel
theorem dc_Mo_say_6 : decode mb_Mo_say 6 = .ok (.iload_n 1, 1) := by decide +kernel
theorem dc_Mo_say_7 : decode mb_Mo_say 7 = .ok (.invokevirtual 142, 3) := by decide +kernel
theorem dc_Mo_say_10 : decode mb_Mo_say 10 = .ok (.aload_n 0, 1) := by decide +kernel
theorem dc_Mo_say_11 : decode mb_Mo_say 11 = .ok (.iload_n 2, 1) := by decide +kernel
theorem dc_Mo_say_12 : decode mb_Mo_say 12 = .ok (.invokevirtual 142, 3) := by decide +kernel
theorem dc_Mo_say_15 : decode mb_Mo_say 15 = .ok (.return_, 1) := by decide +kernel
theorem dc_Mo_answer_0 : decode mb_Mo_answer 0 = .ok (.aload_n 0, 1) := by decide +kernel
theorem dc_Mo_answer_1 : decode mb_Mo_answer 1 = .ok (.iconst 0, 1) := by decide +kernel
theorem dc_Mo_answer_2 : decode mb_Mo_answer 2 = .ok (.invokevirtual 139, 3) := by decide +kernel
theorem dc_Mo_answer_5 : decode mb_Mo_answer 5 = .ok (.istore_n 2, 1) := by decide +kernel
theorem dc_Mo_answer_6 : decode mb_Mo_answer 6 = .ok (.aload_n 0, 1) := by decide +kernel
theorem dc_Mo_answer_7 : decode mb_Mo_answer 7 = .ok (.getfield 122, 3) := by decide +kernel
theorem dc_Mo_answer_10 : decode mb_Mo_answer 10 = .ok (.istore_n 3, 1) := by decide +kernel
theorem dc_Mo_answer_11 : decode mb_Mo_answer 11 = .ok (.aload_n 0, 1) := by decide +kernel
theorem dc_Mo_answer_12 : decode mb_Mo_answer 12 = .ok (.iconst 0, 1) := by decide +kernel
theorem dc_Mo_answer_13 : decode mb_Mo_answer 13 = .ok (.putfield 122, 3) := by decide +kernel
theorem dc_Mo_answer_16 : decode mb_Mo_answer 16 = .ok (.iload_n 2, 1) := by decide +kernel
theorem dc_Mo_answer_17 : decode mb_Mo_answer 17 = .ok (.bipush 96, 2) := by decide +kernel
theorem dc_Mo_answer_19 : decode mb_Mo_answer 19 = .ok (.if_icmp .ne 73, 3) := by decide +kernel
theorem dc_Mo_answer_22 : decode mb_Mo_answer 22 = .ok (.iload_n 1, 1) := by decide +kernel
theorem dc_Mo_answer_23 : decode mb_Mo_answer 23 = .ok (.bipush 6, 2) := by decide +kernel
theorem dc_Mo_answer_25 : decode mb_Mo_answer 25 = .ok (.if_icmp .ne 67, 3) := by decide +kernel
theorem dc_Mo_answer_28 : decode mb_Mo_answer 28 = .ok (.aload_n 0, 1) := by decide +kernel
theorem dc_Mo_answer_29 : decode mb_Mo_answer 29 = .ok (.aload_n 0, 1) := by decide +kernel
theorem dc_Mo_answer_30 : decode mb_Mo_answer 30 = .ok (.iconst 1, 1) := by decide +kernel
theorem dc_Mo_answer_31 : decode mb_Mo_answer 31 = .ok (.invokevirtual 139, 3) := by decide +kernel
theorem dc_Mo_answer_34 : decode mb_Mo_answer 34 = .ok (.iconst 1, 1) := by decide +kernel
theorem dc_Mo_answer_35 : decode mb_Mo_answer 35 = .ok (.if_icmp .ne 7, 3) := by decide +kernel
theorem dc_Mo_answer_38 : decode mb_Mo_answer 38 = .ok (.iconst 1, 1) := by decide +kernel
theorem dc_Mo_answer_39 : decode mb_Mo_answer 39 = .ok (.goto 29, 3) := by decide +kernel
theorem dc_Mo_answer_42 : decode mb_Mo_answer 42 = .ok (.aload_n 0, 1) := by decide +kernel
theorem dc_Mo_answer_43 : decode mb_Mo_answer 43 = .ok (.iconst 1, 1) := by decide +kernel
theorem dc_Mo_answer_44 : decode mb_Mo_answer 44 = .ok (.invokevirtual 139, 3) := by decide +kernel
theorem dc_Mo_answer_47 : decode mb_Mo_answer 47 = .ok (.iconst 2, 1) := by decide +kernel
theorem dc_Mo_answer_48 : decode mb_Mo_answer 48 = .ok (.if_icmp .ne 19, 3) := by decide +kernel
theorem dc_Mo_answer_51 : decode mb_Mo_answer 51 = .ok (.aload_n 0, 1) := by decide +kernel
theorem dc_Mo_answer_52 : decode mb_Mo_answer 52 = .ok (.iconst 2, 1) := by decide +kernel
theorem dc_Mo_answer_53 : decode mb_Mo_answer 53 = .ok (.invokevirtual 145, 3) := by decide +kernel
theorem dc_Mo_answer_56 : decode mb_Mo_answer 56 = .ok (.aload_n 0, 1) := by decide +kernel
theorem dc_Mo_answer_57 : decode mb_Mo_answer 57 = .ok (.getfield 41, 3) := by decide +kernel
theorem dc_Mo_answer_60 : decode mb_Mo_answer 60 = .ok (.if_icmp .ne 7, 3) := by decide +kernel
theorem dc_Mo_answer_63 : decode mb_Mo_answer 63 = .ok (.iconst 2, 1) := by decide +kernel
theorem dc_Mo_answer_64 : decode mb_Mo_answer 64 = .ok (.goto 4, 3) := by decide +kernel
theorem dc_Mo_answer_67 : decode mb_Mo_answer 67 = .ok (.iconst 0, 1) := by decide +kernel
theorem dc_Mo_answer_68 : decode mb_Mo_answer 68 = .ok (.putfield 71, 3) := by decide +kernel
theorem dc_Mo_answer_71 : decode mb_Mo_answer 71 = .ok (.aload_n 0, 1) := by decide +kernel
theorem dc_Mo_answer_72 : decode mb_Mo_answer 72 = .ok (.bipush 97, 2) := by decide +kernel
theorem dc_Mo_answer_74 : decode mb_Mo_answer 74 = .ok (.aload_n 0, 1) := by decide +kernel
theorem dc_Mo_answer_75 : decode mb_Mo_answer 75 = .ok (.getfield 71, 3) := by decide +kernel
theorem dc_Mo_answer_78 : decode mb_Mo_answer 78 = .ok (.ifCond .le 7, 3) := by decide +kernel
theorem dc_Mo_answer_81 : decode mb_Mo_answer 81 = .ok (.iconst 0, 1) := by decide +kernel
theorem dc_Mo_answer_82 : decode mb_Mo_answer 82 = .ok (.goto 4, 3) := by decide +kernel
theorem dc_Mo_answer_85 : decode mb_Mo_answer 85 = .ok (.iconst 1, 1) := by decide +kernel
theorem dc_Mo_answer_86 : decode mb_Mo_answer 86 = .ok (.invokevirtual 148, 3) := by decide +kernel
theorem dc_Mo_answer_89 : decode mb_Mo_answer 89 = .ok (.goto 261, 3) := by decide +kernel
theorem dc_Mo_answer_92 : decode mb_Mo_answer 92 = .ok (.iload_n 2, 1) := by decide +kernel
theorem dc_Mo_answer_93 : decode mb_Mo_answer 93 = .ok (.bipush 98, 2) := by decide +kernel
theorem dc_Mo_answer_95 : decode mb_Mo_answer 95 = .ok (.if_icmp .ne 27, 3) := by decide +kernel
theorem dc_Mo_answer_98 : decode mb_Mo_answer 98 = .ok (.iload_n 1, 1) := by decide +kernel
theorem dc_Mo_answer_99 : decode mb_Mo_answer 99 = .ok (.iconst 1, 1) := by decide +kernel
theorem dc_Mo_answer_100 : decode mb_Mo_answer 100 = .ok (.if_icmp .ne 22, 3) := by decide +kernel
theorem dc_Mo_answer_103 : decode mb_Mo_answer 103 = .ok (.aload_n 0, 1) := by decide +kernel
theorem dc_Mo_answer_104 : decode mb_Mo_answer 104 = .ok (.iconst 0, 1) := by decide +kernel
theorem dc_Mo_answer_105 : decode mb_Mo_answer 105 = .ok (.putfield 71, 3) := by decide +kernel
theorem dc_Mo_answer_108 : decode mb_Mo_answer 108 = .ok (.aload_n 0, 1) := by decide +kernel
theorem dc_Mo_answer_109 : decode mb_Mo_answer 109 = .ok (.iconst 0, 1) := by decide +kernel
theorem dc_Mo_answer_110 : decode mb_Mo_answer 110 = .ok (.putfield 116, 3) := by decide +kernel
theorem dc_Mo_answer_113 : decode mb_Mo_answer 113 = .ok (.aload_n 0, 1) := by decide +kernel
theorem dc_Mo_answer_114 : decode mb_Mo_answer 114 = .ok (.bipush 99, 2) := by decide +kernel
theorem dc_Mo_answer_116 : decode mb_Mo_answer 116 = .ok (.invokevirtual 142, 3) := by decide +kernel
theorem dc_Mo_answer_119 : decode mb_Mo_answer 119 = .ok (.goto 231, 3) := by decide +kernel
theorem dc_Mo_answer_122 : decode mb_Mo_answer 122 = .ok (.aload_n 0, 1) := by decide +kernel
theorem dc_Mo_answer_123 : decode mb_Mo_answer 123 = .ok (.getfield 71, 3) := by decide +kernel
theorem dc_Mo_answer_126 : decode mb_Mo_answer 126 = .ok (.ifCond .ne 35, 3) := by decide +kernel
theorem dc_Mo_answer_129 : decode mb_Mo_answer 129 = .ok (.iload_n 2, 1) := by decide +kernel
theorem dc_Mo_answer_130 : decode mb_Mo_answer 130 = .ok (.sipush 192, 3) := by decide +kernel
theorem dc_Mo_answer_133 : decode mb_Mo_answer 133 = .ok (.if_icmp .eq 17, 3) := by decide +kernel
theorem dc_Mo_answer_136 : decode mb_Mo_answer 136 = .ok (.iload_n 2, 1) := by decide +kernel
theorem dc_Mo_answer_137 : decode mb_Mo_answer 137 = .ok (.sipush 193, 3) := by decide +kernel
theorem dc_Mo_answer_140 : decode mb_Mo_answer 140 = .ok (.if_icmp .eq 10, 3) := by decide +kernel
theorem dc_Mo_answer_143 : decode mb_Mo_answer 143 = .ok (.iload_n 2, 1) := by decide +kernel
theorem dc_Mo_answer_144 : decode mb_Mo_answer 144 = .ok (.sipush 195, 3) := by decide +kernel
theorem dc_Mo_answer_147 : decode mb_Mo_answer 147 = .ok (.if_icmp .ne 14, 3) := by decide +kernel
theorem dc_Mo_answer_150 : decode mb_Mo_answer 150 = .ok (.aload_n 0, 1) := by decide +kernel
theorem dc_Mo_answer_151 : decode mb_Mo_answer 151 = .ok (.sipush 216, 3) := by decide +kernel
theorem dc_Mo_answer_154 : decode mb_Mo_answer 154 = .ok (.iconst 1, 1) := by decide +kernel
theorem dc_Mo_answer_155 : decode mb_Mo_answer 155 = .ok (.invokevirtual 148, 3) := by decide +kernel
theorem dc_Mo_answer_158 : decode mb_Mo_answer 158 = .ok (.goto 192, 3) := by decide +kernel
theorem dc_Mo_answer_161 : decode mb_Mo_answer 161 = .ok (.iload_n 2, 1) := by decide +kernel
theorem dc_Mo_answer_162 : decode mb_Mo_answer 162 = .ok (.sipush 192, 3) := by decide +kernel
theorem dc_Mo_answer_165 : decode mb_Mo_answer 165 = .ok (.if_icmp .ne 25, 3) := by decide +kernel
theorem dc_Mo_answer_168 : decode mb_Mo_answer 168 = .ok (.iload_n 1, 1) := by decide +kernel
theorem dc_Mo_answer_169 : decode mb_Mo_answer 169 = .ok (.iconst 3, 1) := by decide +kernel
theorem dc_Mo_answer_170 : decode mb_Mo_answer 170 = .ok (.if_icmp .ne 20, 3) := by decide +kernel
theorem dc_Mo_answer_173 : decode mb_Mo_answer 173 = .ok (.aload_n 0, 1) := by decide +kernel
theorem dc_Mo_answer_174 : decode mb_Mo_answer 174 = .ok (.iconst 1, 1) := by decide +kernel
theorem dc_Mo_answer_175 : decode mb_Mo_answer 175 = .ok (.invokevirtual 139, 3) := by decide +kernel
theorem dc_Mo_answer_178 : decode mb_Mo_answer 178 = .ok (.iconst 2, 1) := by decide +kernel
theorem dc_Mo_answer_179 : decode mb_Mo_answer 179 = .ok (.if_icmp .ne 11, 3) := by decide +kernel
theorem dc_Mo_answer_182 : decode mb_Mo_answer 182 = .ok (.aload_n 0, 1) := by decide +kernel
theorem dc_Mo_answer_183 : decode mb_Mo_answer 183 = .ok (.iload_n 3, 1) := by decide +kernel
theorem dc_Mo_answer_184 : decode mb_Mo_answer 184 = .ok (.invokevirtual 152, 3) := by decide +kernel
theorem dc_Mo_answer_187 : decode mb_Mo_answer 187 = .ok (.goto 163, 3) := by decide +kernel
theorem dc_Mo_answer_190 : decode mb_Mo_answer 190 = .ok (.iload_n 2, 1) := by decide +kernel
theorem dc_Mo_answer_191 : decode mb_Mo_answer 191 = .ok (.sipush 192, 3) := by decide +kernel
theorem dc_Mo_answer_194 : decode mb_Mo_answer 194 = .ok (.if_icmp .ne 68, 3) := by decide +kernel
theorem dc_Mo_answer_197 : decode mb_Mo_answer 197 = .ok (.aload_n 0, 1) := by decide +kernel
theorem dc_Mo_answer_198 : decode mb_Mo_answer 198 = .ok (.iconst 1, 1) := by decide +kernel
theorem dc_Mo_answer_199 : decode mb_Mo_answer 199 = .ok (.invokevirtual 139, 3) := by decide +kernel
theorem dc_Mo_answer_202 : decode mb_Mo_answer 202 = .ok (.iconst 1, 1) := by decide +kernel
theorem dc_Mo_answer_203 : decode mb_Mo_answer 203 = .ok (.if_icmp .ne 59, 3) := by decide +kernel
theorem dc_Mo_answer_206 : decode mb_Mo_answer 206 = .ok (.iload_n 1, 1) := by decide +kernel
theorem dc_Mo_answer_207 : decode mb_Mo_answer 207 = .ok (.iconst 5, 1) := by decide +kernel
theorem dc_Mo_answer_208 : decode mb_Mo_answer 208 = .ok (.if_icmp .ne 11, 3) := by decide +kernel
theorem dc_Mo_answer_211 : decode mb_Mo_answer 211 = .ok (.aload_n 0, 1) := by decide +kernel
theorem dc_Mo_answer_212 : decode mb_Mo_answer 212 = .ok (.iconst 4, 1) := by decide +kernel
theorem dc_Mo_answer_213 : decode mb_Mo_answer 213 = .ok (.invokevirtual 139, 3) := by decide +kernel
theorem dc_Mo_answer_216 : decode mb_Mo_answer 216 = .ok (.ifCond .eq 18, 3) := by decide +kernel
theorem dc_Mo_answer_219 : decode mb_Mo_answer 219 = .ok (.iload_n 1, 1) := by decide +kernel
theorem dc_Mo_answer_220 : decode mb_Mo_answer 220 = .ok (.bipush 13, 2) := by decide +kernel
theorem dc_Mo_answer_222 : decode mb_Mo_answer 222 = .ok (.if_icmp .ne 40, 3) := by decide +kernel
theorem dc_Mo_answer_225 : decode mb_Mo_answer 225 = .ok (.aload_n 0, 1) := by decide +kernel
theorem dc_Mo_answer_226 : decode mb_Mo_answer 226 = .ok (.iconst 4, 1) := by decide +kernel
theorem dc_Mo_answer_227 : decode mb_Mo_answer 227 = .ok (.invokevirtual 139, 3) := by decide +kernel
theorem dc_Mo_answer_230 : decode mb_Mo_answer 230 = .ok (.iconst 1, 1) := by decide +kernel
theorem dc_Mo_answer_231 : decode mb_Mo_answer 231 = .ok (.if_icmp .ne 31, 3) := by decide +kernel
theorem dc_Mo_answer_234 : decode mb_Mo_answer 234 = .ok (.aload_n 0, 1) := by decide +kernel
theorem dc_Mo_answer_235 : decode mb_Mo_answer 235 = .ok (.aload_n 0, 1) := by decide +kernel
theorem dc_Mo_answer_236 : decode mb_Mo_answer 236 = .ok (.iconst 2, 1) := by decide +kernel
theorem dc_Mo_answer_237 : decode mb_Mo_answer 237 = .ok (.invokevirtual 139, 3) := by decide +kernel
theorem dc_Mo_answer_240 : decode mb_Mo_answer 240 = .ok (.aload_n 0, 1) := by decide +kernel
theorem dc_Mo_answer_241 : decode mb_Mo_answer 241 = .ok (.iconst 3, 1) := by decide +kernel
theorem dc_Mo_answer_242 : decode mb_Mo_answer 242 = .ok (.invokevirtual 139, 3) := by decide +kernel
theorem dc_Mo_answer_245 : decode mb_Mo_answer 245 = .ok (.iload_n 1, 1) := by decide +kernel
theorem dc_Mo_answer_246 : decode mb_Mo_answer 246 = .ok (.bipush 13, 2) := by decide +kernel
theorem dc_Mo_answer_248 : decode mb_Mo_answer 248 = .ok (.if_icmp .ne 7, 3) := by decide +kernel
theorem dc_Mo_answer_251 : decode mb_Mo_answer 251 = .ok (.iconst 1, 1) := by decide +kernel
theorem dc_Mo_answer_252 : decode mb_Mo_answer 252 = .ok (.goto 4, 3) := by decide +kernel
theorem dc_Mo_answer_255 : decode mb_Mo_answer 255 = .ok (.iconst 0, 1) := by decide +kernel
theorem dc_Mo_answer_256 : decode mb_Mo_answer 256 = .ok (.invokevirtual 155, 3) := by decide +kernel
theorem dc_Mo_answer_259 : decode mb_Mo_answer 259 = .ok (.goto 91, 3) := by decide +kernel
theorem dc_Mo_answer_262 : decode mb_Mo_answer 262 = .ok (.iload_n 2, 1) := by decide +kernel
theorem dc_Mo_answer_263 : decode mb_Mo_answer 263 = .ok (.sipush 193, 3) := by decide +kernel
theorem dc_Mo_answer_266 : decode mb_Mo_answer 266 = .ok (.if_icmp .ne 35, 3) := by decide +kernel
theorem dc_Mo_answer_269 : decode mb_Mo_answer 269 = .ok (.iload_n 1, 1) := by decide +kernel
theorem dc_Mo_answer_270 : decode mb_Mo_answer 270 = .ok (.iconst 3, 1) := by decide +kernel
theorem dc_Mo_answer_271 : decode mb_Mo_answer 271 = .ok (.if_icmp .lt 30, 3) := by decide +kernel
theorem dc_Mo_answer_274 : decode mb_Mo_answer 274 = .ok (.aload_n 0, 1) := by decide +kernel
theorem dc_Mo_answer_275 : decode mb_Mo_answer 275 = .ok (.sipush 197, 3) := by decide +kernel
theorem dc_Mo_answer_278 : decode mb_Mo_answer 278 = .ok (.aload_n 0, 1) := by decide +kernel
theorem dc_Mo_answer_279 : decode mb_Mo_answer 279 = .ok (.aload_n 0, 1) := by decide +kernel
theorem dc_Mo_answer_280 : decode mb_Mo_answer 280 = .ok (.iconst 1, 1) := by decide +kernel
theorem dc_Mo_answer_281 : decode mb_Mo_answer 281 = .ok (.invokevirtual 139, 3) := by decide +kernel
theorem dc_Mo_answer_284 : decode mb_Mo_answer 284 = .ok (.aload_n 0, 1) := by decide +kernel
theorem dc_Mo_answer_285 : decode mb_Mo_answer 285 = .ok (.iconst 2, 1) := by decide +kernel
theorem dc_Mo_answer_286 : decode mb_Mo_answer 286 = .ok (.invokevirtual 139, 3) := by decide +kernel
theorem dc_Mo_answer_289 : decode mb_Mo_answer 289 = .ok (.iload_n 1, 1) := by decide +kernel
theorem dc_Mo_answer_290 : decode mb_Mo_answer 290 = .ok (.iconst 3, 1) := by decide +kernel
theorem dc_Mo_answer_291 : decode mb_Mo_answer 291 = .ok (.isub, 1) := by decide +kernel
theorem dc_Mo_answer_292 : decode mb_Mo_answer 292 = .ok (.invokevirtual 159, 3) := by decide +kernel
theorem dc_Mo_answer_295 : decode mb_Mo_answer 295 = .ok (.invokevirtual 148, 3) := by decide +kernel
theorem dc_Mo_answer_298 : decode mb_Mo_answer 298 = .ok (.goto 52, 3) := by decide +kernel
theorem dc_Mo_answer_301 : decode mb_Mo_answer 301 = .ok (.iload_n 2, 1) := by decide +kernel
theorem dc_Mo_answer_302 : decode mb_Mo_answer 302 = .ok (.sipush 195, 3) := by decide +kernel
theorem dc_Mo_answer_305 : decode mb_Mo_answer 305 = .ok (.if_icmp .ne 37, 3) := by decide +kernel
theorem dc_Mo_answer_308 : decode mb_Mo_answer 308 = .ok (.iload_n 1, 1) := by decide +kernel
theorem dc_Mo_answer_309 : decode mb_Mo_answer 309 = .ok (.iconst 4, 1) := by decide +kernel
theorem dc_Mo_answer_310 : decode mb_Mo_answer 310 = .ok (.if_icmp .ne 32, 3) := by decide +kernel
theorem dc_Mo_answer_313 : decode mb_Mo_answer 313 = .ok (.aload_n 0, 1) := by decide +kernel
theorem dc_Mo_answer_314 : decode mb_Mo_answer 314 = .ok (.sipush 199, 3) := by decide +kernel
theorem dc_Mo_answer_317 : decode mb_Mo_answer 317 = .ok (.aload_n 0, 1) := by decide +kernel
theorem dc_Mo_answer_318 : decode mb_Mo_answer 318 = .ok (.aload_n 0, 1) := by decide +kernel
theorem dc_Mo_answer_319 : decode mb_Mo_answer 319 = .ok (.iconst 1, 1) := by decide +kernel
theorem dc_Mo_answer_320 : decode mb_Mo_answer 320 = .ok (.invokevirtual 139, 3) := by decide +kernel
theorem dc_Mo_answer_323 : decode mb_Mo_answer 323 = .ok (.aload_n 0, 1) := by decide +kernel
theorem dc_Mo_answer_324 : decode mb_Mo_answer 324 = .ok (.iconst 2, 1) := by decide +kernel
theorem dc_Mo_answer_325 : decode mb_Mo_answer 325 = .ok (.invokevirtual 139, 3) := by decide +kernel
theorem dc_Mo_answer_328 : decode mb_Mo_answer 328 = .ok (.aload_n 0, 1) := by decide +kernel
theorem dc_Mo_answer_329 : decode mb_Mo_answer 329 = .ok (.iconst 3, 1) := by decide +kernel
theorem dc_Mo_answer_330 : decode mb_Mo_answer 330 = .ok (.invokevirtual 139, 3) := by decide +kernel
theorem dc_Mo_answer_333 : decode mb_Mo_answer 333 = .ok (.invokevirtual 163, 3) := by decide +kernel
theorem dc_Mo_answer_336 : decode mb_Mo_answer 336 = .ok (.invokevirtual 148, 3) := by decide +kernel
theorem dc_Mo_answer_339 : decode mb_Mo_answer 339 = .ok (.goto 11, 3) := by decide +kernel
theorem dc_Mo_answer_342 : decode mb_Mo_answer 342 = .ok (.aload_n 0, 1) := by decide +kernel
theorem dc_Mo_answer_343 : decode mb_Mo_answer 343 = .ok (.sipush 216, 3) := by decide +kernel
theorem dc_Mo_answer_346 : decode mb_Mo_answer 346 = .ok (.iconst 2, 1) := by decide +kernel
theorem dc_Mo_answer_347 : decode mb_Mo_answer 347 = .ok (.invokevirtual 148, 3) := by decide +kernel
theorem dc_Mo_answer_350 : decode mb_Mo_answer 350 = .ok (.return_, 1) := by decide +kernel
theorem dc_Mo_refuse_0 : decode mb_Mo_refuse 0 = .ok (.aload_n 0, 1) := by decide +kernel
theorem dc_Mo_refuse_1 : decode mb_Mo_refuse 1 = .ok (.sipush 196, 3) := by decide +kernel
theorem dc_Mo_refuse_4 : decode mb_Mo_refuse 4 = .ok (.iconst 1, 1) := by decide +kernel
theorem dc_Mo_refuse_5 : decode mb_Mo_refuse 5 = .ok (.invokevirtual 148, 3) := by decide +kernel
theorem dc_Mo_refuse_8 : decode mb_Mo_refuse 8 = .ok (.aload_n 0, 1) := by decide +kernel
theorem dc_Mo_refuse_9 : decode mb_Mo_refuse 9 = .ok (.iconst 1, 1) := by decide +kernel
theorem dc_Mo_refuse_10 : decode mb_Mo_refuse 10 = .ok (.invokevirtual 142, 3) := by decide +kernel
theorem dc_Mo_refuse_13 : decode mb_Mo_refuse 13 = .ok (.aload_n 0, 1) := by decide +kernel
theorem dc_Mo_refuse_14 : decode mb_Mo_refuse 14 = .ok (.iload_n 1, 1) := by decide +kernel
theorem dc_Mo_refuse_15 : decode mb_Mo_refuse 15 = .ok (.invokevirtual 142, 3) := by decide +kernel
theorem dc_Mo_refuse_18 : decode mb_Mo_refuse 18 = .ok (.return_, 1) := by decide +kernel
theorem dc_Mo_block_0 : decode mb_Mo_block 0 = .ok (.bipush 40, 2) := by decide +kernel
theorem dc_Mo_block_2 : decode mb_Mo_block 2 = .ok (.aload_n 0, 1) := by decide +kernel
theorem dc_Mo_block_3 : decode mb_Mo_block 3 = .ok (.getfield 166, 3) := by decide +kernel
theorem dc_Mo_block_6 : decode mb_Mo_block 6 = .ok (.imul, 1) := by decide +kernel
theorem dc_Mo_block_7 : decode mb_Mo_block 7 = .ok (.istore_n 2, 1) := by decide +kernel
theorem dc_Mo_block_8 : decode mb_Mo_block 8 = .ok (.iload_n 1, 1) := by decide +kernel
theorem dc_Mo_block_9 : decode mb_Mo_block 9 = .ok (.iload_n 2, 1) := by decide +kernel
theorem dc_Mo_block_10 : decode mb_Mo_block 10 = .ok (.isub, 1) := by decide +kernel
theorem dc_Mo_block_11 : decode mb_Mo_block 11 = .ok (.bipush 40, 2) := by decide +kernel
theorem dc_Mo_block_13 : decode mb_Mo_block 13 = .ok (.if_icmp .le 10, 3) := by decide +kernel
theorem dc_Mo_block_16 : decode mb_Mo_block 16 = .ok (.iload_n 2, 1) := by decide +kernel
theorem dc_Mo_block_17 : decode mb_Mo_block 17 = .ok (.bipush 40, 2) := by decide +kernel
theorem dc_Mo_block_19 : decode mb_Mo_block 19 = .ok (.iadd, 1) := by decide +kernel
theorem dc_Mo_block_20 : decode mb_Mo_block 20 = .ok (.goto 4, 3) := by decide +kernel
theorem dc_Mo_block_23 : decode mb_Mo_block 23 = .ok (.iload_n 1, 1) := by decide +kernel
theorem dc_Mo_block_24 : decode mb_Mo_block 24 = .ok (.istore_n 3, 1) := by decide +kernel
theorem dc_Mo_block_25 : decode mb_Mo_block 25 = .ok (.aload_n 0, 1) := by decide +kernel
theorem dc_Mo_block_26 : decode mb_Mo_block 26 = .ok (.dup, 1) := by decide +kernel
theorem dc_Mo_block_27 : decode mb_Mo_block 27 = .ok (.getfield 166, 3) := by decide +kernel
theorem dc_Mo_block_30 : decode mb_Mo_block 30 = .ok (.iconst 1, 1) := by decide +kernel
theorem dc_Mo_block_31 : decode mb_Mo_block 31 = .ok (.iadd, 1) := by decide +kernel
theorem dc_Mo_block_32 : decode mb_Mo_block 32 = .ok (.putfield 166, 3) := by decide +kernel
theorem dc_Mo_block_35 : decode mb_Mo_block 35 = .ok (.aload_n 0, 1) := by decide +kernel
theorem dc_Mo_block_36 : decode mb_Mo_block 36 = .ok (.sipush 196, 3) := by decide +kernel
theorem dc_Mo_block_39 : decode mb_Mo_block 39 = .ok (.iconst 2, 1) := by decide +kernel
theorem dc_Mo_block_40 : decode mb_Mo_block 40 = .ok (.invokevirtual 148, 3) := by decide +kernel
theorem dc_Mo_block_43 : decode mb_Mo_block 43 = .ok (.aload_n 0, 1) := by decide +kernel
theorem dc_Mo_block_44 : decode mb_Mo_block 44 = .ok (.iload_n 3, 1) := by decide +kernel
theorem dc_Mo_block_45 : decode mb_Mo_block 45 = .ok (.iload_n 1, 1) := by decide +kernel
theorem dc_Mo_block_46 : decode mb_Mo_block 46 = .ok (.if_icmp .ne 7, 3) := by decide +kernel
theorem dc_Mo_block_49 : decode mb_Mo_block 49 = .ok (.iconst 1, 1) := by decide +kernel
theorem dc_Mo_block_50 : decode mb_Mo_block 50 = .ok (.goto 4, 3) := by decide +kernel
theorem dc_Mo_block_53 : decode mb_Mo_block 53 = .ok (.iconst 0, 1) := by decide +kernel
theorem dc_Mo_block_54 : decode mb_Mo_block 54 = .ok (.invokevirtual 142, 3) := by decide +kernel
theorem dc_Mo_block_57 : decode mb_Mo_block 57 = .ok (.aload_n 0, 1) := by decide +kernel
theorem dc_Mo_block_58 : decode mb_Mo_block 58 = .ok (.aload_n 0, 1) := by decide +kernel
theorem dc_Mo_block_59 : decode mb_Mo_block 59 = .ok (.getfield 166, 3) := by decide +kernel
theorem dc_Mo_block_62 : decode mb_Mo_block 62 = .ok (.invokevirtual 142, 3) := by decide +kernel
theorem dc_Mo_block_65 : decode mb_Mo_block 65 = .ok (.iload_n 2, 1) := by decide +kernel
theorem dc_Mo_block_66 : decode mb_Mo_block 66 = .ok (.istore 4, 2) := by decide +kernel
theorem dc_Mo_block_68 : decode mb_Mo_block 68 = .ok (.iload 4, 2) := by decide +kernel
theorem dc_Mo_block_70 : decode mb_Mo_block 70 = .ok (.iload_n 3, 1) := by decide +kernel
theorem dc_Mo_block_71 : decode mb_Mo_block 71 = .ok (.if_icmp .ge 20, 3) := by decide +kernel
theorem dc_Mo_block_74 : decode mb_Mo_block 74 = .ok (.aload_n 0, 1) := by decide +kernel
theorem dc_Mo_block_75 : decode mb_Mo_block 75 = .ok (.aload_n 0, 1) := by decide +kernel
theorem dc_Mo_block_76 : decode mb_Mo_block 76 = .ok (.getfield 26, 3) := by decide +kernel
theorem dc_Mo_block_79 : decode mb_Mo_block 79 = .ok (.iload 4, 2) := by decide +kernel
theorem dc_Mo_block_81 : decode mb_Mo_block 81 = .ok (.iaload, 1) := by decide +kernel
theorem dc_Mo_block_82 : decode mb_Mo_block 82 = .ok (.invokevirtual 142, 3) := by decide +kernel
theorem dc_Mo_block_85 : decode mb_Mo_block 85 = .ok (.iinc 4 1, 3) := by decide +kernel
theorem dc_Mo_block_88 : decode mb_Mo_block 88 = .ok (.goto (-20), 3) := by decide +kernel
theorem dc_Mo_block_91 : decode mb_Mo_block 91 = .ok (.aload_n 0, 1) := by decide +kernel
theorem dc_Mo_block_92 : decode mb_Mo_block 92 = .ok (.iload_n 3, 1) := by decide +kernel
theorem dc_Mo_block_93 : decode mb_Mo_block 93 = .ok (.iload_n 1, 1) := by decide +kernel
theorem dc_Mo_block_94 : decode mb_Mo_block 94 = .ok (.if_icmp .ne 7, 3) := by decide +kernel
theorem dc_Mo_block_97 : decode mb_Mo_block 97 = .ok (.iconst 0, 1) := by decide +kernel
theorem dc_Mo_block_98 : decode mb_Mo_block 98 = .ok (.goto 4, 3) := by decide +kernel
theorem dc_Mo_block_101 : decode mb_Mo_block 101 = .ok (.iload_n 1, 1) := by decide +kernel
theorem dc_Mo_block_102 : decode mb_Mo_block 102 = .ok (.putfield 122, 3) := by decide +kernel
theorem dc_Mo_block_105 : decode mb_Mo_block 105 = .ok (.return_, 1) := by decide +kernel
theorem dc_Mo_more_0 : decode mb_Mo_more 0 = .ok (.iload_n 1, 1) := by decide +kernel
theorem dc_Mo_more_1 : decode mb_Mo_more 1 = .ok (.ifCond .ne 12, 3) := by decide +kernel
theorem dc_Mo_more_4 : decode mb_Mo_more 4 = .ok (.aload_n 0, 1) := by decide +kernel
theorem dc_Mo_more_5 : decode mb_Mo_more 5 = .ok (.bipush 16, 2) := by decide +kernel
theorem dc_Mo_more_7 : decode mb_Mo_more 7 = .ok (.invokevirtual 169, 3) := by decide +kernel
theorem dc_Mo_more_10 : decode mb_Mo_more 10 = .ok (.goto 29, 3) := by decide +kernel
theorem dc_Mo_more_13 : decode mb_Mo_more 13 = .ok (.aload_n 0, 1) := by decide +kernel
theorem dc_Mo_more_14 : decode mb_Mo_more 14 = .ok (.iconst 2, 1) := by decide +kernel
theorem dc_Mo_more_15 : decode mb_Mo_more 15 = .ok (.invokevirtual 139, 3) := by decide +kernel
theorem dc_Mo_more_18 : decode mb_Mo_more 18 = .ok (.aload_n 0, 1) := by decide +kernel
theorem dc_Mo_more_19 : decode mb_Mo_more 19 = .ok (.getfield 166, 3) := by decide +kernel
theorem dc_Mo_more_22 : decode mb_Mo_more 22 = .ok (.if_icmp .eq 12, 3) := by decide +kernel
theorem dc_Mo_more_25 : decode mb_Mo_more 25 = .ok (.aload_n 0, 1) := by decide +kernel
theorem dc_Mo_more_26 : decode mb_Mo_more 26 = .ok (.bipush 19, 2) := by decide +kernel
theorem dc_Mo_more_28 : decode mb_Mo_more 28 = .ok (.invokevirtual 169, 3) := by decide +kernel
theorem dc_Mo_more_31 : decode mb_Mo_more 31 = .ok (.goto 8, 3) := by decide +kernel
theorem dc_Mo_more_34 : decode mb_Mo_more 34 = .ok (.aload_n 0, 1) := by decide +kernel
theorem dc_Mo_more_35 : decode mb_Mo_more 35 = .ok (.iload_n 1, 1) := by decide +kernel
theorem dc_Mo_more_36 : decode mb_Mo_more 36 = .ok (.invokevirtual 172, 3) := by decide +kernel
theorem dc_Mo_more_39 : decode mb_Mo_more 39 = .ok (.return_, 1) := by decide +kernel
theorem dc_Mo_isAttribute_0 : decode mb_Mo_isAttribute 0 = .ok (.iload_n 1, 1) := by decide +kernel
theorem dc_Mo_isAttribute_1 : decode mb_Mo_isAttribute 1 = .ok (.iconst 1, 1) := by decide +kernel
theorem dc_Mo_isAttribute_2 : decode mb_Mo_isAttribute 2 = .ok (.if_icmp .eq 39, 3) := by decide +kernel
theorem dc_Mo_isAttribute_5 : decode mb_Mo_isAttribute 5 = .ok (.iload_n 1, 1) := by decide +kernel
theorem dc_Mo_isAttribute_6 : decode mb_Mo_isAttribute 6 = .ok (.iconst 2, 1) := by decide +kernel
theorem dc_Mo_isAttribute_7 : decode mb_Mo_isAttribute 7 = .ok (.if_icmp .eq 34, 3) := by decide +kernel
theorem dc_Mo_isAttribute_10 : decode mb_Mo_isAttribute 10 = .ok (.iload_n 1, 1) := by decide +kernel
theorem dc_Mo_isAttribute_11 : decode mb_Mo_isAttribute 11 = .ok (.iconst 3, 1) := by decide +kernel
theorem dc_Mo_isAttribute_12 : decode mb_Mo_isAttribute 12 = .ok (.if_icmp .ne 7, 3) := by decide +kernel
theorem dc_Mo_isAttribute_15 : decode mb_Mo_isAttribute 15 = .ok (.iload_n 0, 1) := by decide +kernel
theorem dc_Mo_isAttribute_16 : decode mb_Mo_isAttribute 16 = .ok (.ifCond .gt 25, 3) := by decide +kernel
theorem dc_Mo_isAttribute_19 : decode mb_Mo_isAttribute 19 = .ok (.iload_n 0, 1) := by decide +kernel
theorem dc_Mo_isAttribute_20 : decode mb_Mo_isAttribute 20 = .ok (.iconst 4, 1) := by decide +kernel
theorem dc_Mo_isAttribute_21 : decode mb_Mo_isAttribute 21 = .ok (.if_icmp .ne 24, 3) := by decide +kernel
theorem dc_Mo_isAttribute_24 : decode mb_Mo_isAttribute 24 = .ok (.iload_n 1, 1) := by decide +kernel
theorem dc_Mo_isAttribute_25 : decode mb_Mo_isAttribute 25 = .ok (.iconst 4, 1) := by decide +kernel
theorem dc_Mo_isAttribute_26 : decode mb_Mo_isAttribute 26 = .ok (.if_icmp .eq 15, 3) := by decide +kernel
theorem dc_Mo_isAttribute_29 : decode mb_Mo_isAttribute 29 = .ok (.iload_n 1, 1) := by decide +kernel
theorem dc_Mo_isAttribute_30 : decode mb_Mo_isAttribute 30 = .ok (.bipush 7, 2) := by decide +kernel
theorem dc_Mo_isAttribute_32 : decode mb_Mo_isAttribute 32 = .ok (.if_icmp .eq 9, 3) := by decide +kernel
theorem dc_Mo_isAttribute_35 : decode mb_Mo_isAttribute 35 = .ok (.iload_n 1, 1) := by decide +kernel
theorem dc_Mo_isAttribute_36 : decode mb_Mo_isAttribute 36 = .ok (.bipush 8, 2) := by decide +kernel
theorem dc_Mo_isAttribute_38 : decode mb_Mo_isAttribute 38 = .ok (.if_icmp .ne 7, 3) := by decide +kernel
theorem dc_Mo_isAttribute_41 : decode mb_Mo_isAttribute 41 = .ok (.iconst 1, 1) := by decide +kernel
theorem dc_Mo_isAttribute_42 : decode mb_Mo_isAttribute 42 = .ok (.goto 4, 3) := by decide +kernel
theorem dc_Mo_isAttribute_45 : decode mb_Mo_isAttribute 45 = .ok (.iconst 0, 1) := by decide +kernel
theorem dc_Mo_isAttribute_46 : decode mb_Mo_isAttribute 46 = .ok (.ireturn, 1) := by decide +kernel
theorem dc_Mo_get_0 : decode mb_Mo_get 0 = .ok (.iload_n 1, 1) := by decide +kernel
theorem dc_Mo_get_1 : decode mb_Mo_get 1 = .ok (.iconst 4, 1) := by decide +kernel
theorem dc_Mo_get_2 : decode mb_Mo_get 2 = .ok (.if_icmp .le 7, 3) := by decide +kernel
theorem dc_Mo_get_5 : decode mb_Mo_get 5 = .ok (.iconst 4, 1) := by decide +kernel
theorem dc_Mo_get_6 : decode mb_Mo_get 6 = .ok (.goto 36, 3) := by decide +kernel
theorem dc_Mo_get_9 : decode mb_Mo_get 9 = .ok (.iload_n 1, 1) := by decide +kernel
theorem dc_Mo_get_10 : decode mb_Mo_get 10 = .ok (.iload_n 2, 1) := by decide +kernel
theorem dc_Mo_get_11 : decode mb_Mo_get 11 = .ok (.invokestatic 175, 3) := by decide +kernel
theorem dc_Mo_get_14 : decode mb_Mo_get 14 = .ok (.ifCond .ne 8, 3) := by decide +kernel
theorem dc_Mo_get_17 : decode mb_Mo_get 17 = .ok (.bipush 9, 2) := by decide +kernel
theorem dc_Mo_get_19 : decode mb_Mo_get 19 = .ok (.goto 23, 3) := by decide +kernel
theorem dc_Mo_get_22 : decode mb_Mo_get 22 = .ok (.iload_n 3, 1) := by decide +kernel
theorem dc_Mo_get_23 : decode mb_Mo_get 23 = .ok (.ifCond .eq 18, 3) := by decide +kernel
theorem dc_Mo_get_26 : decode mb_Mo_get 26 = .ok (.iload_n 1, 1) := by decide +kernel
theorem dc_Mo_get_27 : decode mb_Mo_get 27 = .ok (.iconst 4, 1) := by decide +kernel
theorem dc_Mo_get_28 : decode mb_Mo_get 28 = .ok (.if_icmp .ne 8, 3) := by decide +kernel
theorem dc_Mo_get_31 : decode mb_Mo_get 31 = .ok (.iload_n 2, 1) := by decide +kernel
theorem dc_Mo_get_32 : decode mb_Mo_get 32 = .ok (.iconst 2, 1) := by decide +kernel
theorem dc_Mo_get_33 : decode mb_Mo_get 33 = .ok (.if_icmp .eq 8, 3) := by decide +kernel
theorem dc_Mo_get_36 : decode mb_Mo_get 36 = .ok (.bipush 13, 2) := by decide +kernel
theorem dc_Mo_get_38 : decode mb_Mo_get 38 = .ok (.goto 4, 3) := by decide +kernel
theorem dc_Mo_get_41 : decode mb_Mo_get 41 = .ok (.iconst 0, 1) := by decide +kernel
theorem dc_Mo_get_42 : decode mb_Mo_get 42 = .ok (.istore 4, 2) := by decide +kernel
theorem dc_Mo_get_44 : decode mb_Mo_get 44 = .ok (.iload 4, 2) := by decide +kernel
theorem dc_Mo_get_46 : decode mb_Mo_get 46 = .ok (.ifCond .le 10, 3) := by decide +kernel
theorem dc_Mo_get_49 : decode mb_Mo_get 49 = .ok (.aload_n 0, 1) := by decide +kernel
theorem dc_Mo_get_50 : decode mb_Mo_get 50 = .ok (.iload 4, 2) := by decide +kernel
theorem dc_Mo_get_52 : decode mb_Mo_get 52 = .ok (.invokevirtual 169, 3) := by decide +kernel
theorem dc_Mo_get_55 : decode mb_Mo_get 55 = .ok (.return_, 1) := by decide +kernel
theorem dc_Mo_get_56 : decode mb_Mo_get 56 = .ok (.aload_n 0, 1) := by decide +kernel
theorem dc_Mo_get_57 : decode mb_Mo_get 57 = .ok (.iconst 0, 1) := by decide +kernel
theorem dc_Mo_get_58 : decode mb_Mo_get 58 = .ok (.putfield 116, 3) := by decide +kernel
theorem dc_Mo_get_61 : decode mb_Mo_get 61 = .ok (.aload_n 0, 1) := by decide +kernel
theorem dc_Mo_get_62 : decode mb_Mo_get 62 = .ok (.iload_n 1, 1) := by decide +kernel
theorem dc_Mo_get_63 : decode mb_Mo_get 63 = .ok (.iload_n 2, 1) := by decide +kernel
theorem dc_Mo_get_64 : decode mb_Mo_get 64 = .ok (.iload_n 3, 1) := by decide +kernel
theorem dc_Mo_get_65 : decode mb_Mo_get 65 = .ok (.invokevirtual 179, 3) := by decide +kernel
theorem dc_Mo_get_68 : decode mb_Mo_get 68 = .ok (.aload_n 0, 1) := by decide +kernel
theorem dc_Mo_get_69 : decode mb_Mo_get 69 = .ok (.getfield 116, 3) := by decide +kernel
theorem dc_Mo_get_72 : decode mb_Mo_get 72 = .ok (.istore 5, 2) := by decide +kernel
theorem dc_Mo_get_74 : decode mb_Mo_get 74 = .ok (.iconst 0, 1) := by decide +kernel
theorem dc_Mo_get_75 : decode mb_Mo_get 75 = .ok (.istore 6, 2) := by decide +kernel
theorem dc_Mo_get_77 : decode mb_Mo_get 77 = .ok (.iload 6, 2) := by decide +kernel
theorem dc_Mo_get_79 : decode mb_Mo_get 79 = .ok (.iload 5, 2) := by decide +kernel
theorem dc_Mo_get_81 : decode mb_Mo_get 81 = .ok (.if_icmp .ge 23, 3) := by decide +kernel
theorem dc_Mo_get_84 : decode mb_Mo_get 84 = .ok (.aload_n 0, 1) := by decide +kernel
theorem dc_Mo_get_85 : decode mb_Mo_get 85 = .ok (.getfield 26, 3) := by decide +kernel
theorem dc_Mo_get_88 : decode mb_Mo_get 88 = .ok (.iload 6, 2) := by decide +kernel
theorem dc_Mo_get_90 : decode mb_Mo_get 90 = .ok (.aload_n 0, 1) := by decide +kernel
theorem dc_Mo_get_91 : decode mb_Mo_get 91 = .ok (.getfield 38, 3) := by decide +kernel
theorem dc_Mo_get_94 : decode mb_Mo_get 94 = .ok (.iload 6, 2) := by decide +kernel
theorem dc_Mo_get_96 : decode mb_Mo_get 96 = .ok (.iaload, 1) := by decide +kernel
theorem dc_Mo_get_97 : decode mb_Mo_get 97 = .ok (.iastore, 1) := by decide +kernel
theorem dc_Mo_get_98 : decode mb_Mo_get 98 = .ok (.iinc 6 1, 3) := by decide +kernel
theorem dc_Mo_get_101 : decode mb_Mo_get 101 = .ok (.goto (-24), 3) := by decide +kernel
theorem dc_Mo_get_104 : decode mb_Mo_get 104 = .ok (.aload_n 0, 1) := by decide +kernel
theorem dc_Mo_get_105 : decode mb_Mo_get 105 = .ok (.iconst 0, 1) := by decide +kernel
theorem dc_Mo_get_106 : decode mb_Mo_get 106 = .ok (.putfield 166, 3) := by decide +kernel
theorem dc_Mo_get_109 : decode mb_Mo_get 109 = .ok (.iload 5, 2) := by decide +kernel
theorem dc_Mo_get_111 : decode mb_Mo_get 111 = .ok (.bipush 40, 2) := by decide +kernel
theorem dc_Mo_get_113 : decode mb_Mo_get 113 = .ok (.if_icmp .le 10, 3) := by decide +kernel
theorem dc_Mo_get_116 : decode mb_Mo_get 116 = .ok (.aload_n 0, 1) := by decide +kernel
theorem dc_Mo_get_117 : decode mb_Mo_get 117 = .ok (.iload 5, 2) := by decide +kernel
theorem dc_Mo_get_119 : decode mb_Mo_get 119 = .ok (.invokevirtual 172, 3) := by decide +kernel
theorem dc_Mo_get_122 : decode mb_Mo_get 122 = .ok (.return_, 1) := by decide +kernel
theorem dc_Mo_get_123 : decode mb_Mo_get 123 = .ok (.aload_n 0, 1) := by decide +kernel
theorem dc_Mo_get_124 : decode mb_Mo_get 124 = .ok (.sipush 196, 3) := by decide +kernel
theorem dc_Mo_get_127 : decode mb_Mo_get 127 = .ok (.iconst 1, 1) := by decide +kernel
theorem dc_Mo_get_128 : decode mb_Mo_get 128 = .ok (.invokevirtual 148, 3) := by decide +kernel
theorem dc_Mo_get_131 : decode mb_Mo_get 131 = .ok (.aload_n 0, 1) := by decide +kernel
theorem dc_Mo_get_132 : decode mb_Mo_get 132 = .ok (.iconst 0, 1) := by decide +kernel
theorem dc_Mo_get_133 : decode mb_Mo_get 133 = .ok (.invokevirtual 142, 3) := by decide +kernel
theorem dc_Mo_get_136 : decode mb_Mo_get 136 = .ok (.iconst 0, 1) := by decide +kernel
theorem dc_Mo_get_137 : decode mb_Mo_get 137 = .ok (.istore 6, 2) := by decide +kernel
theorem dc_Mo_get_139 : decode mb_Mo_get 139 = .ok (.iload 6, 2) := by decide +kernel
theorem dc_Mo_get_141 : decode mb_Mo_get 141 = .ok (.iload 5, 2) := by decide +kernel
theorem dc_Mo_get_143 : decode mb_Mo_get 143 = .ok (.if_icmp .ge 20, 3) := by decide +kernel
theorem dc_Mo_get_146 : decode mb_Mo_get 146 = .ok (.aload_n 0, 1) := by decide +kernel
theorem dc_Mo_get_147 : decode mb_Mo_get 147 = .ok (.aload_n 0, 1) := by decide +kernel
theorem dc_Mo_get_148 : decode mb_Mo_get 148 = .ok (.getfield 26, 3) := by decide +kernel
theorem dc_Mo_get_151 : decode mb_Mo_get 151 = .ok (.iload 6, 2) := by decide +kernel
theorem dc_Mo_get_153 : decode mb_Mo_get 153 = .ok (.iaload, 1) := by decide +kernel
theorem dc_Mo_get_154 : decode mb_Mo_get 154 = .ok (.invokevirtual 142, 3) := by decide +kernel
theorem dc_Mo_get_157 : decode mb_Mo_get 157 = .ok (.iinc 6 1, 3) := by decide +kernel
theorem dc_Mo_get_160 : decode mb_Mo_get 160 = .ok (.goto (-21), 3) := by decide +kernel
theorem dc_Mo_get_163 : decode mb_Mo_get 163 = .ok (.return_, 1) := by decide +kernel
