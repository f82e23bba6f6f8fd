theorem dc_Mo_entries_0 : decode mb_Mo_entries 0 = .ok (.aload_n 0, 1) := by decide +kernel
theorem dc_Mo_entries_1 : decode mb_Mo_entries 1 = .ok (.iconst 0, 1) := by decide +kernel
theorem dc_Mo_entries_2 : decode mb_Mo_entries 2 = .ok (.putfield 47, 3) := by decide +kernel
theorem dc_Mo_entries_5 : decode mb_Mo_entries 5 = .ok (.aload_n 0, 1) := by decide +kernel
theorem dc_Mo_entries_6 : decode mb_Mo_entries 6 = .ok (.getfield 50, 3) := by decide +kernel
theorem dc_Mo_entries_9 : decode mb_Mo_entries 9 = .ok (.ireturn, 1) := by decide +kernel
theorem dc_Mo_entry_0 : decode mb_Mo_entry 0 = .ok (.aload_n 0, 1) := by decide +kernel
theorem dc_Mo_entry_1 : decode mb_Mo_entry 1 = .ok (.iload_n 1, 1) := by decide +kernel
theorem dc_Mo_entry_2 : decode mb_Mo_entry 2 = .ok (.ifCond .lt 11, 3) := by decide +kernel
theorem dc_Mo_entry_5 : decode mb_Mo_entry 5 = .ok (.iload_n 1, 1) := by decide +kernel
theorem dc_Mo_entry_6 : decode mb_Mo_entry 6 = .ok (.aload_n 0, 1) := by decide +kernel
theorem dc_Mo_entry_7 : decode mb_Mo_entry 7 = .ok (.getfield 50, 3) := by decide +kernel
theorem dc_Mo_entry_10 : decode mb_Mo_entry 10 = .ok (.if_icmp .lt 7, 3) := by decide +kernel
theorem dc_Mo_entry_13 : decode mb_Mo_entry 13 = .ok (.iconst 1, 1) := by decide +kernel
theorem dc_Mo_entry_14 : decode mb_Mo_entry 14 = .ok (.goto 20, 3) := by decide +kernel
theorem dc_Mo_entry_17 : decode mb_Mo_entry 17 = .ok (.iload_n 2, 1) := by decide +kernel
theorem dc_Mo_entry_18 : decode mb_Mo_entry 18 = .ok (.ifCond .lt 11, 3) := by decide +kernel
theorem dc_Mo_entry_21 : decode mb_Mo_entry 21 = .ok (.iload_n 2, 1) := by decide +kernel
theorem dc_Mo_entry_22 : decode mb_Mo_entry 22 = .ok (.aload_n 0, 1) := by decide +kernel
theorem dc_Mo_entry_23 : decode mb_Mo_entry 23 = .ok (.getfield 13, 3) := by decide +kernel
theorem dc_Mo_entry_26 : decode mb_Mo_entry 26 = .ok (.if_icmp .le 7, 3) := by decide +kernel
theorem dc_Mo_entry_29 : decode mb_Mo_entry 29 = .ok (.iconst 2, 1) := by decide +kernel
theorem dc_Mo_entry_30 : decode mb_Mo_entry 30 = .ok (.goto 4, 3) := by decide +kernel
theorem dc_Mo_entry_33 : decode mb_Mo_entry 33 = .ok (.iconst 0, 1) := by decide +kernel
theorem dc_Mo_entry_34 : decode mb_Mo_entry 34 = .ok (.putfield 47, 3) := by decide +kernel
theorem dc_Mo_entry_37 : decode mb_Mo_entry 37 = .ok (.aload_n 0, 1) := by decide +kernel
theorem dc_Mo_entry_38 : decode mb_Mo_entry 38 = .ok (.getfield 47, 3) := by decide +kernel
theorem dc_Mo_entry_41 : decode mb_Mo_entry 41 = .ok (.ifCond .le 7, 3) := by decide +kernel
theorem dc_Mo_entry_44 : decode mb_Mo_entry 44 = .ok (.iconst 0, 1) := by decide +kernel
theorem dc_Mo_entry_45 : decode mb_Mo_entry 45 = .ok (.goto 28, 3) := by decide +kernel
theorem dc_Mo_entry_48 : decode mb_Mo_entry 48 = .ok (.iload_n 2, 1) := by decide +kernel
theorem dc_Mo_entry_49 : decode mb_Mo_entry 49 = .ok (.ifCond .ne 12, 3) := by decide +kernel
theorem dc_Mo_entry_52 : decode mb_Mo_entry 52 = .ok (.aload_n 0, 1) := by decide +kernel
theorem dc_Mo_entry_53 : decode mb_Mo_entry 53 = .ok (.getfield 20, 3) := by decide +kernel
theorem dc_Mo_entry_56 : decode mb_Mo_entry 56 = .ok (.iload_n 1, 1) := by decide +kernel
theorem dc_Mo_entry_57 : decode mb_Mo_entry 57 = .ok (.iaload, 1) := by decide +kernel
theorem dc_Mo_entry_58 : decode mb_Mo_entry 58 = .ok (.goto 15, 3) := by decide +kernel
theorem dc_Mo_entry_61 : decode mb_Mo_entry 61 = .ok (.aload_n 0, 1) := by decide +kernel
theorem dc_Mo_entry_62 : decode mb_Mo_entry 62 = .ok (.getfield 23, 3) := by decide +kernel
theorem dc_Mo_entry_65 : decode mb_Mo_entry 65 = .ok (.iconst 3, 1) := by decide +kernel
theorem dc_Mo_entry_66 : decode mb_Mo_entry 66 = .ok (.iload_n 1, 1) := by decide +kernel
theorem dc_Mo_entry_67 : decode mb_Mo_entry 67 = .ok (.imul, 1) := by decide +kernel
theorem dc_Mo_entry_68 : decode mb_Mo_entry 68 = .ok (.iload_n 2, 1) := by decide +kernel
theorem dc_Mo_entry_69 : decode mb_Mo_entry 69 = .ok (.iadd, 1) := by decide +kernel
theorem dc_Mo_entry_70 : decode mb_Mo_entry 70 = .ok (.iconst 1, 1) := by decide +kernel
theorem dc_Mo_entry_71 : decode mb_Mo_entry 71 = .ok (.isub, 1) := by decide +kernel
theorem dc_Mo_entry_72 : decode mb_Mo_entry 72 = .ok (.iaload, 1) := by decide +kernel
theorem dc_Mo_entry_73 : decode mb_Mo_entry 73 = .ok (.ireturn, 1) := by decide +kernel
theorem dc_Mo_link_0 : decode mb_Mo_link 0 = .ok (.aload_n 0, 1) := by decide +kernel
theorem dc_Mo_link_1 : decode mb_Mo_link 1 = .ok (.iconst 0, 1) := by decide +kernel
theorem dc_Mo_link_2 : decode mb_Mo_link 2 = .ok (.putfield 47, 3) := by decide +kernel
theorem dc_Mo_link_5 : decode mb_Mo_link 5 = .ok (.aload_n 0, 1) := by decide +kernel
theorem dc_Mo_link_6 : decode mb_Mo_link 6 = .ok (.getfield 67, 3) := by decide +kernel
theorem dc_Mo_link_9 : decode mb_Mo_link 9 = .ok (.ifCond .eq 31, 3) := by decide +kernel
theorem dc_Mo_link_12 : decode mb_Mo_link 12 = .ok (.iconst 1, 1) := by decide +kernel
theorem dc_Mo_link_13 : decode mb_Mo_link 13 = .ok (.iconst 4, 1) := by decide +kernel
theorem dc_Mo_link_14 : decode mb_Mo_link 14 = .ok (.aload_n 0, 1) := by decide +kernel
theorem dc_Mo_link_15 : decode mb_Mo_link 15 = .ok (.getfield 71, 3) := by decide +kernel
theorem dc_Mo_link_18 : decode mb_Mo_link 18 = .ok (.imul, 1) := by decide +kernel
theorem dc_Mo_link_19 : decode mb_Mo_link 19 = .ok (.iadd, 1) := by decide +kernel
theorem dc_Mo_link_20 : decode mb_Mo_link 20 = .ok (.bipush 16, 2) := by decide +kernel
theorem dc_Mo_link_22 : decode mb_Mo_link 22 = .ok (.aload_n 0, 1) := by decide +kernel
theorem dc_Mo_link_23 : decode mb_Mo_link 23 = .ok (.getfield 74, 3) := by decide +kernel
theorem dc_Mo_link_26 : decode mb_Mo_link 26 = .ok (.imul, 1) := by decide +kernel
theorem dc_Mo_link_27 : decode mb_Mo_link 27 = .ok (.iadd, 1) := by decide +kernel
theorem dc_Mo_link_28 : decode mb_Mo_link 28 = .ok (.sipush 128, 3) := by decide +kernel
theorem dc_Mo_link_31 : decode mb_Mo_link 31 = .ok (.aload_n 0, 1) := by decide +kernel
theorem dc_Mo_link_32 : decode mb_Mo_link 32 = .ok (.getfield 77, 3) := by decide +kernel
theorem dc_Mo_link_35 : decode mb_Mo_link 35 = .ok (.imul, 1) := by decide +kernel
theorem dc_Mo_link_36 : decode mb_Mo_link 36 = .ok (.iadd, 1) := by decide +kernel
theorem dc_Mo_link_37 : decode mb_Mo_link 37 = .ok (.goto 4, 3) := by decide +kernel
theorem dc_Mo_link_40 : decode mb_Mo_link 40 = .ok (.iconst 0, 1) := by decide +kernel
theorem dc_Mo_link_41 : decode mb_Mo_link 41 = .ok (.ireturn, 1) := by decide +kernel
theorem dc_Mo_put_0 : decode mb_Mo_put 0 = .ok (.aload_n 0, 1) := by decide +kernel
theorem dc_Mo_put_1 : decode mb_Mo_put 1 = .ok (.iload_n 1, 1) := by decide +kernel
theorem dc_Mo_put_2 : decode mb_Mo_put 2 = .ok (.ifCond .lt 10, 3) := by decide +kernel
theorem dc_Mo_put_5 : decode mb_Mo_put 5 = .ok (.iload_n 1, 1) := by decide +kernel
theorem dc_Mo_put_6 : decode mb_Mo_put 6 = .ok (.sipush 255, 3) := by decide +kernel
theorem dc_Mo_put_9 : decode mb_Mo_put 9 = .ok (.if_icmp .le 7, 3) := by decide +kernel
theorem dc_Mo_put_12 : decode mb_Mo_put 12 = .ok (.iconst 1, 1) := by decide +kernel
theorem dc_Mo_put_13 : decode mb_Mo_put 13 = .ok (.goto 17, 3) := by decide +kernel
theorem dc_Mo_put_16 : decode mb_Mo_put 16 = .ok (.aload_n 0, 1) := by decide +kernel
theorem dc_Mo_put_17 : decode mb_Mo_put 17 = .ok (.getfield 80, 3) := by decide +kernel
theorem dc_Mo_put_20 : decode mb_Mo_put 20 = .ok (.bipush 80, 2) := by decide +kernel
theorem dc_Mo_put_22 : decode mb_Mo_put 22 = .ok (.if_icmp .ne 7, 3) := by decide +kernel
theorem dc_Mo_put_25 : decode mb_Mo_put 25 = .ok (.iconst 2, 1) := by decide +kernel
theorem dc_Mo_put_26 : decode mb_Mo_put 26 = .ok (.goto 4, 3) := by decide +kernel
theorem dc_Mo_put_29 : decode mb_Mo_put 29 = .ok (.iconst 0, 1) := by decide +kernel
theorem dc_Mo_put_30 : decode mb_Mo_put 30 = .ok (.putfield 47, 3) := by decide +kernel
theorem dc_Mo_put_33 : decode mb_Mo_put 33 = .ok (.aload_n 0, 1) := by decide +kernel
theorem dc_Mo_put_34 : decode mb_Mo_put 34 = .ok (.getfield 47, 3) := by decide +kernel
theorem dc_Mo_put_37 : decode mb_Mo_put 37 = .ok (.ifCond .le 5, 3) := by decide +kernel
theorem dc_Mo_put_40 : decode mb_Mo_put 40 = .ok (.iconst 0, 1) := by decide +kernel
theorem dc_Mo_put_41 : decode mb_Mo_put 41 = .ok (.ireturn, 1) := by decide +kernel
theorem dc_Mo_put_42 : decode mb_Mo_put 42 = .ok (.aload_n 0, 1) := by decide +kernel
theorem dc_Mo_put_43 : decode mb_Mo_put 43 = .ok (.getfield 29, 3) := by decide +kernel
theorem dc_Mo_put_46 : decode mb_Mo_put 46 = .ok (.aload_n 0, 1) := by decide +kernel
theorem dc_Mo_put_47 : decode mb_Mo_put 47 = .ok (.getfield 80, 3) := by decide +kernel
theorem dc_Mo_put_50 : decode mb_Mo_put 50 = .ok (.iload_n 1, 1) := by decide +kernel
theorem dc_Mo_put_51 : decode mb_Mo_put 51 = .ok (.iastore, 1) := by decide +kernel
theorem dc_Mo_put_52 : decode mb_Mo_put 52 = .ok (.aload_n 0, 1) := by decide +kernel
theorem dc_Mo_put_53 : decode mb_Mo_put 53 = .ok (.dup, 1) := by decide +kernel
theorem dc_Mo_put_54 : decode mb_Mo_put 54 = .ok (.getfield 80, 3) := by decide +kernel
theorem dc_Mo_put_57 : decode mb_Mo_put 57 = .ok (.iconst 1, 1) := by decide +kernel
theorem dc_Mo_put_58 : decode mb_Mo_put 58 = .ok (.iadd, 1) := by decide +kernel
theorem dc_Mo_put_59 : decode mb_Mo_put 59 = .ok (.putfield 80, 3) := by decide +kernel
theorem dc_Mo_put_62 : decode mb_Mo_put 62 = .ok (.aload_n 0, 1) := by decide +kernel
theorem dc_Mo_put_63 : decode mb_Mo_put 63 = .ok (.getfield 80, 3) := by decide +kernel
theorem dc_Mo_put_66 : decode mb_Mo_put 66 = .ok (.ireturn, 1) := by decide +kernel
theorem dc_Mo_putInt_0 : decode mb_Mo_putInt 0 = .ok (.aload_n 0, 1) := by decide +kernel
theorem dc_Mo_putInt_1 : decode mb_Mo_putInt 1 = .ok (.aload_n 0, 1) := by decide +kernel
theorem dc_Mo_putInt_2 : decode mb_Mo_putInt 2 = .ok (.getfield 80, 3) := by decide +kernel
theorem dc_Mo_putInt_5 : decode mb_Mo_putInt 5 = .ok (.bipush 76, 2) := by decide +kernel
theorem dc_Mo_putInt_7 : decode mb_Mo_putInt 7 = .ok (.if_icmp .le 7, 3) := by decide +kernel
theorem dc_Mo_putInt_10 : decode mb_Mo_putInt 10 = .ok (.iconst 1, 1) := by decide +kernel
theorem dc_Mo_putInt_11 : decode mb_Mo_putInt 11 = .ok (.goto 4, 3) := by decide +kernel
theorem dc_Mo_putInt_14 : decode mb_Mo_putInt 14 = .ok (.iconst 0, 1) := by decide +kernel
theorem dc_Mo_putInt_15 : decode mb_Mo_putInt 15 = .ok (.putfield 47, 3) := by decide +kernel
theorem dc_Mo_putInt_18 : decode mb_Mo_putInt 18 = .ok (.aload_n 0, 1) := by decide +kernel
theorem dc_Mo_putInt_19 : decode mb_Mo_putInt 19 = .ok (.getfield 47, 3) := by decide +kernel
theorem dc_Mo_putInt_22 : decode mb_Mo_putInt 22 = .ok (.ifCond .le 5, 3) := by decide +kernel
theorem dc_Mo_putInt_25 : decode mb_Mo_putInt 25 = .ok (.iconst 0, 1) := by decide +kernel
theorem dc_Mo_putInt_26 : decode mb_Mo_putInt 26 = .ok (.ireturn, 1) := by decide +kernel
theorem dc_Mo_putInt_27 : decode mb_Mo_putInt 27 = .ok (.iconst 3, 1) := by decide +kernel
theorem dc_Mo_putInt_28 : decode mb_Mo_putInt 28 = .ok (.istore_n 2, 1) := by decide +kernel
theorem dc_Mo_putInt_29 : decode mb_Mo_putInt 29 = .ok (.iload_n 2, 1) := by decide +kernel
theorem dc_Mo_putInt_30 : decode mb_Mo_putInt 30 = .ok (.ifCond .lt 38, 3) := by decide +kernel
theorem dc_Mo_putInt_33 : decode mb_Mo_putInt 33 = .ok (.aload_n 0, 1) := by decide +kernel
theorem dc_Mo_putInt_34 : decode mb_Mo_putInt 34 = .ok (.getfield 29, 3) := by decide +kernel
theorem dc_Mo_putInt_37 : decode mb_Mo_putInt 37 = .ok (.aload_n 0, 1) := by decide +kernel
theorem dc_Mo_putInt_38 : decode mb_Mo_putInt 38 = .ok (.getfield 80, 3) := by decide +kernel
theorem dc_Mo_putInt_41 : decode mb_Mo_putInt 41 = .ok (.iload_n 1, 1) := by decide +kernel
theorem dc_Mo_putInt_42 : decode mb_Mo_putInt 42 = .ok (.bipush 8, 2) := by decide +kernel
theorem dc_Mo_putInt_44 : decode mb_Mo_putInt 44 = .ok (.iload_n 2, 1) := by decide +kernel
theorem dc_Mo_putInt_45 : decode mb_Mo_putInt 45 = .ok (.imul, 1) := by decide +kernel
theorem dc_Mo_putInt_46 : decode mb_Mo_putInt 46 = .ok (.iushr, 1) := by decide +kernel
theorem dc_Mo_putInt_47 : decode mb_Mo_putInt 47 = .ok (.sipush 255, 3) := by decide +kernel
theorem dc_Mo_putInt_50 : decode mb_Mo_putInt 50 = .ok (.iand, 1) := by decide +kernel
theorem dc_Mo_putInt_51 : decode mb_Mo_putInt 51 = .ok (.iastore, 1) := by decide +kernel
theorem dc_Mo_putInt_52 : decode mb_Mo_putInt 52 = .ok (.aload_n 0, 1) := by decide +kernel
theorem dc_Mo_putInt_53 : decode mb_Mo_putInt 53 = .ok (.dup, 1) := by decide +kernel
theorem dc_Mo_putInt_54 : decode mb_Mo_putInt 54 = .ok (.getfield 80, 3) := by decide +kernel
theorem dc_Mo_putInt_57 : decode mb_Mo_putInt 57 = .ok (.iconst 1, 1) := by decide +kernel
theorem dc_Mo_putInt_58 : decode mb_Mo_putInt 58 = .ok (.iadd, 1) := by decide +kernel
theorem dc_Mo_putInt_59 : decode mb_Mo_putInt 59 = .ok (.putfield 80, 3) := by decide +kernel
theorem dc_Mo_putInt_62 : decode mb_Mo_putInt 62 = .ok (.iinc 2 (-1), 3) := by decide +kernel
theorem dc_Mo_putInt_65 : decode mb_Mo_putInt 65 = .ok (.goto (-36), 3) := by decide +kernel
theorem dc_Mo_putInt_68 : decode mb_Mo_putInt 68 = .ok (.aload_n 0, 1) := by decide +kernel
theorem dc_Mo_putInt_69 : decode mb_Mo_putInt 69 = .ok (.getfield 80, 3) := by decide +kernel
theorem dc_Mo_putInt_72 : decode mb_Mo_putInt 72 = .ok (.ireturn, 1) := by decide +kernel
theorem dc_Mo_poke_0 : decode mb_Mo_poke 0 = .ok (.aload_n 0, 1) := by decide +kernel
theorem dc_Mo_poke_1 : decode mb_Mo_poke 1 = .ok (.iload_n 1, 1) := by decide +kernel
theorem dc_Mo_poke_2 : decode mb_Mo_poke 2 = .ok (.ifCond .lt 11, 3) := by decide +kernel
theorem dc_Mo_poke_5 : decode mb_Mo_poke 5 = .ok (.iload_n 1, 1) := by decide +kernel
theorem dc_Mo_poke_6 : decode mb_Mo_poke 6 = .ok (.aload_n 0, 1) := by decide +kernel
theorem dc_Mo_poke_7 : decode mb_Mo_poke 7 = .ok (.getfield 80, 3) := by decide +kernel
theorem dc_Mo_poke_10 : decode mb_Mo_poke 10 = .ok (.if_icmp .lt 7, 3) := by decide +kernel
theorem dc_Mo_poke_13 : decode mb_Mo_poke 13 = .ok (.iconst 1, 1) := by decide +kernel
theorem dc_Mo_poke_14 : decode mb_Mo_poke 14 = .ok (.goto 19, 3) := by decide +kernel
theorem dc_Mo_poke_17 : decode mb_Mo_poke 17 = .ok (.iload_n 2, 1) := by decide +kernel
theorem dc_Mo_poke_18 : decode mb_Mo_poke 18 = .ok (.ifCond .lt 10, 3) := by decide +kernel
theorem dc_Mo_poke_21 : decode mb_Mo_poke 21 = .ok (.iload_n 2, 1) := by decide +kernel
theorem dc_Mo_poke_22 : decode mb_Mo_poke 22 = .ok (.sipush 255, 3) := by decide +kernel
theorem dc_Mo_poke_25 : decode mb_Mo_poke 25 = .ok (.if_icmp .le 7, 3) := by decide +kernel
theorem dc_Mo_poke_28 : decode mb_Mo_poke 28 = .ok (.iconst 2, 1) := by decide +kernel
theorem dc_Mo_poke_29 : decode mb_Mo_poke 29 = .ok (.goto 4, 3) := by decide +kernel
theorem dc_Mo_poke_32 : decode mb_Mo_poke 32 = .ok (.iconst 0, 1) := by decide +kernel
theorem dc_Mo_poke_33 : decode mb_Mo_poke 33 = .ok (.putfield 47, 3) := by decide +kernel
theorem dc_Mo_poke_36 : decode mb_Mo_poke 36 = .ok (.aload_n 0, 1) := by decide +kernel
theorem dc_Mo_poke_37 : decode mb_Mo_poke 37 = .ok (.getfield 47, 3) := by decide +kernel
theorem dc_Mo_poke_40 : decode mb_Mo_poke 40 = .ok (.ifCond .ne 10, 3) := by decide +kernel
theorem dc_Mo_poke_43 : decode mb_Mo_poke 43 = .ok (.aload_n 0, 1) := by decide +kernel
theorem dc_Mo_poke_44 : decode mb_Mo_poke 44 = .ok (.getfield 29, 3) := by decide +kernel
theorem dc_Mo_poke_47 : decode mb_Mo_poke 47 = .ok (.iload_n 1, 1) := by decide +kernel
theorem dc_Mo_poke_48 : decode mb_Mo_poke 48 = .ok (.iload_n 2, 1) := by decide +kernel
theorem dc_Mo_poke_49 : decode mb_Mo_poke 49 = .ok (.iastore, 1) := by decide +kernel
theorem dc_Mo_poke_50 : decode mb_Mo_poke 50 = .ok (.return_, 1) := by decide +kernel
theorem dc_Mo_clear_0 : decode mb_Mo_clear 0 = .ok (.aload_n 0, 1) := by decide +kernel
theorem dc_Mo_clear_1 : decode mb_Mo_clear 1 = .ok (.iconst 0, 1) := by decide +kernel
theorem dc_Mo_clear_2 : decode mb_Mo_clear 2 = .ok (.putfield 47, 3) := by decide +kernel
theorem dc_Mo_clear_5 : decode mb_Mo_clear 5 = .ok (.aload_n 0, 1) := by decide +kernel
theorem dc_Mo_clear_6 : decode mb_Mo_clear 6 = .ok (.iconst 0, 1) := by decide +kernel
theorem dc_Mo_clear_7 : decode mb_Mo_clear 7 = .ok (.putfield 80, 3) := by decide +kernel
theorem dc_Mo_clear_10 : decode mb_Mo_clear 10 = .ok (.return_, 1) := by decide +kernel
theorem dc_Mo_check_0 : decode mb_Mo_check 0 = .ok (.ldc 83, 2) := by decide +kernel
theorem dc_Mo_check_2 : decode mb_Mo_check 2 = .ok (.istore_n 2, 1) := by decide +kernel
theorem dc_Mo_check_3 : decode mb_Mo_check 3 = .ok (.iconst 1, 1) := by decide +kernel
theorem dc_Mo_check_4 : decode mb_Mo_check 4 = .ok (.istore_n 3, 1) := by decide +kernel
theorem dc_Mo_check_5 : decode mb_Mo_check 5 = .ok (.iload_n 3, 1) := by decide +kernel
theorem dc_Mo_check_6 : decode mb_Mo_check 6 = .ok (.iload_n 1, 1) := by decide +kernel
theorem dc_Mo_check_7 : decode mb_Mo_check 7 = .ok (.if_icmp .ge 51, 3) := by decide +kernel
theorem dc_Mo_check_10 : decode mb_Mo_check 10 = .ok (.iload_n 2, 1) := by decide +kernel
theorem dc_Mo_check_11 : decode mb_Mo_check 11 = .ok (.aload_n 0, 1) := by decide +kernel
theorem dc_Mo_check_12 : decode mb_Mo_check 12 = .ok (.iload_n 3, 1) := by decide +kernel
theorem dc_Mo_check_13 : decode mb_Mo_check 13 = .ok (.iaload, 1) := by decide +kernel
theorem dc_Mo_check_14 : decode mb_Mo_check 14 = .ok (.ixor, 1) := by decide +kernel
theorem dc_Mo_check_15 : decode mb_Mo_check 15 = .ok (.istore_n 2, 1) := by decide +kernel
theorem dc_Mo_check_16 : decode mb_Mo_check 16 = .ok (.iconst 0, 1) := by decide +kernel
theorem dc_Mo_check_17 : decode mb_Mo_check 17 = .ok (.istore 4, 2) := by decide +kernel
theorem dc_Mo_check_19 : decode mb_Mo_check 19 = .ok (.iload 4, 2) := by decide +kernel
theorem dc_Mo_check_21 : decode mb_Mo_check 21 = .ok (.bipush 8, 2) := by decide +kernel
theorem dc_Mo_check_23 : decode mb_Mo_check 23 = .ok (.if_icmp .ge 29, 3) := by decide +kernel
theorem dc_Mo_check_26 : decode mb_Mo_check 26 = .ok (.iload_n 2, 1) := by decide +kernel
theorem dc_Mo_check_27 : decode mb_Mo_check 27 = .ok (.iconst 2, 1) := by decide +kernel
theorem dc_Mo_check_28 : decode mb_Mo_check 28 = .ok (.irem, 1) := by decide +kernel
theorem dc_Mo_check_29 : decode mb_Mo_check 29 = .ok (.iconst 1, 1) := by decide +kernel
theorem dc_Mo_check_30 : decode mb_Mo_check 30 = .ok (.if_icmp .ne 12, 3) := by decide +kernel
theorem dc_Mo_check_33 : decode mb_Mo_check 33 = .ok (.iload_n 2, 1) := by decide +kernel
theorem dc_Mo_check_34 : decode mb_Mo_check 34 = .ok (.iconst 2, 1) := by decide +kernel
theorem dc_Mo_check_35 : decode mb_Mo_check 35 = .ok (.idiv, 1) := by decide +kernel
theorem dc_Mo_check_36 : decode mb_Mo_check 36 = .ok (.ldc 84, 2) := by decide +kernel
theorem dc_Mo_check_38 : decode mb_Mo_check 38 = .ok (.ixor, 1) := by decide +kernel
theorem dc_Mo_check_39 : decode mb_Mo_check 39 = .ok (.goto 6, 3) := by decide +kernel
theorem dc_Mo_check_42 : decode mb_Mo_check 42 = .ok (.iload_n 2, 1) := by decide +kernel
theorem dc_Mo_check_43 : decode mb_Mo_check 43 = .ok (.iconst 2, 1) := by decide +kernel
theorem dc_Mo_check_44 : decode mb_Mo_check 44 = .ok (.idiv, 1) := by decide +kernel
theorem dc_Mo_check_45 : decode mb_Mo_check 45 = .ok (.istore_n 2, 1) := by decide +kernel
theorem dc_Mo_check_46 : decode mb_Mo_check 46 = .ok (.iinc 4 1, 3) := by decide +kernel
theorem dc_Mo_check_49 : decode mb_Mo_check 49 = .ok (.goto (-30), 3) := by decide +kernel
theorem dc_Mo_check_52 : decode mb_Mo_check 52 = .ok (.iinc 3 1, 3) := by decide +kernel
theorem dc_Mo_check_55 : decode mb_Mo_check 55 = .ok (.goto (-50), 3) := by decide +kernel
theorem dc_Mo_check_58 : decode mb_Mo_check 58 = .ok (.ldc 83, 2) := by decide +kernel
theorem dc_Mo_check_60 : decode mb_Mo_check 60 = .ok (.iload_n 2, 1) := by decide +kernel
theorem dc_Mo_check_61 : decode mb_Mo_check 61 = .ok (.isub, 1) := by decide +kernel
theorem dc_Mo_check_62 : decode mb_Mo_check 62 = .ok (.ireturn, 1) := by decide +kernel
theorem dc_Mo_wrap_0 : decode mb_Mo_wrap 0 = .ok (.iload_n 2, 1) := by decide +kernel
theorem dc_Mo_wrap_1 : decode mb_Mo_wrap 1 = .ok (.ifCond .le 10, 3) := by decide +kernel
theorem dc_Mo_wrap_4 : decode mb_Mo_wrap 4 = .ok (.bipush 7, 2) := by decide +kernel
theorem dc_Mo_wrap_6 : decode mb_Mo_wrap 6 = .ok (.iload_n 2, 1) := by decide +kernel
theorem dc_Mo_wrap_7 : decode mb_Mo_wrap 7 = .ok (.iadd, 1) := by decide +kernel
theorem dc_Mo_wrap_8 : decode mb_Mo_wrap 8 = .ok (.goto 4, 3) := by decide +kernel
theorem dc_Mo_wrap_11 : decode mb_Mo_wrap 11 = .ok (.iconst 5, 1) := by decide +kernel
theorem dc_Mo_wrap_12 : decode mb_Mo_wrap 12 = .ok (.istore_n 3, 1) := by decide +kernel
theorem dc_Mo_wrap_13 : decode mb_Mo_wrap 13 = .ok (.aload_n 0, 1) := by decide +kernel
theorem dc_Mo_wrap_14 : decode mb_Mo_wrap 14 = .ok (.iconst 0, 1) := by decide +kernel
theorem dc_Mo_wrap_15 : decode mb_Mo_wrap 15 = .ok (.bipush 126, 2) := by decide +kernel
theorem dc_Mo_wrap_17 : decode mb_Mo_wrap 17 = .ok (.iastore, 1) := by decide +kernel
theorem dc_Mo_wrap_18 : decode mb_Mo_wrap 18 = .ok (.aload_n 0, 1) := by decide +kernel
theorem dc_Mo_wrap_19 : decode mb_Mo_wrap 19 = .ok (.iconst 1, 1) := by decide +kernel
theorem dc_Mo_wrap_20 : decode mb_Mo_wrap 20 = .ok (.iload_n 3, 1) := by decide +kernel
theorem dc_Mo_wrap_21 : decode mb_Mo_wrap 21 = .ok (.iastore, 1) := by decide +kernel
theorem dc_Mo_wrap_22 : decode mb_Mo_wrap 22 = .ok (.aload_n 0, 1) := by decide +kernel
theorem dc_Mo_wrap_23 : decode mb_Mo_wrap 23 = .ok (.iconst 2, 1) := by decide +kernel
theorem dc_Mo_wrap_24 : decode mb_Mo_wrap 24 = .ok (.bipush 17, 2) := by decide +kernel
theorem dc_Mo_wrap_26 : decode mb_Mo_wrap 26 = .ok (.iastore, 1) := by decide +kernel
theorem dc_Mo_wrap_27 : decode mb_Mo_wrap 27 = .ok (.aload_n 0, 1) := by decide +kernel
theorem dc_Mo_wrap_28 : decode mb_Mo_wrap 28 = .ok (.iconst 3, 1) := by decide +kernel
theorem dc_Mo_wrap_29 : decode mb_Mo_wrap 29 = .ok (.iload_n 1, 1) := by decide +kernel
theorem dc_Mo_wrap_30 : decode mb_Mo_wrap 30 = .ok (.iastore, 1) := by decide +kernel
theorem dc_Mo_wrap_31 : decode mb_Mo_wrap 31 = .ok (.aload_n 0, 1) := by decide +kernel
theorem dc_Mo_wrap_32 : decode mb_Mo_wrap 32 = .ok (.iconst 4, 1) := by decide +kernel
theorem dc_Mo_wrap_33 : decode mb_Mo_wrap 33 = .ok (.invokestatic 85, 3) := by decide +kernel
theorem dc_Mo_wrap_36 : decode mb_Mo_wrap 36 = .ok (.istore 4, 2) := by decide +kernel
theorem dc_Mo_wrap_38 : decode mb_Mo_wrap 38 = .ok (.aload_n 0, 1) := by decide +kernel
theorem dc_Mo_wrap_39 : decode mb_Mo_wrap 39 = .ok (.iconst 4, 1) := by decide +kernel
theorem dc_Mo_wrap_40 : decode mb_Mo_wrap 40 = .ok (.iload 4, 2) := by decide +kernel
theorem dc_Mo_wrap_42 : decode mb_Mo_wrap 42 = .ok (.sipush 256, 3) := by decide +kernel
theorem dc_Mo_wrap_45 : decode mb_Mo_wrap 45 = .ok (.irem, 1) := by decide +kernel
theorem dc_Mo_wrap_46 : decode mb_Mo_wrap 46 = .ok (.iastore, 1) := by decide +kernel
theorem dc_Mo_wrap_47 : decode mb_Mo_wrap 47 = .ok (.aload_n 0, 1) := by decide +kernel
theorem dc_Mo_wrap_48 : decode mb_Mo_wrap 48 = .ok (.iconst 5, 1) := by decide +kernel
theorem dc_Mo_wrap_49 : decode mb_Mo_wrap 49 = .ok (.iload 4, 2) := by decide +kernel
theorem dc_Mo_wrap_51 : decode mb_Mo_wrap 51 = .ok (.sipush 256, 3) := by decide +kernel
theorem dc_Mo_wrap_54 : decode mb_Mo_wrap 54 = .ok (.idiv, 1) := by decide +kernel
theorem dc_Mo_wrap_55 : decode mb_Mo_wrap 55 = .ok (.iastore, 1) := by decide +kernel
theorem dc_Mo_wrap_56 : decode mb_Mo_wrap 56 = .ok (.iload_n 2, 1) := by decide +kernel
theorem dc_Mo_wrap_57 : decode mb_Mo_wrap 57 = .ok (.ifCond .le 37, 3) := by decide +kernel
theorem dc_Mo_wrap_60 : decode mb_Mo_wrap 60 = .ok (.aload_n 0, 1) := by decide +kernel
theorem dc_Mo_wrap_61 : decode mb_Mo_wrap 61 = .ok (.bipush 6, 2) := by decide +kernel
theorem dc_Mo_wrap_63 : decode mb_Mo_wrap 63 = .ok (.iload_n 2, 1) := by decide +kernel
theorem dc_Mo_wrap_64 : decode mb_Mo_wrap 64 = .ok (.iadd, 1) := by decide +kernel
theorem dc_Mo_wrap_65 : decode mb_Mo_wrap 65 = .ok (.invokestatic 85, 3) := by decide +kernel
theorem dc_Mo_wrap_68 : decode mb_Mo_wrap 68 = .ok (.istore 5, 2) := by decide +kernel
theorem dc_Mo_wrap_70 : decode mb_Mo_wrap 70 = .ok (.aload_n 0, 1) := by decide +kernel
theorem dc_Mo_wrap_71 : decode mb_Mo_wrap 71 = .ok (.bipush 6, 2) := by decide +kernel
theorem dc_Mo_wrap_73 : decode mb_Mo_wrap 73 = .ok (.iload_n 2, 1) := by decide +kernel
theorem dc_Mo_wrap_74 : decode mb_Mo_wrap 74 = .ok (.iadd, 1) := by decide +kernel
theorem dc_Mo_wrap_75 : decode mb_Mo_wrap 75 = .ok (.iload 5, 2) := by decide +kernel
theorem dc_Mo_wrap_77 : decode mb_Mo_wrap 77 = .ok (.sipush 256, 3) := by decide +kernel
theorem dc_Mo_wrap_80 : decode mb_Mo_wrap 80 = .ok (.irem, 1) := by decide +kernel
theorem dc_Mo_wrap_81 : decode mb_Mo_wrap 81 = .ok (.iastore, 1) := by decide +kernel
theorem dc_Mo_wrap_82 : decode mb_Mo_wrap 82 = .ok (.aload_n 0, 1) := by decide +kernel
theorem dc_Mo_wrap_83 : decode mb_Mo_wrap 83 = .ok (.bipush 7, 2) := by decide +kernel
theorem dc_Mo_wrap_85 : decode mb_Mo_wrap 85 = .ok (.iload_n 2, 1) := by decide +kernel
theorem dc_Mo_wrap_86 : decode mb_Mo_wrap 86 = .ok (.iadd, 1) := by decide +kernel
theorem dc_Mo_wrap_87 : decode mb_Mo_wrap 87 = .ok (.iload 5, 2) := by decide +kernel
theorem dc_Mo_wrap_89 : decode mb_Mo_wrap 89 = .ok (.sipush 256, 3) := by decide +kernel
theorem dc_Mo_wrap_92 : decode mb_Mo_wrap 92 = .ok (.idiv, 1) := by decide +kernel
theorem dc_Mo_wrap_93 : decode mb_Mo_wrap 93 = .ok (.iastore, 1) := by decide +kernel
theorem dc_Mo_wrap_94 : decode mb_Mo_wrap 94 = .ok (.aload_n 0, 1) := by decide +kernel
theorem dc_Mo_wrap_95 : decode mb_Mo_wrap 95 = .ok (.iload_n 3, 1) := by decide +kernel
theorem dc_Mo_wrap_96 : decode mb_Mo_wrap 96 = .ok (.iconst 1, 1) := by decide +kernel
theorem dc_Mo_wrap_97 : decode mb_Mo_wrap 97 = .ok (.iadd, 1) := by decide +kernel
theorem dc_Mo_wrap_98 : decode mb_Mo_wrap 98 = .ok (.bipush 126, 2) := by decide +kernel
theorem dc_Mo_wrap_100 : decode mb_Mo_wrap 100 = .ok (.iastore, 1) := by decide +kernel
theorem dc_Mo_wrap_101 : decode mb_Mo_wrap 101 = .ok (.iload_n 3, 1) := by decide +kernel
theorem dc_Mo_wrap_102 : decode mb_Mo_wrap 102 = .ok (.iconst 2, 1) := by decide +kernel
theorem dc_Mo_wrap_103 : decode mb_Mo_wrap 103 = .ok (.iadd, 1) := by decide +kernel
theorem dc_Mo_wrap_104 : decode mb_Mo_wrap 104 = .ok (.ireturn, 1) := by decide +kernel
theorem dc_Mo_wrapLine_0 : decode mb_Mo_wrapLine 0 = .ok (.aload_n 0, 1) := by decide +kernel
theorem dc_Mo_wrapLine_1 : decode mb_Mo_wrapLine 1 = .ok (.getfield 80, 3) := by decide +kernel
theorem dc_Mo_wrapLine_4 : decode mb_Mo_wrapLine 4 = .ok (.iconst 1, 1) := by decide +kernel
theorem dc_Mo_wrapLine_5 : decode mb_Mo_wrapLine 5 = .ok (.isub, 1) := by decide +kernel
theorem dc_Mo_wrapLine_6 : decode mb_Mo_wrapLine 6 = .ok (.istore_n 2, 1) := by decide +kernel
theorem dc_Mo_wrapLine_7 : decode mb_Mo_wrapLine 7 = .ok (.iload_n 2, 1) := by decide +kernel
theorem dc_Mo_wrapLine_8 : decode mb_Mo_wrapLine 8 = .ok (.ifCond .lt 24, 3) := by decide +kernel
theorem dc_Mo_wrapLine_11 : decode mb_Mo_wrapLine 11 = .ok (.aload_n 0, 1) := by decide +kernel
theorem dc_Mo_wrapLine_12 : decode mb_Mo_wrapLine 12 = .ok (.getfield 29, 3) := by decide +kernel
theorem dc_Mo_wrapLine_15 : decode mb_Mo_wrapLine 15 = .ok (.bipush 6, 2) := by decide +kernel
theorem dc_Mo_wrapLine_17 : decode mb_Mo_wrapLine 17 = .ok (.iload_n 2, 1) := by decide +kernel
theorem dc_Mo_wrapLine_18 : decode mb_Mo_wrapLine 18 = .ok (.iadd, 1) := by decide +kernel
theorem dc_Mo_wrapLine_19 : decode mb_Mo_wrapLine 19 = .ok (.aload_n 0, 1) := by decide +kernel
theorem dc_Mo_wrapLine_20 : decode mb_Mo_wrapLine 20 = .ok (.getfield 29, 3) := by decide +kernel
theorem dc_Mo_wrapLine_23 : decode mb_Mo_wrapLine 23 = .ok (.iload_n 2, 1) := by decide +kernel
theorem dc_Mo_wrapLine_24 : decode mb_Mo_wrapLine 24 = .ok (.iaload, 1) := by decide +kernel
theorem dc_Mo_wrapLine_25 : decode mb_Mo_wrapLine 25 = .ok (.iastore, 1) := by decide +kernel
theorem dc_Mo_wrapLine_26 : decode mb_Mo_wrapLine 26 = .ok (.iinc 2 (-1), 3) := by decide +kernel
theorem dc_Mo_wrapLine_29 : decode mb_Mo_wrapLine 29 = .ok (.goto (-22), 3) := by decide +kernel
theorem dc_Mo_wrapLine_32 : decode mb_Mo_wrapLine 32 = .ok (.aload_n 0, 1) := by decide +kernel
theorem dc_Mo_wrapLine_33 : decode mb_Mo_wrapLine 33 = .ok (.aload_n 0, 1) := by decide +kernel
theorem dc_Mo_wrapLine_34 : decode mb_Mo_wrapLine 34 = .ok (.getfield 29, 3) := by decide +kernel
theorem dc_Mo_wrapLine_37 : decode mb_Mo_wrapLine 37 = .ok (.iload_n 1, 1) := by decide +kernel
theorem dc_Mo_wrapLine_38 : decode mb_Mo_wrapLine 38 = .ok (.aload_n 0, 1) := by decide +kernel
theorem dc_Mo_wrapLine_39 : decode mb_Mo_wrapLine 39 = .ok (.getfield 80, 3) := by decide +kernel
theorem dc_Mo_wrapLine_42 : decode mb_Mo_wrapLine 42 = .ok (.invokestatic 89, 3) := by decide +kernel
theorem dc_Mo_wrapLine_45 : decode mb_Mo_wrapLine 45 = .ok (.putfield 80, 3) := by decide +kernel
theorem dc_Mo_wrapLine_48 : decode mb_Mo_wrapLine 48 = .ok (.aload_n 0, 1) := by decide +kernel
theorem dc_Mo_wrapLine_49 : decode mb_Mo_wrapLine 49 = .ok (.getfield 80, 3) := by decide +kernel
theorem dc_Mo_wrapLine_52 : decode mb_Mo_wrapLine 52 = .ok (.ireturn, 1) := by decide +kernel
theorem dc_Mo_frame_0 : decode mb_Mo_frame 0 = .ok (.aload_n 0, 1) := by decide +kernel
theorem dc_Mo_frame_1 : decode mb_Mo_frame 1 = .ok (.iload_n 1, 1) := by decide +kernel
theorem dc_Mo_frame_2 : decode mb_Mo_frame 2 = .ok (.ifCond .lt 10, 3) := by decide +kernel
theorem dc_Mo_frame_5 : decode mb_Mo_frame 5 = .ok (.iload_n 1, 1) := by decide +kernel
theorem dc_Mo_frame_6 : decode mb_Mo_frame 6 = .ok (.sipush 255, 3) := by decide +kernel
theorem dc_Mo_frame_9 : decode mb_Mo_frame 9 = .ok (.if_icmp .le 7, 3) := by decide +kernel
theorem dc_Mo_frame_12 : decode mb_Mo_frame 12 = .ok (.iconst 1, 1) := by decide +kernel
theorem dc_Mo_frame_13 : decode mb_Mo_frame 13 = .ok (.goto 17, 3) := by decide +kernel
theorem dc_Mo_frame_16 : decode mb_Mo_frame 16 = .ok (.aload_n 0, 1) := by decide +kernel
theorem dc_Mo_frame_17 : decode mb_Mo_frame 17 = .ok (.getfield 80, 3) := by decide +kernel
theorem dc_Mo_frame_20 : decode mb_Mo_frame 20 = .ok (.bipush 60, 2) := by decide +kernel
theorem dc_Mo_frame_22 : decode mb_Mo_frame 22 = .ok (.if_icmp .le 7, 3) := by decide +kernel
theorem dc_Mo_frame_25 : decode mb_Mo_frame 25 = .ok (.iconst 2, 1) := by decide +kernel
theorem dc_Mo_frame_26 : decode mb_Mo_frame 26 = .ok (.goto 4, 3) := by decide +kernel
theorem dc_Mo_frame_29 : decode mb_Mo_frame 29 = .ok (.iconst 0, 1) := by decide +kernel
theorem dc_Mo_frame_30 : decode mb_Mo_frame 30 = .ok (.putfield 47, 3) := by decide +kernel
theorem dc_Mo_frame_33 : decode mb_Mo_frame 33 = .ok (.aload_n 0, 1) := by decide +kernel
theorem dc_Mo_frame_34 : decode mb_Mo_frame 34 = .ok (.getfield 47, 3) := by decide +kernel
theorem dc_Mo_frame_37 : decode mb_Mo_frame 37 = .ok (.ifCond .le 7, 3) := by decide +kernel
theorem dc_Mo_frame_40 : decode mb_Mo_frame 40 = .ok (.iconst 0, 1) := by decide +kernel
theorem dc_Mo_frame_41 : decode mb_Mo_frame 41 = .ok (.goto 8, 3) := by decide +kernel
theorem dc_Mo_frame_44 : decode mb_Mo_frame 44 = .ok (.aload_n 0, 1) := by decide +kernel
theorem dc_Mo_frame_45 : decode mb_Mo_frame 45 = .ok (.iload_n 1, 1) := by decide +kernel
theorem dc_Mo_frame_46 : decode mb_Mo_frame 46 = .ok (.invokevirtual 93, 3) := by decide +kernel
theorem dc_Mo_frame_49 : decode mb_Mo_frame 49 = .ok (.ireturn, 1) := by decide +kernel
theorem dc_Mo_ask_0 : decode mb_Mo_ask 0 = .ok (.aload_n 0, 1) := by decide +kernel
theorem dc_Mo_ask_1 : decode mb_Mo_ask 1 = .ok (.aload_n 0, 1) := by decide +kernel
theorem dc_Mo_ask_2 : decode mb_Mo_ask 2 = .ok (.getfield 80, 3) := by decide +kernel
theorem dc_Mo_ask_5 : decode mb_Mo_ask 5 = .ok (.ifCond .eq 12, 3) := by decide +kernel
theorem dc_Mo_ask_8 : decode mb_Mo_ask 8 = .ok (.aload_n 0, 1) := by decide +kernel
theorem dc_Mo_ask_9 : decode mb_Mo_ask 9 = .ok (.getfield 80, 3) := by decide +kernel
theorem dc_Mo_ask_12 : decode mb_Mo_ask 12 = .ok (.bipush 60, 2) := by decide +kernel
theorem dc_Mo_ask_14 : decode mb_Mo_ask 14 = .ok (.if_icmp .le 7, 3) := by decide +kernel
theorem dc_Mo_ask_17 : decode mb_Mo_ask 17 = .ok (.iconst 1, 1) := by decide +kernel
theorem dc_Mo_ask_18 : decode mb_Mo_ask 18 = .ok (.goto 4, 3) := by decide +kernel
theorem dc_Mo_ask_21 : decode mb_Mo_ask 21 = .ok (.iconst 0, 1) := by decide +kernel
theorem dc_Mo_ask_22 : decode mb_Mo_ask 22 = .ok (.putfield 47, 3) := by decide +kernel
theorem dc_Mo_ask_25 : decode mb_Mo_ask 25 = .ok (.aload_n 0, 1) := by decide +kernel
theorem dc_Mo_ask_26 : decode mb_Mo_ask 26 = .ok (.getfield 47, 3) := by decide +kernel
theorem dc_Mo_ask_29 : decode mb_Mo_ask 29 = .ok (.ifCond .le 7, 3) := by decide +kernel
theorem dc_Mo_ask_32 : decode mb_Mo_ask 32 = .ok (.iconst 0, 1) := by decide +kernel
theorem dc_Mo_ask_33 : decode mb_Mo_ask 33 = .ok (.goto 24, 3) := by decide +kernel
theorem dc_Mo_ask_36 : decode mb_Mo_ask 36 = .ok (.aload_n 0, 1) := by decide +kernel
theorem dc_Mo_ask_37 : decode mb_Mo_ask 37 = .ok (.bipush 16, 2) := by decide +kernel
theorem dc_Mo_ask_39 : decode mb_Mo_ask 39 = .ok (.iconst 2, 1) := by decide +kernel
theorem dc_Mo_ask_40 : decode mb_Mo_ask 40 = .ok (.aload_n 0, 1) := by decide +kernel
theorem dc_Mo_ask_41 : decode mb_Mo_ask 41 = .ok (.getfield 97, 3) := by decide +kernel
theorem dc_Mo_ask_44 : decode mb_Mo_ask 44 = .ok (.imul, 1) := by decide +kernel
theorem dc_Mo_ask_45 : decode mb_Mo_ask 45 = .ok (.iadd, 1) := by decide +kernel
theorem dc_Mo_ask_46 : decode mb_Mo_ask 46 = .ok (.bipush 32, 2) := by decide +kernel
theorem dc_Mo_ask_48 : decode mb_Mo_ask 48 = .ok (.aload_n 0, 1) := by decide +kernel
theorem dc_Mo_ask_49 : decode mb_Mo_ask 49 = .ok (.getfield 100, 3) := by decide +kernel
theorem dc_Mo_ask_52 : decode mb_Mo_ask 52 = .ok (.imul, 1) := by decide +kernel
theorem dc_Mo_ask_53 : decode mb_Mo_ask 53 = .ok (.iadd, 1) := by decide +kernel
theorem dc_Mo_ask_54 : decode mb_Mo_ask 54 = .ok (.invokevirtual 93, 3) := by decide +kernel
theorem dc_Mo_ask_57 : decode mb_Mo_ask 57 = .ok (.ireturn, 1) := by decide +kernel
theorem dc_Mo_payloadOf_0 : decode mb_Mo_payloadOf 0 = .ok (.aload_n 0, 1) := by decide +kernel
theorem dc_Mo_payloadOf_1 : decode mb_Mo_payloadOf 1 = .ok (.getfield 80, 3) := by decide +kernel
theorem dc_Mo_payloadOf_4 : decode mb_Mo_payloadOf 4 = .ok (.bipush 7, 2) := by decide +kernel
theorem dc_Mo_payloadOf_6 : decode mb_Mo_payloadOf 6 = .ok (.if_icmp .lt 56, 3) := by decide +kernel
theorem dc_Mo_payloadOf_9 : decode mb_Mo_payloadOf 9 = .ok (.aload_n 0, 1) := by decide +kernel
theorem dc_Mo_payloadOf_10 : decode mb_Mo_payloadOf 10 = .ok (.getfield 29, 3) := by decide +kernel
theorem dc_Mo_payloadOf_13 : decode mb_Mo_payloadOf 13 = .ok (.iconst 0, 1) := by decide +kernel
theorem dc_Mo_payloadOf_14 : decode mb_Mo_payloadOf 14 = .ok (.iaload, 1) := by decide +kernel
theorem dc_Mo_payloadOf_15 : decode mb_Mo_payloadOf 15 = .ok (.bipush 126, 2) := by decide +kernel
theorem dc_Mo_payloadOf_17 : decode mb_Mo_payloadOf 17 = .ok (.if_icmp .ne 45, 3) := by decide +kernel
theorem dc_Mo_payloadOf_20 : decode mb_Mo_payloadOf 20 = .ok (.aload_n 0, 1) := by decide +kernel
theorem dc_Mo_payloadOf_21 : decode mb_Mo_payloadOf 21 = .ok (.getfield 29, 3) := by decide +kernel
theorem dc_Mo_payloadOf_24 : decode mb_Mo_payloadOf 24 = .ok (.aload_n 0, 1) := by decide +kernel
theorem dc_Mo_payloadOf_25 : decode mb_Mo_payloadOf 25 = .ok (.getfield 80, 3) := by decide +kernel
theorem dc_Mo_payloadOf_28 : decode mb_Mo_payloadOf 28 = .ok (.iconst 1, 1) := by decide +kernel
theorem dc_Mo_payloadOf_29 : decode mb_Mo_payloadOf 29 = .ok (.isub, 1) := by decide +kernel
theorem dc_Mo_payloadOf_30 : decode mb_Mo_payloadOf 30 = .ok (.iaload, 1) := by decide +kernel
theorem dc_Mo_payloadOf_31 : decode mb_Mo_payloadOf 31 = .ok (.bipush 126, 2) := by decide +kernel
theorem dc_Mo_payloadOf_33 : decode mb_Mo_payloadOf 33 = .ok (.if_icmp .ne 29, 3) := by decide +kernel
theorem dc_Mo_payloadOf_36 : decode mb_Mo_payloadOf 36 = .ok (.aload_n 0, 1) := by decide +kernel
theorem dc_Mo_payloadOf_37 : decode mb_Mo_payloadOf 37 = .ok (.getfield 29, 3) := by decide +kernel
theorem dc_Mo_payloadOf_40 : decode mb_Mo_payloadOf 40 = .ok (.iconst 1, 1) := by decide +kernel
theorem dc_Mo_payloadOf_41 : decode mb_Mo_payloadOf 41 = .ok (.iaload, 1) := by decide +kernel
theorem dc_Mo_payloadOf_42 : decode mb_Mo_payloadOf 42 = .ok (.aload_n 0, 1) := by decide +kernel
theorem dc_Mo_payloadOf_43 : decode mb_Mo_payloadOf 43 = .ok (.getfield 80, 3) := by decide +kernel
theorem dc_Mo_payloadOf_46 : decode mb_Mo_payloadOf 46 = .ok (.iconst 2, 1) := by decide +kernel
theorem dc_Mo_payloadOf_47 : decode mb_Mo_payloadOf 47 = .ok (.isub, 1) := by decide +kernel
theorem dc_Mo_payloadOf_48 : decode mb_Mo_payloadOf 48 = .ok (.if_icmp .ne 14, 3) := by decide +kernel
theorem dc_Mo_payloadOf_51 : decode mb_Mo_payloadOf 51 = .ok (.aload_n 0, 1) := by decide +kernel
theorem dc_Mo_payloadOf_52 : decode mb_Mo_payloadOf 52 = .ok (.getfield 29, 3) := by decide +kernel
theorem dc_Mo_payloadOf_55 : decode mb_Mo_payloadOf 55 = .ok (.iconst 2, 1) := by decide +kernel
theorem dc_Mo_payloadOf_56 : decode mb_Mo_payloadOf 56 = .ok (.iaload, 1) := by decide +kernel
theorem dc_Mo_payloadOf_57 : decode mb_Mo_payloadOf 57 = .ok (.bipush 17, 2) := by decide +kernel
theorem dc_Mo_payloadOf_59 : decode mb_Mo_payloadOf 59 = .ok (.if_icmp .eq 5, 3) := by decide +kernel
theorem dc_Mo_payloadOf_62 : decode mb_Mo_payloadOf 62 = .ok (.iconst (-1), 1) := by decide +kernel
theorem dc_Mo_payloadOf_63 : decode mb_Mo_payloadOf 63 = .ok (.ireturn, 1) := by decide +kernel
theorem dc_Mo_payloadOf_64 : decode mb_Mo_payloadOf 64 = .ok (.aload_n 0, 1) := by decide +kernel
theorem dc_Mo_payloadOf_65 : decode mb_Mo_payloadOf 65 = .ok (.getfield 29, 3) := by decide +kernel
theorem dc_Mo_payloadOf_68 : decode mb_Mo_payloadOf 68 = .ok (.iconst 4, 1) := by decide +kernel
theorem dc_Mo_payloadOf_69 : decode mb_Mo_payloadOf 69 = .ok (.invokestatic 85, 3) := by decide +kernel
theorem dc_Mo_payloadOf_72 : decode mb_Mo_payloadOf 72 = .ok (.istore_n 1, 1) := by decide +kernel
theorem dc_Mo_payloadOf_73 : decode mb_Mo_payloadOf 73 = .ok (.aload_n 0, 1) := by decide +kernel
theorem dc_Mo_payloadOf_74 : decode mb_Mo_payloadOf 74 = .ok (.getfield 29, 3) := by decide +kernel
theorem dc_Mo_payloadOf_77 : decode mb_Mo_payloadOf 77 = .ok (.iconst 4, 1) := by decide +kernel
theorem dc_Mo_payloadOf_78 : decode mb_Mo_payloadOf 78 = .ok (.iaload, 1) := by decide +kernel
theorem dc_Mo_payloadOf_79 : decode mb_Mo_payloadOf 79 = .ok (.iload_n 1, 1) := by decide +kernel
theorem dc_Mo_payloadOf_80 : decode mb_Mo_payloadOf 80 = .ok (.sipush 256, 3) := by decide +kernel
theorem dc_Mo_payloadOf_83 : decode mb_Mo_payloadOf 83 = .ok (.irem, 1) := by decide +kernel
theorem dc_Mo_payloadOf_84 : decode mb_Mo_payloadOf 84 = .ok (.if_icmp .ne 17, 3) := by decide +kernel
theorem dc_Mo_payloadOf_87 : decode mb_Mo_payloadOf 87 = .ok (.aload_n 0, 1) := by decide +kernel
theorem dc_Mo_payloadOf_88 : decode mb_Mo_payloadOf 88 = .ok (.getfield 29, 3) := by decide +kernel
theorem dc_Mo_payloadOf_91 : decode mb_Mo_payloadOf 91 = .ok (.iconst 5, 1) := by decide +kernel
theorem dc_Mo_payloadOf_92 : decode mb_Mo_payloadOf 92 = .ok (.iaload, 1) := by decide +kernel
theorem dc_Mo_payloadOf_93 : decode mb_Mo_payloadOf 93 = .ok (.iload_n 1, 1) := by decide +kernel
theorem dc_Mo_payloadOf_94 : decode mb_Mo_payloadOf 94 = .ok (.sipush 256, 3) := by decide +kernel
theorem dc_Mo_payloadOf_97 : decode mb_Mo_payloadOf 97 = .ok (.idiv, 1) := by decide +kernel
theorem dc_Mo_payloadOf_98 : decode mb_Mo_payloadOf 98 = .ok (.if_icmp .eq 5, 3) := by decide +kernel
theorem dc_Mo_payloadOf_101 : decode mb_Mo_payloadOf 101 = .ok (.iconst (-1), 1) := by decide +kernel
theorem dc_Mo_payloadOf_102 : decode mb_Mo_payloadOf 102 = .ok (.ireturn, 1) := by decide +kernel
theorem dc_Mo_payloadOf_103 : decode mb_Mo_payloadOf 103 = .ok (.aload_n 0, 1) := by decide +kernel
theorem dc_Mo_payloadOf_104 : decode mb_Mo_payloadOf 104 = .ok (.getfield 80, 3) := by decide +kernel
theorem dc_Mo_payloadOf_107 : decode mb_Mo_payloadOf 107 = .ok (.bipush 7, 2) := by decide +kernel
theorem dc_Mo_payloadOf_109 : decode mb_Mo_payloadOf 109 = .ok (.if_icmp .ne 5, 3) := by decide +kernel
theorem dc_Mo_payloadOf_112 : decode mb_Mo_payloadOf 112 = .ok (.iconst 0, 1) := by decide +kernel
theorem dc_Mo_payloadOf_113 : decode mb_Mo_payloadOf 113 = .ok (.ireturn, 1) := by decide +kernel
theorem dc_Mo_payloadOf_114 : decode mb_Mo_payloadOf 114 = .ok (.aload_n 0, 1) := by decide +kernel
theorem dc_Mo_payloadOf_115 : decode mb_Mo_payloadOf 115 = .ok (.getfield 80, 3) := by decide +kernel
theorem dc_Mo_payloadOf_118 : decode mb_Mo_payloadOf 118 = .ok (.bipush 9, 2) := by decide +kernel
theorem dc_Mo_payloadOf_120 : decode mb_Mo_payloadOf 120 = .ok (.isub, 1) := by decide +kernel
theorem dc_Mo_payloadOf_121 : decode mb_Mo_payloadOf 121 = .ok (.istore_n 2, 1) := by decide +kernel
theorem dc_Mo_payloadOf_122 : decode mb_Mo_payloadOf 122 = .ok (.iload_n 2, 1) := by decide +kernel
theorem dc_Mo_payloadOf_123 : decode mb_Mo_payloadOf 123 = .ok (.iconst 1, 1) := by decide +kernel
theorem dc_Mo_payloadOf_124 : decode mb_Mo_payloadOf 124 = .ok (.if_icmp .lt 9, 3) := by decide +kernel
theorem dc_Mo_payloadOf_127 : decode mb_Mo_payloadOf 127 = .ok (.iload_n 2, 1) := by decide +kernel
theorem dc_Mo_payloadOf_128 : decode mb_Mo_payloadOf 128 = .ok (.bipush 60, 2) := by decide +kernel
theorem dc_Mo_payloadOf_130 : decode mb_Mo_payloadOf 130 = .ok (.if_icmp .le 5, 3) := by decide +kernel
theorem dc_Mo_payloadOf_133 : decode mb_Mo_payloadOf 133 = .ok (.iconst (-1), 1) := by decide +kernel
theorem dc_Mo_payloadOf_134 : decode mb_Mo_payloadOf 134 = .ok (.ireturn, 1) := by decide +kernel
theorem dc_Mo_payloadOf_135 : decode mb_Mo_payloadOf 135 = .ok (.aload_n 0, 1) := by decide +kernel
theorem dc_Mo_payloadOf_136 : decode mb_Mo_payloadOf 136 = .ok (.getfield 29, 3) := by decide +kernel
theorem dc_Mo_payloadOf_139 : decode mb_Mo_payloadOf 139 = .ok (.bipush 6, 2) := by decide +kernel
theorem dc_Mo_payloadOf_141 : decode mb_Mo_payloadOf 141 = .ok (.iload_n 2, 1) := by decide +kernel
theorem dc_Mo_payloadOf_142 : decode mb_Mo_payloadOf 142 = .ok (.iadd, 1) := by decide +kernel
theorem dc_Mo_payloadOf_143 : decode mb_Mo_payloadOf 143 = .ok (.invokestatic 85, 3) := by decide +kernel
theorem dc_Mo_payloadOf_146 : decode mb_Mo_payloadOf 146 = .ok (.istore_n 3, 1) := by decide +kernel
theorem dc_Mo_payloadOf_147 : decode mb_Mo_payloadOf 147 = .ok (.aload_n 0, 1) := by decide +kernel
theorem dc_Mo_payloadOf_148 : decode mb_Mo_payloadOf 148 = .ok (.getfield 29, 3) := by decide +kernel
theorem dc_Mo_payloadOf_151 : decode mb_Mo_payloadOf 151 = .ok (.bipush 6, 2) := by decide +kernel
theorem dc_Mo_payloadOf_153 : decode mb_Mo_payloadOf 153 = .ok (.iload_n 2, 1) := by decide +kernel
theorem dc_Mo_payloadOf_154 : decode mb_Mo_payloadOf 154 = .ok (.iadd, 1) := by decide +kernel
theorem dc_Mo_payloadOf_155 : decode mb_Mo_payloadOf 155 = .ok (.iaload, 1) := by decide +kernel
theorem dc_Mo_payloadOf_156 : decode mb_Mo_payloadOf 156 = .ok (.iload_n 3, 1) := by decide +kernel
theorem dc_Mo_payloadOf_157 : decode mb_Mo_payloadOf 157 = .ok (.sipush 256, 3) := by decide +kernel
theorem dc_Mo_payloadOf_160 : decode mb_Mo_payloadOf 160 = .ok (.irem, 1) := by decide +kernel
theorem dc_Mo_payloadOf_161 : decode mb_Mo_payloadOf 161 = .ok (.if_icmp .ne 24, 3) := by decide +kernel
theorem dc_Mo_payloadOf_164 : decode mb_Mo_payloadOf 164 = .ok (.aload_n 0, 1) := by decide +kernel
theorem dc_Mo_payloadOf_165 : decode mb_Mo_payloadOf 165 = .ok (.getfield 29, 3) := by decide +kernel
theorem dc_Mo_payloadOf_168 : decode mb_Mo_payloadOf 168 = .ok (.bipush 7, 2) := by decide +kernel
theorem dc_Mo_payloadOf_170 : decode mb_Mo_payloadOf 170 = .ok (.iload_n 2, 1) := by decide +kernel
theorem dc_Mo_payloadOf_171 : decode mb_Mo_payloadOf 171 = .ok (.iadd, 1) := by decide +kernel
theorem dc_Mo_payloadOf_172 : decode mb_Mo_payloadOf 172 = .ok (.iaload, 1) := by decide +kernel
theorem dc_Mo_payloadOf_173 : decode mb_Mo_payloadOf 173 = .ok (.iload_n 3, 1) := by decide +kernel
theorem dc_Mo_payloadOf_174 : decode mb_Mo_payloadOf 174 = .ok (.sipush 256, 3) := by decide +kernel
theorem dc_Mo_payloadOf_177 : decode mb_Mo_payloadOf 177 = .ok (.idiv, 1) := by decide +kernel
theorem dc_Mo_payloadOf_178 : decode mb_Mo_payloadOf 178 = .ok (.if_icmp .ne 7, 3) := by decide +kernel
theorem dc_Mo_payloadOf_181 : decode mb_Mo_payloadOf 181 = .ok (.iload_n 2, 1) := by decide +kernel
theorem dc_Mo_payloadOf_182 : decode mb_Mo_payloadOf 182 = .ok (.goto 4, 3) := by decide +kernel
theorem dc_Mo_payloadOf_185 : decode mb_Mo_payloadOf 185 = .ok (.iconst (-1), 1) := by decide +kernel
theorem dc_Mo_payloadOf_186 : decode mb_Mo_payloadOf 186 = .ok (.ireturn, 1) := by decide +kernel
theorem dc_Mo_replyControl_0 : decode mb_Mo_replyControl 0 = .ok (.aload_n 0, 1) := by decide +kernel
theorem dc_Mo_replyControl_1 : decode mb_Mo_replyControl 1 = .ok (.aload_n 0, 1) := by decide +kernel
theorem dc_Mo_replyControl_2 : decode mb_Mo_replyControl 2 = .ok (.getfield 32, 3) := by decide +kernel
theorem dc_Mo_replyControl_5 : decode mb_Mo_replyControl 5 = .ok (.iload_n 1, 1) := by decide +kernel
theorem dc_Mo_replyControl_6 : decode mb_Mo_replyControl 6 = .ok (.iconst 0, 1) := by decide +kernel
theorem dc_Mo_replyControl_7 : decode mb_Mo_replyControl 7 = .ok (.invokestatic 89, 3) := by decide +kernel
theorem dc_Mo_replyControl_10 : decode mb_Mo_replyControl 10 = .ok (.putfield 103, 3) := by decide +kernel
theorem dc_Mo_replyControl_13 : decode mb_Mo_replyControl 13 = .ok (.return_, 1) := by decide +kernel
theorem dc_Mo_replyLatest_0 : decode mb_Mo_replyLatest 0 = .ok (.iconst 0, 1) := by decide +kernel
theorem dc_Mo_replyLatest_1 : decode mb_Mo_replyLatest 1 = .ok (.istore_n 1, 1) := by decide +kernel
theorem dc_Mo_replyLatest_2 : decode mb_Mo_replyLatest 2 = .ok (.iload_n 1, 1) := by decide +kernel
theorem dc_Mo_replyLatest_3 : decode mb_Mo_replyLatest 3 = .ok (.aload_n 0, 1) := by decide +kernel
theorem dc_Mo_replyLatest_4 : decode mb_Mo_replyLatest 4 = .ok (.getfield 106, 3) := by decide +kernel
theorem dc_Mo_replyLatest_7 : decode mb_Mo_replyLatest 7 = .ok (.if_icmp .ge 21, 3) := by decide +kernel
theorem dc_Mo_replyLatest_10 : decode mb_Mo_replyLatest 10 = .ok (.aload_n 0, 1) := by decide +kernel
theorem dc_Mo_replyLatest_11 : decode mb_Mo_replyLatest 11 = .ok (.getfield 32, 3) := by decide +kernel
theorem dc_Mo_replyLatest_14 : decode mb_Mo_replyLatest 14 = .ok (.iload_n 1, 1) := by decide +kernel
theorem dc_Mo_replyLatest_15 : decode mb_Mo_replyLatest 15 = .ok (.aload_n 0, 1) := by decide +kernel
theorem dc_Mo_replyLatest_16 : decode mb_Mo_replyLatest 16 = .ok (.getfield 35, 3) := by decide +kernel
theorem dc_Mo_replyLatest_19 : decode mb_Mo_replyLatest 19 = .ok (.iload_n 1, 1) := by decide +kernel
theorem dc_Mo_replyLatest_20 : decode mb_Mo_replyLatest 20 = .ok (.iaload, 1) := by decide +kernel
theorem dc_Mo_replyLatest_21 : decode mb_Mo_replyLatest 21 = .ok (.iastore, 1) := by decide +kernel
theorem dc_Mo_replyLatest_22 : decode mb_Mo_replyLatest 22 = .ok (.iinc 1 1, 3) := by decide +kernel
theorem dc_Mo_replyLatest_25 : decode mb_Mo_replyLatest 25 = .ok (.goto (-23), 3) := by decide +kernel
theorem dc_Mo_replyLatest_28 : decode mb_Mo_replyLatest 28 = .ok (.aload_n 0, 1) := by decide +kernel
theorem dc_Mo_replyLatest_29 : decode mb_Mo_replyLatest 29 = .ok (.aload_n 0, 1) := by decide +kernel
theorem dc_Mo_replyLatest_30 : decode mb_Mo_replyLatest 30 = .ok (.getfield 106, 3) := by decide +kernel
theorem dc_Mo_replyLatest_33 : decode mb_Mo_replyLatest 33 = .ok (.putfield 103, 3) := by decide +kernel
theorem dc_Mo_replyLatest_36 : decode mb_Mo_replyLatest 36 = .ok (.return_, 1) := by decide +kernel
theorem dc_Mo_inform_0 : decode mb_Mo_inform 0 = .ok (.aload_n 0, 1) := by decide +kernel
theorem dc_Mo_inform_1 : decode mb_Mo_inform 1 = .ok (.getfield 67, 3) := by decide +kernel
theorem dc_Mo_inform_4 : decode mb_Mo_inform 4 = .ok (.ifCond .ne 12, 3) := by decide +kernel
theorem dc_Mo_inform_7 : decode mb_Mo_inform 7 = .ok (.aload_n 0, 1) := by decide +kernel
theorem dc_Mo_inform_8 : decode mb_Mo_inform 8 = .ok (.bipush 31, 2) := by decide +kernel
theorem dc_Mo_inform_10 : decode mb_Mo_inform 10 = .ok (.invokevirtual 109, 3) := by decide +kernel
theorem dc_Mo_inform_13 : decode mb_Mo_inform 13 = .ok (.goto 184, 3) := by decide +kernel
theorem dc_Mo_inform_16 : decode mb_Mo_inform 16 = .ok (.iload_n 1, 1) := by decide +kernel
theorem dc_Mo_inform_17 : decode mb_Mo_inform 17 = .ok (.aload_n 0, 1) := by decide +kernel
theorem dc_Mo_inform_18 : decode mb_Mo_inform 18 = .ok (.getfield 74, 3) := by decide +kernel
theorem dc_Mo_inform_21 : decode mb_Mo_inform 21 = .ok (.if_icmp .ne 120, 3) := by decide +kernel
theorem dc_Mo_inform_24 : decode mb_Mo_inform 24 = .ok (.iload_n 2, 1) := by decide +kernel
theorem dc_Mo_inform_25 : decode mb_Mo_inform 25 = .ok (.aload_n 0, 1) := by decide +kernel
theorem dc_Mo_inform_26 : decode mb_Mo_inform 26 = .ok (.getfield 77, 3) := by decide +kernel
theorem dc_Mo_inform_29 : decode mb_Mo_inform 29 = .ok (.if_icmp .ne 112, 3) := by decide +kernel
theorem dc_Mo_inform_32 : decode mb_Mo_inform 32 = .ok (.aload_n 0, 1) := by decide +kernel
theorem dc_Mo_inform_33 : decode mb_Mo_inform 33 = .ok (.getfield 77, 3) := by decide +kernel
theorem dc_Mo_inform_36 : decode mb_Mo_inform 36 = .ok (.istore 4, 2) := by decide +kernel
theorem dc_Mo_inform_38 : decode mb_Mo_inform 38 = .ok (.aload_n 0, 1) := by decide +kernel
theorem dc_Mo_inform_39 : decode mb_Mo_inform 39 = .ok (.aload_n 0, 1) := by decide +kernel
theorem dc_Mo_inform_40 : decode mb_Mo_inform 40 = .ok (.getfield 74, 3) := by decide +kernel
theorem dc_Mo_inform_43 : decode mb_Mo_inform 43 = .ok (.iconst 1, 1) := by decide +kernel
theorem dc_Mo_inform_44 : decode mb_Mo_inform 44 = .ok (.iadd, 1) := by decide +kernel
theorem dc_Mo_inform_45 : decode mb_Mo_inform 45 = .ok (.bipush 8, 2) := by decide +kernel
theorem dc_Mo_inform_47 : decode mb_Mo_inform 47 = .ok (.irem, 1) := by decide +kernel
theorem dc_Mo_inform_48 : decode mb_Mo_inform 48 = .ok (.putfield 74, 3) := by decide +kernel
theorem dc_Mo_inform_51 : decode mb_Mo_inform 51 = .ok (.aload_n 0, 1) := by decide +kernel
theorem dc_Mo_inform_52 : decode mb_Mo_inform 52 = .ok (.aload_n 0, 1) := by decide +kernel
theorem dc_Mo_inform_53 : decode mb_Mo_inform 53 = .ok (.getfield 77, 3) := by decide +kernel
theorem dc_Mo_inform_56 : decode mb_Mo_inform 56 = .ok (.iconst 1, 1) := by decide +kernel
theorem dc_Mo_inform_57 : decode mb_Mo_inform 57 = .ok (.iadd, 1) := by decide +kernel
theorem dc_Mo_inform_58 : decode mb_Mo_inform 58 = .ok (.bipush 8, 2) := by decide +kernel
theorem dc_Mo_inform_60 : decode mb_Mo_inform 60 = .ok (.irem, 1) := by decide +kernel
theorem dc_Mo_inform_61 : decode mb_Mo_inform 61 = .ok (.putfield 77, 3) := by decide +kernel
theorem dc_Mo_inform_64 : decode mb_Mo_inform 64 = .ok (.aload_n 0, 1) := by decide +kernel
theorem dc_Mo_inform_65 : decode mb_Mo_inform 65 = .ok (.iload_n 3, 1) := by decide +kernel
theorem dc_Mo_inform_66 : decode mb_Mo_inform 66 = .ok (.invokevirtual 113, 3) := by decide +kernel
theorem dc_Mo_inform_69 : decode mb_Mo_inform 69 = .ok (.iconst 0, 1) := by decide +kernel
theorem dc_Mo_inform_70 : decode mb_Mo_inform 70 = .ok (.istore 5, 2) := by decide +kernel
theorem dc_Mo_inform_72 : decode mb_Mo_inform 72 = .ok (.iload 5, 2) := by decide +kernel
theorem dc_Mo_inform_74 : decode mb_Mo_inform 74 = .ok (.aload_n 0, 1) := by decide +kernel
theorem dc_Mo_inform_75 : decode mb_Mo_inform 75 = .ok (.getfield 116, 3) := by decide +kernel
theorem dc_Mo_inform_78 : decode mb_Mo_inform 78 = .ok (.if_icmp .ge 26, 3) := by decide +kernel
theorem dc_Mo_inform_81 : decode mb_Mo_inform 81 = .ok (.aload_n 0, 1) := by decide +kernel
theorem dc_Mo_inform_82 : decode mb_Mo_inform 82 = .ok (.getfield 35, 3) := by decide +kernel
theorem dc_Mo_inform_85 : decode mb_Mo_inform 85 = .ok (.bipush 6, 2) := by decide +kernel
theorem dc_Mo_inform_87 : decode mb_Mo_inform 87 = .ok (.iload 5, 2) := by decide +kernel
theorem dc_Mo_inform_89 : decode mb_Mo_inform 89 = .ok (.iadd, 1) := by decide +kernel
theorem dc_Mo_inform_90 : decode mb_Mo_inform 90 = .ok (.aload_n 0, 1) := by decide +kernel
theorem dc_Mo_inform_91 : decode mb_Mo_inform 91 = .ok (.getfield 38, 3) := by decide +kernel
theorem dc_Mo_inform_94 : decode mb_Mo_inform 94 = .ok (.iload 5, 2) := by decide +kernel
theorem dc_Mo_inform_96 : decode mb_Mo_inform 96 = .ok (.iaload, 1) := by decide +kernel
theorem dc_Mo_inform_97 : decode mb_Mo_inform 97 = .ok (.iastore, 1) := by decide +kernel
theorem dc_Mo_inform_98 : decode mb_Mo_inform 98 = .ok (.iinc 5 1, 3) := by decide +kernel
theorem dc_Mo_inform_101 : decode mb_Mo_inform 101 = .ok (.goto (-29), 3) := by decide +kernel
theorem dc_Mo_inform_104 : decode mb_Mo_inform 104 = .ok (.aload_n 0, 1) := by decide +kernel
theorem dc_Mo_inform_105 : decode mb_Mo_inform 105 = .ok (.aload_n 0, 1) := by decide +kernel
theorem dc_Mo_inform_106 : decode mb_Mo_inform 106 = .ok (.getfield 35, 3) := by decide +kernel
theorem dc_Mo_inform_109 : decode mb_Mo_inform 109 = .ok (.bipush 16, 2) := by decide +kernel
theorem dc_Mo_inform_111 : decode mb_Mo_inform 111 = .ok (.iconst 2, 1) := by decide +kernel
theorem dc_Mo_inform_112 : decode mb_Mo_inform 112 = .ok (.iload 4, 2) := by decide +kernel
theorem dc_Mo_inform_114 : decode mb_Mo_inform 114 = .ok (.imul, 1) := by decide +kernel
theorem dc_Mo_inform_115 : decode mb_Mo_inform 115 = .ok (.iadd, 1) := by decide +kernel
theorem dc_Mo_inform_116 : decode mb_Mo_inform 116 = .ok (.bipush 32, 2) := by decide +kernel
theorem dc_Mo_inform_118 : decode mb_Mo_inform 118 = .ok (.aload_n 0, 1) := by decide +kernel
theorem dc_Mo_inform_119 : decode mb_Mo_inform 119 = .ok (.getfield 74, 3) := by decide +kernel
theorem dc_Mo_inform_122 : decode mb_Mo_inform 122 = .ok (.imul, 1) := by decide +kernel
theorem dc_Mo_inform_123 : decode mb_Mo_inform 123 = .ok (.iadd, 1) := by decide +kernel
theorem dc_Mo_inform_124 : decode mb_Mo_inform 124 = .ok (.aload_n 0, 1) := by decide +kernel
theorem dc_Mo_inform_125 : decode mb_Mo_inform 125 = .ok (.getfield 116, 3) := by decide +kernel
theorem dc_Mo_inform_128 : decode mb_Mo_inform 128 = .ok (.invokestatic 89, 3) := by decide +kernel
theorem dc_Mo_inform_131 : decode mb_Mo_inform 131 = .ok (.putfield 106, 3) := by decide +kernel
theorem dc_Mo_inform_134 : decode mb_Mo_inform 134 = .ok (.aload_n 0, 1) := by decide +kernel
theorem dc_Mo_inform_135 : decode mb_Mo_inform 135 = .ok (.invokevirtual 119, 3) := by decide +kernel
theorem dc_Mo_inform_138 : decode mb_Mo_inform 138 = .ok (.goto 59, 3) := by decide +kernel
theorem dc_Mo_inform_141 : decode mb_Mo_inform 141 = .ok (.iload_n 1, 1) := by decide +kernel
theorem dc_Mo_inform_142 : decode mb_Mo_inform 142 = .ok (.aload_n 0, 1) := by decide +kernel
theorem dc_Mo_inform_143 : decode mb_Mo_inform 143 = .ok (.getfield 74, 3) := by decide +kernel
theorem dc_Mo_inform_146 : decode mb_Mo_inform 146 = .ok (.bipush 7, 2) := by decide +kernel
theorem dc_Mo_inform_148 : decode mb_Mo_inform 148 = .ok (.iadd, 1) := by decide +kernel
theorem dc_Mo_inform_149 : decode mb_Mo_inform 149 = .ok (.bipush 8, 2) := by decide +kernel
theorem dc_Mo_inform_151 : decode mb_Mo_inform 151 = .ok (.irem, 1) := by decide +kernel
theorem dc_Mo_inform_152 : decode mb_Mo_inform 152 = .ok (.if_icmp .ne 31, 3) := by decide +kernel
theorem dc_Mo_inform_155 : decode mb_Mo_inform 155 = .ok (.iload_n 2, 1) := by decide +kernel
theorem dc_Mo_inform_156 : decode mb_Mo_inform 156 = .ok (.aload_n 0, 1) := by decide +kernel
theorem dc_Mo_inform_157 : decode mb_Mo_inform 157 = .ok (.getfield 77, 3) := by decide +kernel
theorem dc_Mo_inform_160 : decode mb_Mo_inform 160 = .ok (.bipush 7, 2) := by decide +kernel
theorem dc_Mo_inform_162 : decode mb_Mo_inform 162 = .ok (.iadd, 1) := by decide +kernel
theorem dc_Mo_inform_163 : decode mb_Mo_inform 163 = .ok (.bipush 8, 2) := by decide +kernel
theorem dc_Mo_inform_165 : decode mb_Mo_inform 165 = .ok (.irem, 1) := by decide +kernel
theorem dc_Mo_inform_166 : decode mb_Mo_inform 166 = .ok (.if_icmp .ne 17, 3) := by decide +kernel
theorem dc_Mo_inform_169 : decode mb_Mo_inform 169 = .ok (.aload_n 0, 1) := by decide +kernel
theorem dc_Mo_inform_170 : decode mb_Mo_inform 170 = .ok (.getfield 106, 3) := by decide +kernel
theorem dc_Mo_inform_173 : decode mb_Mo_inform 173 = .ok (.ifCond .le 10, 3) := by decide +kernel
theorem dc_Mo_inform_176 : decode mb_Mo_inform 176 = .ok (.aload_n 0, 1) := by decide +kernel
theorem dc_Mo_inform_177 : decode mb_Mo_inform 177 = .ok (.invokevirtual 119, 3) := by decide +kernel
theorem dc_Mo_inform_180 : decode mb_Mo_inform 180 = .ok (.goto 17, 3) := by decide +kernel
theorem dc_Mo_inform_183 : decode mb_Mo_inform 183 = .ok (.aload_n 0, 1) := by decide +kernel
theorem dc_Mo_inform_184 : decode mb_Mo_inform 184 = .ok (.bipush 17, 2) := by decide +kernel
theorem dc_Mo_inform_186 : decode mb_Mo_inform 186 = .ok (.bipush 32, 2) := by decide +kernel
theorem dc_Mo_inform_188 : decode mb_Mo_inform 188 = .ok (.aload_n 0, 1) := by decide +kernel
theorem dc_Mo_inform_189 : decode mb_Mo_inform 189 = .ok (.getfield 74, 3) := by decide +kernel
theorem dc_Mo_inform_192 : decode mb_Mo_inform 192 = .ok (.imul, 1) := by decide +kernel
theorem dc_Mo_inform_193 : decode mb_Mo_inform 193 = .ok (.iadd, 1) := by decide +kernel
theorem dc_Mo_inform_194 : decode mb_Mo_inform 194 = .ok (.invokevirtual 109, 3) := by decide +kernel
theorem dc_Mo_inform_197 : decode mb_Mo_inform 197 = .ok (.return_, 1) := by decide +kernel
