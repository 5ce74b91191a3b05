theorem d_C_init_0 : decode b_C_init 0 = .ok (.aload_n 0, 1) := by decide +kernel
theorem d_C_init_1 : decode b_C_init 1 = .ok (.invokespecial 3, 3) := by decide +kernel
theorem d_C_init_4 : decode b_C_init 4 = .ok (.aload_n 0, 1) := by decide +kernel
theorem d_C_init_5 : decode b_C_init 5 = .ok (.iload_n 1, 1) := by decide +kernel
theorem d_C_init_6 : decode b_C_init 6 = .ok (.putfield 9, 3) := by decide +kernel
theorem d_C_init_9 : decode b_C_init 9 = .ok (.aload_n 0, 1) := by decide +kernel
theorem d_C_init_10 : decode b_C_init 10 = .ok (.iload_n 2, 1) := by decide +kernel
theorem d_C_init_11 : decode b_C_init 11 = .ok (.putfield 15, 3) := by decide +kernel
theorem d_C_init_14 : decode b_C_init 14 = .ok (.aload_n 0, 1) := by decide +kernel
theorem d_C_init_15 : decode b_C_init 15 = .ok (.iload_n 3, 1) := by decide +kernel
theorem d_C_init_16 : decode b_C_init 16 = .ok (.putfield 18, 3) := by decide +kernel
theorem d_C_init_19 : decode b_C_init 19 = .ok (.aload_n 0, 1) := by decide +kernel
theorem d_C_init_20 : decode b_C_init 20 = .ok (.iload 4, 2) := by decide +kernel
theorem d_C_init_22 : decode b_C_init 22 = .ok (.putfield 21, 3) := by decide +kernel
theorem d_C_init_25 : decode b_C_init 25 = .ok (.aload_n 0, 1) := by decide +kernel
theorem d_C_init_26 : decode b_C_init 26 = .ok (.iload 5, 2) := by decide +kernel
theorem d_C_init_28 : decode b_C_init 28 = .ok (.putfield 24, 3) := by decide +kernel
theorem d_C_init_31 : decode b_C_init 31 = .ok (.return_, 1) := by decide +kernel
theorem d_C_part_0 : decode b_C_part 0 = .ok (.iload_n 1, 1) := by decide +kernel
theorem d_C_part_1 : decode b_C_part 1 = .ok (.tableswitch 60 0 4 #[35, 40, 45, 50, 55], 35) := by decide +kernel
theorem d_C_part_36 : decode b_C_part 36 = .ok (.aload_n 0, 1) := by decide +kernel
theorem d_C_part_37 : decode b_C_part 37 = .ok (.getfield 9, 3) := by decide +kernel
theorem d_C_part_40 : decode b_C_part 40 = .ok (.ireturn, 1) := by decide +kernel
theorem d_C_part_41 : decode b_C_part 41 = .ok (.aload_n 0, 1) := by decide +kernel
theorem d_C_part_42 : decode b_C_part 42 = .ok (.getfield 15, 3) := by decide +kernel
theorem d_C_part_45 : decode b_C_part 45 = .ok (.ireturn, 1) := by decide +kernel
theorem d_C_part_46 : decode b_C_part 46 = .ok (.aload_n 0, 1) := by decide +kernel
theorem d_C_part_47 : decode b_C_part 47 = .ok (.getfield 18, 3) := by decide +kernel
theorem d_C_part_50 : decode b_C_part 50 = .ok (.ireturn, 1) := by decide +kernel
theorem d_C_part_51 : decode b_C_part 51 = .ok (.aload_n 0, 1) := by decide +kernel
theorem d_C_part_52 : decode b_C_part 52 = .ok (.getfield 21, 3) := by decide +kernel
theorem d_C_part_55 : decode b_C_part 55 = .ok (.ireturn, 1) := by decide +kernel
theorem d_C_part_56 : decode b_C_part 56 = .ok (.aload_n 0, 1) := by decide +kernel
theorem d_C_part_57 : decode b_C_part 57 = .ok (.getfield 24, 3) := by decide +kernel
theorem d_C_part_60 : decode b_C_part 60 = .ok (.ireturn, 1) := by decide +kernel
theorem d_C_part_61 : decode b_C_part 61 = .ok (.iconst (-1), 1) := by decide +kernel
theorem d_C_part_62 : decode b_C_part 62 = .ok (.ireturn, 1) := by decide +kernel
theorem d_I_init_0 : decode b_I_init 0 = .ok (.aload_n 0, 1) := by decide +kernel
theorem d_I_init_1 : decode b_I_init 1 = .ok (.invokespecial 3, 3) := by decide +kernel
theorem d_I_init_4 : decode b_I_init 4 = .ok (.aload_n 0, 1) := by decide +kernel
theorem d_I_init_5 : decode b_I_init 5 = .ok (.iload_n 1, 1) := by decide +kernel
theorem d_I_init_6 : decode b_I_init 6 = .ok (.putfield 9, 3) := by decide +kernel
theorem d_I_init_9 : decode b_I_init 9 = .ok (.aload_n 0, 1) := by decide +kernel
theorem d_I_init_10 : decode b_I_init 10 = .ok (.iload_n 2, 1) := by decide +kernel
theorem d_I_init_11 : decode b_I_init 11 = .ok (.putfield 15, 3) := by decide +kernel
theorem d_I_init_14 : decode b_I_init 14 = .ok (.aload_n 0, 1) := by decide +kernel
theorem d_I_init_15 : decode b_I_init 15 = .ok (.iload_n 3, 1) := by decide +kernel
theorem d_I_init_16 : decode b_I_init 16 = .ok (.putfield 18, 3) := by decide +kernel
theorem d_I_init_19 : decode b_I_init 19 = .ok (.aload_n 0, 1) := by decide +kernel
theorem d_I_init_20 : decode b_I_init 20 = .ok (.iload 4, 2) := by decide +kernel
theorem d_I_init_22 : decode b_I_init 22 = .ok (.putfield 21, 3) := by decide +kernel
theorem d_I_init_25 : decode b_I_init 25 = .ok (.aload_n 0, 1) := by decide +kernel
theorem d_I_init_26 : decode b_I_init 26 = .ok (.iconst 0, 1) := by decide +kernel
theorem d_I_init_27 : decode b_I_init 27 = .ok (.putfield 24, 3) := by decide +kernel
theorem d_I_init_30 : decode b_I_init 30 = .ok (.aload_n 0, 1) := by decide +kernel
theorem d_I_init_31 : decode b_I_init 31 = .ok (.iconst 0, 1) := by decide +kernel
theorem d_I_init_32 : decode b_I_init 32 = .ok (.putfield 27, 3) := by decide +kernel
theorem d_I_init_35 : decode b_I_init 35 = .ok (.aload_n 0, 1) := by decide +kernel
theorem d_I_init_36 : decode b_I_init 36 = .ok (.iconst 0, 1) := by decide +kernel
theorem d_I_init_37 : decode b_I_init 37 = .ok (.putfield 30, 3) := by decide +kernel
theorem d_I_init_40 : decode b_I_init 40 = .ok (.aload_n 0, 1) := by decide +kernel
theorem d_I_init_41 : decode b_I_init 41 = .ok (.iconst (-1), 1) := by decide +kernel
theorem d_I_init_42 : decode b_I_init 42 = .ok (.putfield 34, 3) := by decide +kernel
theorem d_I_init_45 : decode b_I_init 45 = .ok (.aload_n 0, 1) := by decide +kernel
theorem d_I_init_46 : decode b_I_init 46 = .ok (.iconst (-1), 1) := by decide +kernel
theorem d_I_init_47 : decode b_I_init 47 = .ok (.putfield 37, 3) := by decide +kernel
theorem d_I_init_50 : decode b_I_init 50 = .ok (.aload_n 0, 1) := by decide +kernel
theorem d_I_init_51 : decode b_I_init 51 = .ok (.iconst 0, 1) := by decide +kernel
theorem d_I_init_52 : decode b_I_init 52 = .ok (.putfield 40, 3) := by decide +kernel
theorem d_I_init_55 : decode b_I_init 55 = .ok (.aload_n 0, 1) := by decide +kernel
theorem d_I_init_56 : decode b_I_init 56 = .ok (.iconst 0, 1) := by decide +kernel
theorem d_I_init_57 : decode b_I_init 57 = .ok (.putfield 43, 3) := by decide +kernel
theorem d_I_init_60 : decode b_I_init 60 = .ok (.aload_n 0, 1) := by decide +kernel
theorem d_I_init_61 : decode b_I_init 61 = .ok (.iconst 0, 1) := by decide +kernel
theorem d_I_init_62 : decode b_I_init 62 = .ok (.putfield 46, 3) := by decide +kernel
theorem d_I_init_65 : decode b_I_init 65 = .ok (.aload_n 0, 1) := by decide +kernel
theorem d_I_init_66 : decode b_I_init 66 = .ok (.iconst 0, 1) := by decide +kernel
theorem d_I_init_67 : decode b_I_init 67 = .ok (.putfield 49, 3) := by decide +kernel
theorem d_I_init_70 : decode b_I_init 70 = .ok (.aload_n 0, 1) := by decide +kernel
theorem d_I_init_71 : decode b_I_init 71 = .ok (.iconst (-1), 1) := by decide +kernel
theorem d_I_init_72 : decode b_I_init 72 = .ok (.putfield 52, 3) := by decide +kernel
theorem d_I_init_75 : decode b_I_init 75 = .ok (.aload_n 0, 1) := by decide +kernel
theorem d_I_init_76 : decode b_I_init 76 = .ok (.iconst 0, 1) := by decide +kernel
theorem d_I_init_77 : decode b_I_init 77 = .ok (.putfield 55, 3) := by decide +kernel
theorem d_I_init_80 : decode b_I_init 80 = .ok (.aload_n 0, 1) := by decide +kernel
theorem d_I_init_81 : decode b_I_init 81 = .ok (.iconst 4, 1) := by decide +kernel
theorem d_I_init_82 : decode b_I_init 82 = .ok (.newarray .int, 2) := by decide +kernel
theorem d_I_init_84 : decode b_I_init 84 = .ok (.putfield 58, 3) := by decide +kernel
theorem d_I_init_87 : decode b_I_init 87 = .ok (.aload_n 0, 1) := by decide +kernel
theorem d_I_init_88 : decode b_I_init 88 = .ok (.iconst 4, 1) := by decide +kernel
theorem d_I_init_89 : decode b_I_init 89 = .ok (.newarray .int, 2) := by decide +kernel
theorem d_I_init_91 : decode b_I_init 91 = .ok (.putfield 62, 3) := by decide +kernel
theorem d_I_init_94 : decode b_I_init 94 = .ok (.return_, 1) := by decide +kernel
theorem d_I_has_0 : decode b_I_has 0 = .ok (.aload_n 0, 1) := by decide +kernel
theorem d_I_has_1 : decode b_I_has 1 = .ok (.getfield 24, 3) := by decide +kernel
theorem d_I_has_4 : decode b_I_has 4 = .ok (.iload_n 1, 1) := by decide +kernel
theorem d_I_has_5 : decode b_I_has 5 = .ok (.ishr, 1) := by decide +kernel
theorem d_I_has_6 : decode b_I_has 6 = .ok (.iconst 1, 1) := by decide +kernel
theorem d_I_has_7 : decode b_I_has 7 = .ok (.iand, 1) := by decide +kernel
theorem d_I_has_8 : decode b_I_has 8 = .ok (.iconst 1, 1) := by decide +kernel
theorem d_I_has_9 : decode b_I_has 9 = .ok (.if_icmp .ne 7, 3) := by decide +kernel
theorem d_I_has_12 : decode b_I_has 12 = .ok (.iconst 1, 1) := by decide +kernel
theorem d_I_has_13 : decode b_I_has 13 = .ok (.goto 4, 3) := by decide +kernel
theorem d_I_has_16 : decode b_I_has 16 = .ok (.iconst 0, 1) := by decide +kernel
theorem d_I_has_17 : decode b_I_has 17 = .ok (.ireturn, 1) := by decide +kernel
theorem d_I_isAtEnd_0 : decode b_I_isAtEnd 0 = .ok (.aload_n 0, 1) := by decide +kernel
theorem d_I_isAtEnd_1 : decode b_I_isAtEnd 1 = .ok (.getfield 27, 3) := by decide +kernel
theorem d_I_isAtEnd_4 : decode b_I_isAtEnd 4 = .ok (.iconst 5, 1) := by decide +kernel
theorem d_I_isAtEnd_5 : decode b_I_isAtEnd 5 = .ok (.if_icmp .eq 12, 3) := by decide +kernel
theorem d_I_isAtEnd_8 : decode b_I_isAtEnd 8 = .ok (.aload_n 0, 1) := by decide +kernel
theorem d_I_isAtEnd_9 : decode b_I_isAtEnd 9 = .ok (.getfield 27, 3) := by decide +kernel
theorem d_I_isAtEnd_12 : decode b_I_isAtEnd 12 = .ok (.bipush 9, 2) := by decide +kernel
theorem d_I_isAtEnd_14 : decode b_I_isAtEnd 14 = .ok (.if_icmp .ne 7, 3) := by decide +kernel
theorem d_I_isAtEnd_17 : decode b_I_isAtEnd 17 = .ok (.iconst 1, 1) := by decide +kernel
theorem d_I_isAtEnd_18 : decode b_I_isAtEnd 18 = .ok (.goto 4, 3) := by decide +kernel
theorem d_I_isAtEnd_21 : decode b_I_isAtEnd 21 = .ok (.iconst 0, 1) := by decide +kernel
theorem d_I_isAtEnd_22 : decode b_I_isAtEnd 22 = .ok (.ireturn, 1) := by decide +kernel
theorem d_I_isSetAside_0 : decode b_I_isSetAside 0 = .ok (.aload_n 0, 1) := by decide +kernel
theorem d_I_isSetAside_1 : decode b_I_isSetAside 1 = .ok (.getfield 30, 3) := by decide +kernel
theorem d_I_isSetAside_4 : decode b_I_isSetAside 4 = .ok (.ifCond .ne 12, 3) := by decide +kernel
theorem d_I_isSetAside_7 : decode b_I_isSetAside 7 = .ok (.aload_n 0, 1) := by decide +kernel
theorem d_I_isSetAside_8 : decode b_I_isSetAside 8 = .ok (.getfield 27, 3) := by decide +kernel
theorem d_I_isSetAside_11 : decode b_I_isSetAside 11 = .ok (.bipush 8, 2) := by decide +kernel
theorem d_I_isSetAside_13 : decode b_I_isSetAside 13 = .ok (.if_icmp .ne 7, 3) := by decide +kernel
theorem d_I_isSetAside_16 : decode b_I_isSetAside 16 = .ok (.iconst 1, 1) := by decide +kernel
theorem d_I_isSetAside_17 : decode b_I_isSetAside 17 = .ok (.goto 4, 3) := by decide +kernel
theorem d_I_isSetAside_20 : decode b_I_isSetAside 20 = .ok (.iconst 0, 1) := by decide +kernel
theorem d_I_isSetAside_21 : decode b_I_isSetAside 21 = .ok (.ireturn, 1) := by decide +kernel
theorem d_I_leastExcluding_0 : decode b_I_leastExcluding 0 = .ok (.iload_n 1, 1) := by decide +kernel
theorem d_I_leastExcluding_1 : decode b_I_leastExcluding 1 = .ok (.iconst 0, 1) := by decide +kernel
theorem d_I_leastExcluding_2 : decode b_I_leastExcluding 2 = .ok (.iconst 5, 1) := by decide +kernel
theorem d_I_leastExcluding_3 : decode b_I_leastExcluding 3 = .ok (.invokestatic 65, 3) := by decide +kernel
theorem d_I_leastExcluding_6 : decode b_I_leastExcluding 6 = .ok (.ifCond .ne 5, 3) := by decide +kernel
theorem d_I_leastExcluding_9 : decode b_I_leastExcluding 9 = .ok (.iconst (-1), 1) := by decide +kernel
theorem d_I_leastExcluding_10 : decode b_I_leastExcluding 10 = .ok (.ireturn, 1) := by decide +kernel
theorem d_I_leastExcluding_11 : decode b_I_leastExcluding 11 = .ok (.aload_n 0, 1) := by decide +kernel
theorem d_I_leastExcluding_12 : decode b_I_leastExcluding 12 = .ok (.getfield 24, 3) := by decide +kernel
theorem d_I_leastExcluding_15 : decode b_I_leastExcluding 15 = .ok (.getstatic 69, 3) := by decide +kernel
theorem d_I_leastExcluding_18 : decode b_I_leastExcluding 18 = .ok (.iload_n 1, 1) := by decide +kernel
theorem d_I_leastExcluding_19 : decode b_I_leastExcluding 19 = .ok (.iaload, 1) := by decide +kernel
theorem d_I_leastExcluding_20 : decode b_I_leastExcluding 20 = .ok (.iand, 1) := by decide +kernel
theorem d_I_leastExcluding_21 : decode b_I_leastExcluding 21 = .ok (.istore_n 2, 1) := by decide +kernel
theorem d_I_leastExcluding_22 : decode b_I_leastExcluding 22 = .ok (.iconst 0, 1) := by decide +kernel
theorem d_I_leastExcluding_23 : decode b_I_leastExcluding 23 = .ok (.istore_n 3, 1) := by decide +kernel
theorem d_I_leastExcluding_24 : decode b_I_leastExcluding 24 = .ok (.iload_n 3, 1) := by decide +kernel
theorem d_I_leastExcluding_25 : decode b_I_leastExcluding 25 = .ok (.bipush 6, 2) := by decide +kernel
theorem d_I_leastExcluding_27 : decode b_I_leastExcluding 27 = .ok (.if_icmp .ge 20, 3) := by decide +kernel
theorem d_I_leastExcluding_30 : decode b_I_leastExcluding 30 = .ok (.iload_n 2, 1) := by decide +kernel
theorem d_I_leastExcluding_31 : decode b_I_leastExcluding 31 = .ok (.iload_n 3, 1) := by decide +kernel
theorem d_I_leastExcluding_32 : decode b_I_leastExcluding 32 = .ok (.ishr, 1) := by decide +kernel
theorem d_I_leastExcluding_33 : decode b_I_leastExcluding 33 = .ok (.iconst 1, 1) := by decide +kernel
theorem d_I_leastExcluding_34 : decode b_I_leastExcluding 34 = .ok (.iand, 1) := by decide +kernel
theorem d_I_leastExcluding_35 : decode b_I_leastExcluding 35 = .ok (.iconst 1, 1) := by decide +kernel
theorem d_I_leastExcluding_36 : decode b_I_leastExcluding 36 = .ok (.if_icmp .ne 5, 3) := by decide +kernel
theorem d_I_leastExcluding_39 : decode b_I_leastExcluding 39 = .ok (.iload_n 3, 1) := by decide +kernel
theorem d_I_leastExcluding_40 : decode b_I_leastExcluding 40 = .ok (.ireturn, 1) := by decide +kernel
theorem d_I_leastExcluding_41 : decode b_I_leastExcluding 41 = .ok (.iinc 3 1, 3) := by decide +kernel
theorem d_I_leastExcluding_44 : decode b_I_leastExcluding 44 = .ok (.goto (-20), 3) := by decide +kernel
theorem d_I_leastExcluding_47 : decode b_I_leastExcluding 47 = .ok (.iconst (-1), 1) := by decide +kernel
theorem d_I_leastExcluding_48 : decode b_I_leastExcluding 48 = .ok (.ireturn, 1) := by decide +kernel
theorem d_I_lacksWhatIsWanted_0 : decode b_I_lacksWhatIsWanted 0 = .ok (.iload_n 1, 1) := by decide +kernel
theorem d_I_lacksWhatIsWanted_1 : decode b_I_lacksWhatIsWanted 1 = .ok (.tableswitch 84 1 5 #[35, 84, 35, 49, 70], 35) := by decide +kernel
theorem d_I_lacksWhatIsWanted_36 : decode b_I_lacksWhatIsWanted 36 = .ok (.aload_n 0, 1) := by decide +kernel
theorem d_I_lacksWhatIsWanted_37 : decode b_I_lacksWhatIsWanted 37 = .ok (.iconst 0, 1) := by decide +kernel
theorem d_I_lacksWhatIsWanted_38 : decode b_I_lacksWhatIsWanted 38 = .ok (.invokevirtual 72, 3) := by decide +kernel
theorem d_I_lacksWhatIsWanted_41 : decode b_I_lacksWhatIsWanted 41 = .ok (.ifCond .ne 7, 3) := by decide +kernel
theorem d_I_lacksWhatIsWanted_44 : decode b_I_lacksWhatIsWanted 44 = .ok (.iconst 1, 1) := by decide +kernel
theorem d_I_lacksWhatIsWanted_45 : decode b_I_lacksWhatIsWanted 45 = .ok (.goto 4, 3) := by decide +kernel
theorem d_I_lacksWhatIsWanted_48 : decode b_I_lacksWhatIsWanted 48 = .ok (.iconst 0, 1) := by decide +kernel
theorem d_I_lacksWhatIsWanted_49 : decode b_I_lacksWhatIsWanted 49 = .ok (.ireturn, 1) := by decide +kernel
theorem d_I_lacksWhatIsWanted_50 : decode b_I_lacksWhatIsWanted 50 = .ok (.aload_n 0, 1) := by decide +kernel
theorem d_I_lacksWhatIsWanted_51 : decode b_I_lacksWhatIsWanted 51 = .ok (.iconst 0, 1) := by decide +kernel
theorem d_I_lacksWhatIsWanted_52 : decode b_I_lacksWhatIsWanted 52 = .ok (.invokevirtual 72, 3) := by decide +kernel
theorem d_I_lacksWhatIsWanted_55 : decode b_I_lacksWhatIsWanted 55 = .ok (.ifCond .eq 10, 3) := by decide +kernel
theorem d_I_lacksWhatIsWanted_58 : decode b_I_lacksWhatIsWanted 58 = .ok (.aload_n 0, 1) := by decide +kernel
theorem d_I_lacksWhatIsWanted_59 : decode b_I_lacksWhatIsWanted 59 = .ok (.getfield 9, 3) := by decide +kernel
theorem d_I_lacksWhatIsWanted_62 : decode b_I_lacksWhatIsWanted 62 = .ok (.ifCond .ne 7, 3) := by decide +kernel
theorem d_I_lacksWhatIsWanted_65 : decode b_I_lacksWhatIsWanted 65 = .ok (.iconst 1, 1) := by decide +kernel
theorem d_I_lacksWhatIsWanted_66 : decode b_I_lacksWhatIsWanted 66 = .ok (.goto 4, 3) := by decide +kernel
theorem d_I_lacksWhatIsWanted_69 : decode b_I_lacksWhatIsWanted 69 = .ok (.iconst 0, 1) := by decide +kernel
theorem d_I_lacksWhatIsWanted_70 : decode b_I_lacksWhatIsWanted 70 = .ok (.ireturn, 1) := by decide +kernel
theorem d_I_lacksWhatIsWanted_71 : decode b_I_lacksWhatIsWanted 71 = .ok (.aload_n 0, 1) := by decide +kernel
theorem d_I_lacksWhatIsWanted_72 : decode b_I_lacksWhatIsWanted 72 = .ok (.getfield 9, 3) := by decide +kernel
theorem d_I_lacksWhatIsWanted_75 : decode b_I_lacksWhatIsWanted 75 = .ok (.iconst 2, 1) := by decide +kernel
theorem d_I_lacksWhatIsWanted_76 : decode b_I_lacksWhatIsWanted 76 = .ok (.if_icmp .ge 7, 3) := by decide +kernel
theorem d_I_lacksWhatIsWanted_79 : decode b_I_lacksWhatIsWanted 79 = .ok (.iconst 1, 1) := by decide +kernel
theorem d_I_lacksWhatIsWanted_80 : decode b_I_lacksWhatIsWanted 80 = .ok (.goto 4, 3) := by decide +kernel
theorem d_I_lacksWhatIsWanted_83 : decode b_I_lacksWhatIsWanted 83 = .ok (.iconst 0, 1) := by decide +kernel
theorem d_I_lacksWhatIsWanted_84 : decode b_I_lacksWhatIsWanted 84 = .ok (.ireturn, 1) := by decide +kernel
theorem d_I_lacksWhatIsWanted_85 : decode b_I_lacksWhatIsWanted 85 = .ok (.iconst 0, 1) := by decide +kernel
theorem d_I_lacksWhatIsWanted_86 : decode b_I_lacksWhatIsWanted 86 = .ok (.ireturn, 1) := by decide +kernel
theorem d_I_stateBehind_0 : decode b_I_stateBehind 0 = .ok (.aload_n 0, 1) := by decide +kernel
theorem d_I_stateBehind_1 : decode b_I_stateBehind 1 = .ok (.getfield 30, 3) := by decide +kernel
theorem d_I_stateBehind_4 : decode b_I_stateBehind 4 = .ok (.ifCond .eq 29, 3) := by decide +kernel
theorem d_I_stateBehind_7 : decode b_I_stateBehind 7 = .ok (.iload_n 1, 1) := by decide +kernel
theorem d_I_stateBehind_8 : decode b_I_stateBehind 8 = .ok (.bipush 8, 2) := by decide +kernel
theorem d_I_stateBehind_10 : decode b_I_stateBehind 10 = .ok (.if_icmp .ne 10, 3) := by decide +kernel
theorem d_I_stateBehind_13 : decode b_I_stateBehind 13 = .ok (.aload_n 0, 1) := by decide +kernel
theorem d_I_stateBehind_14 : decode b_I_stateBehind 14 = .ok (.getfield 27, 3) := by decide +kernel
theorem d_I_stateBehind_17 : decode b_I_stateBehind 17 = .ok (.goto 15, 3) := by decide +kernel
theorem d_I_stateBehind_20 : decode b_I_stateBehind 20 = .ok (.iload_n 1, 1) := by decide +kernel
theorem d_I_stateBehind_21 : decode b_I_stateBehind 21 = .ok (.bipush 10, 2) := by decide +kernel
theorem d_I_stateBehind_23 : decode b_I_stateBehind 23 = .ok (.if_icmp .ne 8, 3) := by decide +kernel
theorem d_I_stateBehind_26 : decode b_I_stateBehind 26 = .ok (.bipush 9, 2) := by decide +kernel
theorem d_I_stateBehind_28 : decode b_I_stateBehind 28 = .ok (.goto 4, 3) := by decide +kernel
theorem d_I_stateBehind_31 : decode b_I_stateBehind 31 = .ok (.iconst (-1), 1) := by decide +kernel
theorem d_I_stateBehind_32 : decode b_I_stateBehind 32 = .ok (.ireturn, 1) := by decide +kernel
theorem d_I_stateBehind_33 : decode b_I_stateBehind 33 = .ok (.iload_n 1, 1) := by decide +kernel
theorem d_I_stateBehind_34 : decode b_I_stateBehind 34 = .ok (.tableswitch 237 0 10 #[58, 71, 105, 119, 142, 165, 180, 204, 237, 209, 234], 58) := by decide +kernel
theorem d_I_stateBehind_92 : decode b_I_stateBehind 92 = .ok (.aload_n 0, 1) := by decide +kernel
theorem d_I_stateBehind_93 : decode b_I_stateBehind 93 = .ok (.getfield 27, 3) := by decide +kernel
theorem d_I_stateBehind_96 : decode b_I_stateBehind 96 = .ok (.ifCond .ne 7, 3) := by decide +kernel
theorem d_I_stateBehind_99 : decode b_I_stateBehind 99 = .ok (.iconst 1, 1) := by decide +kernel
theorem d_I_stateBehind_100 : decode b_I_stateBehind 100 = .ok (.goto 4, 3) := by decide +kernel
theorem d_I_stateBehind_103 : decode b_I_stateBehind 103 = .ok (.iconst (-1), 1) := by decide +kernel
theorem d_I_stateBehind_104 : decode b_I_stateBehind 104 = .ok (.ireturn, 1) := by decide +kernel
theorem d_I_stateBehind_105 : decode b_I_stateBehind 105 = .ok (.aload_n 0, 1) := by decide +kernel
theorem d_I_stateBehind_106 : decode b_I_stateBehind 106 = .ok (.getfield 27, 3) := by decide +kernel
theorem d_I_stateBehind_109 : decode b_I_stateBehind 109 = .ok (.bipush 7, 2) := by decide +kernel
theorem d_I_stateBehind_111 : decode b_I_stateBehind 111 = .ok (.if_icmp .ne 6, 3) := by decide +kernel
theorem d_I_stateBehind_114 : decode b_I_stateBehind 114 = .ok (.bipush 7, 2) := by decide +kernel
theorem d_I_stateBehind_116 : decode b_I_stateBehind 116 = .ok (.ireturn, 1) := by decide +kernel
theorem d_I_stateBehind_117 : decode b_I_stateBehind 117 = .ok (.aload_n 0, 1) := by decide +kernel
theorem d_I_stateBehind_118 : decode b_I_stateBehind 118 = .ok (.getfield 27, 3) := by decide +kernel
theorem d_I_stateBehind_121 : decode b_I_stateBehind 121 = .ok (.iconst 1, 1) := by decide +kernel
theorem d_I_stateBehind_122 : decode b_I_stateBehind 122 = .ok (.if_icmp .eq 11, 3) := by decide +kernel
theorem d_I_stateBehind_125 : decode b_I_stateBehind 125 = .ok (.aload_n 0, 1) := by decide +kernel
theorem d_I_stateBehind_126 : decode b_I_stateBehind 126 = .ok (.getfield 27, 3) := by decide +kernel
theorem d_I_stateBehind_129 : decode b_I_stateBehind 129 = .ok (.iconst 3, 1) := by decide +kernel
theorem d_I_stateBehind_130 : decode b_I_stateBehind 130 = .ok (.if_icmp .ne 7, 3) := by decide +kernel
theorem d_I_stateBehind_133 : decode b_I_stateBehind 133 = .ok (.iconst 2, 1) := by decide +kernel
theorem d_I_stateBehind_134 : decode b_I_stateBehind 134 = .ok (.goto 4, 3) := by decide +kernel
theorem d_I_stateBehind_137 : decode b_I_stateBehind 137 = .ok (.iconst (-1), 1) := by decide +kernel
theorem d_I_stateBehind_138 : decode b_I_stateBehind 138 = .ok (.ireturn, 1) := by decide +kernel
theorem d_I_stateBehind_139 : decode b_I_stateBehind 139 = .ok (.aload_n 0, 1) := by decide +kernel
theorem d_I_stateBehind_140 : decode b_I_stateBehind 140 = .ok (.getfield 27, 3) := by decide +kernel
theorem d_I_stateBehind_143 : decode b_I_stateBehind 143 = .ok (.iconst 2, 1) := by decide +kernel
theorem d_I_stateBehind_144 : decode b_I_stateBehind 144 = .ok (.if_icmp .ne 7, 3) := by decide +kernel
theorem d_I_stateBehind_147 : decode b_I_stateBehind 147 = .ok (.iconst 3, 1) := by decide +kernel
theorem d_I_stateBehind_148 : decode b_I_stateBehind 148 = .ok (.goto 4, 3) := by decide +kernel
theorem d_I_stateBehind_151 : decode b_I_stateBehind 151 = .ok (.iconst (-1), 1) := by decide +kernel
theorem d_I_stateBehind_152 : decode b_I_stateBehind 152 = .ok (.ireturn, 1) := by decide +kernel
theorem d_I_stateBehind_153 : decode b_I_stateBehind 153 = .ok (.aload_n 0, 1) := by decide +kernel
theorem d_I_stateBehind_154 : decode b_I_stateBehind 154 = .ok (.getfield 27, 3) := by decide +kernel
theorem d_I_stateBehind_157 : decode b_I_stateBehind 157 = .ok (.iconst 3, 1) := by decide +kernel
theorem d_I_stateBehind_158 : decode b_I_stateBehind 158 = .ok (.if_icmp .eq 12, 3) := by decide +kernel
theorem d_I_stateBehind_161 : decode b_I_stateBehind 161 = .ok (.aload_n 0, 1) := by decide +kernel
theorem d_I_stateBehind_162 : decode b_I_stateBehind 162 = .ok (.getfield 27, 3) := by decide +kernel
theorem d_I_stateBehind_165 : decode b_I_stateBehind 165 = .ok (.bipush 6, 2) := by decide +kernel
theorem d_I_stateBehind_167 : decode b_I_stateBehind 167 = .ok (.if_icmp .ne 7, 3) := by decide +kernel
theorem d_I_stateBehind_170 : decode b_I_stateBehind 170 = .ok (.iconst 4, 1) := by decide +kernel
theorem d_I_stateBehind_171 : decode b_I_stateBehind 171 = .ok (.goto 4, 3) := by decide +kernel
theorem d_I_stateBehind_174 : decode b_I_stateBehind 174 = .ok (.iconst (-1), 1) := by decide +kernel
theorem d_I_stateBehind_175 : decode b_I_stateBehind 175 = .ok (.ireturn, 1) := by decide +kernel
theorem d_I_stateBehind_176 : decode b_I_stateBehind 176 = .ok (.aload_n 0, 1) := by decide +kernel
theorem d_I_stateBehind_177 : decode b_I_stateBehind 177 = .ok (.getfield 27, 3) := by decide +kernel
theorem d_I_stateBehind_180 : decode b_I_stateBehind 180 = .ok (.iconst 4, 1) := by decide +kernel
theorem d_I_stateBehind_181 : decode b_I_stateBehind 181 = .ok (.if_icmp .eq 12, 3) := by decide +kernel
theorem d_I_stateBehind_184 : decode b_I_stateBehind 184 = .ok (.aload_n 0, 1) := by decide +kernel
theorem d_I_stateBehind_185 : decode b_I_stateBehind 185 = .ok (.getfield 27, 3) := by decide +kernel
theorem d_I_stateBehind_188 : decode b_I_stateBehind 188 = .ok (.bipush 7, 2) := by decide +kernel
theorem d_I_stateBehind_190 : decode b_I_stateBehind 190 = .ok (.if_icmp .ne 7, 3) := by decide +kernel
theorem d_I_stateBehind_193 : decode b_I_stateBehind 193 = .ok (.iconst 5, 1) := by decide +kernel
theorem d_I_stateBehind_194 : decode b_I_stateBehind 194 = .ok (.goto 4, 3) := by decide +kernel
theorem d_I_stateBehind_197 : decode b_I_stateBehind 197 = .ok (.iconst (-1), 1) := by decide +kernel
theorem d_I_stateBehind_198 : decode b_I_stateBehind 198 = .ok (.ireturn, 1) := by decide +kernel
theorem d_I_stateBehind_199 : decode b_I_stateBehind 199 = .ok (.aload_n 0, 1) := by decide +kernel
theorem d_I_stateBehind_200 : decode b_I_stateBehind 200 = .ok (.getfield 27, 3) := by decide +kernel
theorem d_I_stateBehind_203 : decode b_I_stateBehind 203 = .ok (.iconst 4, 1) := by decide +kernel
theorem d_I_stateBehind_204 : decode b_I_stateBehind 204 = .ok (.if_icmp .ne 8, 3) := by decide +kernel
theorem d_I_stateBehind_207 : decode b_I_stateBehind 207 = .ok (.bipush 6, 2) := by decide +kernel
theorem d_I_stateBehind_209 : decode b_I_stateBehind 209 = .ok (.goto 4, 3) := by decide +kernel
theorem d_I_stateBehind_212 : decode b_I_stateBehind 212 = .ok (.iconst (-1), 1) := by decide +kernel
theorem d_I_stateBehind_213 : decode b_I_stateBehind 213 = .ok (.ireturn, 1) := by decide +kernel
theorem d_I_stateBehind_214 : decode b_I_stateBehind 214 = .ok (.aload_n 0, 1) := by decide +kernel
theorem d_I_stateBehind_215 : decode b_I_stateBehind 215 = .ok (.getfield 27, 3) := by decide +kernel
theorem d_I_stateBehind_218 : decode b_I_stateBehind 218 = .ok (.iconst 4, 1) := by decide +kernel
theorem d_I_stateBehind_219 : decode b_I_stateBehind 219 = .ok (.if_icmp .eq 12, 3) := by decide +kernel
theorem d_I_stateBehind_222 : decode b_I_stateBehind 222 = .ok (.aload_n 0, 1) := by decide +kernel
theorem d_I_stateBehind_223 : decode b_I_stateBehind 223 = .ok (.getfield 27, 3) := by decide +kernel
theorem d_I_stateBehind_226 : decode b_I_stateBehind 226 = .ok (.bipush 6, 2) := by decide +kernel
theorem d_I_stateBehind_228 : decode b_I_stateBehind 228 = .ok (.if_icmp .ne 8, 3) := by decide +kernel
theorem d_I_stateBehind_231 : decode b_I_stateBehind 231 = .ok (.bipush 7, 2) := by decide +kernel
theorem d_I_stateBehind_233 : decode b_I_stateBehind 233 = .ok (.goto 4, 3) := by decide +kernel
theorem d_I_stateBehind_236 : decode b_I_stateBehind 236 = .ok (.iconst (-1), 1) := by decide +kernel
theorem d_I_stateBehind_237 : decode b_I_stateBehind 237 = .ok (.ireturn, 1) := by decide +kernel
theorem d_I_stateBehind_238 : decode b_I_stateBehind 238 = .ok (.aload_n 0, 1) := by decide +kernel
theorem d_I_stateBehind_239 : decode b_I_stateBehind 239 = .ok (.getfield 27, 3) := by decide +kernel
theorem d_I_stateBehind_242 : decode b_I_stateBehind 242 = .ok (.ireturn, 1) := by decide +kernel
theorem d_I_stateBehind_243 : decode b_I_stateBehind 243 = .ok (.aload_n 0, 1) := by decide +kernel
theorem d_I_stateBehind_244 : decode b_I_stateBehind 244 = .ok (.getfield 27, 3) := by decide +kernel
theorem d_I_stateBehind_247 : decode b_I_stateBehind 247 = .ok (.bipush 7, 2) := by decide +kernel
theorem d_I_stateBehind_249 : decode b_I_stateBehind 249 = .ok (.if_icmp .eq 12, 3) := by decide +kernel
theorem d_I_stateBehind_252 : decode b_I_stateBehind 252 = .ok (.aload_n 0, 1) := by decide +kernel
theorem d_I_stateBehind_253 : decode b_I_stateBehind 253 = .ok (.getfield 27, 3) := by decide +kernel
theorem d_I_stateBehind_256 : decode b_I_stateBehind 256 = .ok (.bipush 6, 2) := by decide +kernel
theorem d_I_stateBehind_258 : decode b_I_stateBehind 258 = .ok (.if_icmp .ne 8, 3) := by decide +kernel
theorem d_I_stateBehind_261 : decode b_I_stateBehind 261 = .ok (.bipush 8, 2) := by decide +kernel
theorem d_I_stateBehind_263 : decode b_I_stateBehind 263 = .ok (.goto 4, 3) := by decide +kernel
theorem d_I_stateBehind_266 : decode b_I_stateBehind 266 = .ok (.iconst (-1), 1) := by decide +kernel
theorem d_I_stateBehind_267 : decode b_I_stateBehind 267 = .ok (.ireturn, 1) := by decide +kernel
theorem d_I_stateBehind_268 : decode b_I_stateBehind 268 = .ok (.bipush 9, 2) := by decide +kernel
theorem d_I_stateBehind_270 : decode b_I_stateBehind 270 = .ok (.ireturn, 1) := by decide +kernel
theorem d_I_stateBehind_271 : decode b_I_stateBehind 271 = .ok (.iconst (-1), 1) := by decide +kernel
theorem d_I_stateBehind_272 : decode b_I_stateBehind 272 = .ok (.ireturn, 1) := by decide +kernel
theorem d_I_undergo_0 : decode b_I_undergo 0 = .ok (.aload_n 0, 1) := by decide +kernel
theorem d_I_undergo_1 : decode b_I_undergo 1 = .ok (.iload_n 2, 1) := by decide +kernel
theorem d_I_undergo_2 : decode b_I_undergo 2 = .ok (.putfield 27, 3) := by decide +kernel
theorem d_I_undergo_5 : decode b_I_undergo 5 = .ok (.iload_n 1, 1) := by decide +kernel
theorem d_I_undergo_6 : decode b_I_undergo 6 = .ok (.bipush 7, 2) := by decide +kernel
theorem d_I_undergo_8 : decode b_I_undergo 8 = .ok (.if_icmp .ne 11, 3) := by decide +kernel
theorem d_I_undergo_11 : decode b_I_undergo 11 = .ok (.aload_n 0, 1) := by decide +kernel
theorem d_I_undergo_12 : decode b_I_undergo 12 = .ok (.iconst 1, 1) := by decide +kernel
theorem d_I_undergo_13 : decode b_I_undergo 13 = .ok (.putfield 30, 3) := by decide +kernel
theorem d_I_undergo_16 : decode b_I_undergo 16 = .ok (.goto 14, 3) := by decide +kernel
theorem d_I_undergo_19 : decode b_I_undergo 19 = .ok (.iload_n 1, 1) := by decide +kernel
theorem d_I_undergo_20 : decode b_I_undergo 20 = .ok (.bipush 8, 2) := by decide +kernel
theorem d_I_undergo_22 : decode b_I_undergo 22 = .ok (.if_icmp .ne 8, 3) := by decide +kernel
theorem d_I_undergo_25 : decode b_I_undergo 25 = .ok (.aload_n 0, 1) := by decide +kernel
theorem d_I_undergo_26 : decode b_I_undergo 26 = .ok (.iconst 0, 1) := by decide +kernel
theorem d_I_undergo_27 : decode b_I_undergo 27 = .ok (.putfield 30, 3) := by decide +kernel
theorem d_I_undergo_30 : decode b_I_undergo 30 = .ok (.return_, 1) := by decide +kernel
theorem d_I_correctable_0 : decode b_I_correctable 0 = .ok (.iload_n 1, 1) := by decide +kernel
theorem d_I_correctable_1 : decode b_I_correctable 1 = .ok (.tableswitch 60 0 4 #[35, 40, 45, 50, 55], 35) := by decide +kernel
theorem d_I_correctable_36 : decode b_I_correctable 36 = .ok (.aload_n 0, 1) := by decide +kernel
theorem d_I_correctable_37 : decode b_I_correctable 37 = .ok (.getfield 9, 3) := by decide +kernel
theorem d_I_correctable_40 : decode b_I_correctable 40 = .ok (.ireturn, 1) := by decide +kernel
theorem d_I_correctable_41 : decode b_I_correctable 41 = .ok (.aload_n 0, 1) := by decide +kernel
theorem d_I_correctable_42 : decode b_I_correctable 42 = .ok (.getfield 15, 3) := by decide +kernel
theorem d_I_correctable_45 : decode b_I_correctable 45 = .ok (.ireturn, 1) := by decide +kernel
theorem d_I_correctable_46 : decode b_I_correctable 46 = .ok (.aload_n 0, 1) := by decide +kernel
theorem d_I_correctable_47 : decode b_I_correctable 47 = .ok (.getfield 18, 3) := by decide +kernel
theorem d_I_correctable_50 : decode b_I_correctable 50 = .ok (.ireturn, 1) := by decide +kernel
theorem d_I_correctable_51 : decode b_I_correctable 51 = .ok (.aload_n 0, 1) := by decide +kernel
theorem d_I_correctable_52 : decode b_I_correctable 52 = .ok (.getfield 34, 3) := by decide +kernel
theorem d_I_correctable_55 : decode b_I_correctable 55 = .ok (.ireturn, 1) := by decide +kernel
theorem d_I_correctable_56 : decode b_I_correctable 56 = .ok (.aload_n 0, 1) := by decide +kernel
theorem d_I_correctable_57 : decode b_I_correctable 57 = .ok (.getfield 37, 3) := by decide +kernel
theorem d_I_correctable_60 : decode b_I_correctable 60 = .ok (.ireturn, 1) := by decide +kernel
theorem d_I_correctable_61 : decode b_I_correctable 61 = .ok (.iconst (-1), 1) := by decide +kernel
theorem d_I_correctable_62 : decode b_I_correctable 62 = .ok (.ireturn, 1) := by decide +kernel
theorem d_I_wouldStay_0 : decode b_I_wouldStay 0 = .ok (.iload_n 1, 1) := by decide +kernel
theorem d_I_wouldStay_1 : decode b_I_wouldStay 1 = .ok (.ifCond .ne 37, 3) := by decide +kernel
theorem d_I_wouldStay_4 : decode b_I_wouldStay 4 = .ok (.iload_n 2, 1) := by decide +kernel
theorem d_I_wouldStay_5 : decode b_I_wouldStay 5 = .ok (.iconst 0, 1) := by decide +kernel
theorem d_I_wouldStay_6 : decode b_I_wouldStay 6 = .ok (.iconst 3, 1) := by decide +kernel
theorem d_I_wouldStay_7 : decode b_I_wouldStay 7 = .ok (.invokestatic 65, 3) := by decide +kernel
theorem d_I_wouldStay_10 : decode b_I_wouldStay 10 = .ok (.ifCond .eq 26, 3) := by decide +kernel
theorem d_I_wouldStay_13 : decode b_I_wouldStay 13 = .ok (.iload_n 2, 1) := by decide +kernel
theorem d_I_wouldStay_14 : decode b_I_wouldStay 14 = .ok (.aload_n 0, 1) := by decide +kernel
theorem d_I_wouldStay_15 : decode b_I_wouldStay 15 = .ok (.getfield 15, 3) := by decide +kernel
theorem d_I_wouldStay_18 : decode b_I_wouldStay 18 = .ok (.aload_n 0, 1) := by decide +kernel
theorem d_I_wouldStay_19 : decode b_I_wouldStay 19 = .ok (.getfield 18, 3) := by decide +kernel
theorem d_I_wouldStay_22 : decode b_I_wouldStay 22 = .ok (.invokestatic 76, 3) := by decide +kernel
theorem d_I_wouldStay_25 : decode b_I_wouldStay 25 = .ok (.aload_n 0, 1) := by decide +kernel
theorem d_I_wouldStay_26 : decode b_I_wouldStay 26 = .ok (.getfield 9, 3) := by decide +kernel
theorem d_I_wouldStay_29 : decode b_I_wouldStay 29 = .ok (.if_icmp .ne 7, 3) := by decide +kernel
theorem d_I_wouldStay_32 : decode b_I_wouldStay 32 = .ok (.iconst 1, 1) := by decide +kernel
theorem d_I_wouldStay_33 : decode b_I_wouldStay 33 = .ok (.goto 4, 3) := by decide +kernel
theorem d_I_wouldStay_36 : decode b_I_wouldStay 36 = .ok (.iconst 0, 1) := by decide +kernel
theorem d_I_wouldStay_37 : decode b_I_wouldStay 37 = .ok (.ireturn, 1) := by decide +kernel
theorem d_I_wouldStay_38 : decode b_I_wouldStay 38 = .ok (.aload_n 0, 1) := by decide +kernel
theorem d_I_wouldStay_39 : decode b_I_wouldStay 39 = .ok (.iload_n 1, 1) := by decide +kernel
theorem d_I_wouldStay_40 : decode b_I_wouldStay 40 = .ok (.invokevirtual 80, 3) := by decide +kernel
theorem d_I_wouldStay_43 : decode b_I_wouldStay 43 = .ok (.iload_n 2, 1) := by decide +kernel
theorem d_I_wouldStay_44 : decode b_I_wouldStay 44 = .ok (.if_icmp .ne 7, 3) := by decide +kernel
theorem d_I_wouldStay_47 : decode b_I_wouldStay 47 = .ok (.iconst 1, 1) := by decide +kernel
theorem d_I_wouldStay_48 : decode b_I_wouldStay 48 = .ok (.goto 4, 3) := by decide +kernel
theorem d_I_wouldStay_51 : decode b_I_wouldStay 51 = .ok (.iconst 0, 1) := by decide +kernel
theorem d_I_wouldStay_52 : decode b_I_wouldStay 52 = .ok (.ireturn, 1) := by decide +kernel
theorem d_I_become_0 : decode b_I_become 0 = .ok (.iload_n 1, 1) := by decide +kernel
theorem d_I_become_1 : decode b_I_become 1 = .ok (.tableswitch 75 0 4 #[35, 43, 51, 59, 67], 35) := by decide +kernel
theorem d_I_become_36 : decode b_I_become 36 = .ok (.aload_n 0, 1) := by decide +kernel
theorem d_I_become_37 : decode b_I_become 37 = .ok (.iload_n 2, 1) := by decide +kernel
theorem d_I_become_38 : decode b_I_become 38 = .ok (.putfield 9, 3) := by decide +kernel
theorem d_I_become_41 : decode b_I_become 41 = .ok (.goto 35, 3) := by decide +kernel
theorem d_I_become_44 : decode b_I_become 44 = .ok (.aload_n 0, 1) := by decide +kernel
theorem d_I_become_45 : decode b_I_become 45 = .ok (.iload_n 2, 1) := by decide +kernel
theorem d_I_become_46 : decode b_I_become 46 = .ok (.putfield 15, 3) := by decide +kernel
theorem d_I_become_49 : decode b_I_become 49 = .ok (.goto 27, 3) := by decide +kernel
theorem d_I_become_52 : decode b_I_become 52 = .ok (.aload_n 0, 1) := by decide +kernel
theorem d_I_become_53 : decode b_I_become 53 = .ok (.iload_n 2, 1) := by decide +kernel
theorem d_I_become_54 : decode b_I_become 54 = .ok (.putfield 18, 3) := by decide +kernel
theorem d_I_become_57 : decode b_I_become 57 = .ok (.goto 19, 3) := by decide +kernel
theorem d_I_become_60 : decode b_I_become 60 = .ok (.aload_n 0, 1) := by decide +kernel
theorem d_I_become_61 : decode b_I_become 61 = .ok (.iload_n 2, 1) := by decide +kernel
theorem d_I_become_62 : decode b_I_become 62 = .ok (.putfield 34, 3) := by decide +kernel
theorem d_I_become_65 : decode b_I_become 65 = .ok (.goto 11, 3) := by decide +kernel
theorem d_I_become_68 : decode b_I_become 68 = .ok (.aload_n 0, 1) := by decide +kernel
theorem d_I_become_69 : decode b_I_become 69 = .ok (.iload_n 2, 1) := by decide +kernel
theorem d_I_become_70 : decode b_I_become 70 = .ok (.putfield 37, 3) := by decide +kernel
theorem d_I_become_73 : decode b_I_become 73 = .ok (.goto 3, 3) := by decide +kernel
theorem d_I_become_76 : decode b_I_become 76 = .ok (.aload_n 0, 1) := by decide +kernel
theorem d_I_become_77 : decode b_I_become 77 = .ok (.aload_n 0, 1) := by decide +kernel
theorem d_I_become_78 : decode b_I_become 78 = .ok (.getfield 9, 3) := by decide +kernel
theorem d_I_become_81 : decode b_I_become 81 = .ok (.aload_n 0, 1) := by decide +kernel
theorem d_I_become_82 : decode b_I_become 82 = .ok (.getfield 15, 3) := by decide +kernel
theorem d_I_become_85 : decode b_I_become 85 = .ok (.aload_n 0, 1) := by decide +kernel
theorem d_I_become_86 : decode b_I_become 86 = .ok (.getfield 18, 3) := by decide +kernel
theorem d_I_become_89 : decode b_I_become 89 = .ok (.invokestatic 76, 3) := by decide +kernel
theorem d_I_become_92 : decode b_I_become 92 = .ok (.putfield 9, 3) := by decide +kernel
theorem d_I_become_95 : decode b_I_become 95 = .ok (.return_, 1) := by decide +kernel
theorem d_I_fact_0 : decode b_I_fact 0 = .ok (.iload_n 1, 1) := by decide +kernel
theorem d_I_fact_1 : decode b_I_fact 1 = .ok (.tableswitch 149 0 13 #[71, 76, 81, 86, 91, 96, 101, 106, 111, 116, 121, 126, 139, 144], 71) := by decide +kernel
theorem d_I_fact_72 : decode b_I_fact 72 = .ok (.aload_n 0, 1) := by decide +kernel
theorem d_I_fact_73 : decode b_I_fact 73 = .ok (.getfield 27, 3) := by decide +kernel
theorem d_I_fact_76 : decode b_I_fact 76 = .ok (.ireturn, 1) := by decide +kernel
theorem d_I_fact_77 : decode b_I_fact 77 = .ok (.aload_n 0, 1) := by decide +kernel
theorem d_I_fact_78 : decode b_I_fact 78 = .ok (.getfield 9, 3) := by decide +kernel
theorem d_I_fact_81 : decode b_I_fact 81 = .ok (.ireturn, 1) := by decide +kernel
theorem d_I_fact_82 : decode b_I_fact 82 = .ok (.aload_n 0, 1) := by decide +kernel
theorem d_I_fact_83 : decode b_I_fact 83 = .ok (.getfield 15, 3) := by decide +kernel
theorem d_I_fact_86 : decode b_I_fact 86 = .ok (.ireturn, 1) := by decide +kernel
theorem d_I_fact_87 : decode b_I_fact 87 = .ok (.aload_n 0, 1) := by decide +kernel
theorem d_I_fact_88 : decode b_I_fact 88 = .ok (.getfield 18, 3) := by decide +kernel
theorem d_I_fact_91 : decode b_I_fact 91 = .ok (.ireturn, 1) := by decide +kernel
theorem d_I_fact_92 : decode b_I_fact 92 = .ok (.aload_n 0, 1) := by decide +kernel
theorem d_I_fact_93 : decode b_I_fact 93 = .ok (.getfield 24, 3) := by decide +kernel
theorem d_I_fact_96 : decode b_I_fact 96 = .ok (.ireturn, 1) := by decide +kernel
theorem d_I_fact_97 : decode b_I_fact 97 = .ok (.aload_n 0, 1) := by decide +kernel
theorem d_I_fact_98 : decode b_I_fact 98 = .ok (.getfield 34, 3) := by decide +kernel
theorem d_I_fact_101 : decode b_I_fact 101 = .ok (.ireturn, 1) := by decide +kernel
theorem d_I_fact_102 : decode b_I_fact 102 = .ok (.aload_n 0, 1) := by decide +kernel
theorem d_I_fact_103 : decode b_I_fact 103 = .ok (.getfield 37, 3) := by decide +kernel
theorem d_I_fact_106 : decode b_I_fact 106 = .ok (.ireturn, 1) := by decide +kernel
theorem d_I_fact_107 : decode b_I_fact 107 = .ok (.aload_n 0, 1) := by decide +kernel
theorem d_I_fact_108 : decode b_I_fact 108 = .ok (.getfield 40, 3) := by decide +kernel
theorem d_I_fact_111 : decode b_I_fact 111 = .ok (.ireturn, 1) := by decide +kernel
theorem d_I_fact_112 : decode b_I_fact 112 = .ok (.aload_n 0, 1) := by decide +kernel
theorem d_I_fact_113 : decode b_I_fact 113 = .ok (.getfield 43, 3) := by decide +kernel
theorem d_I_fact_116 : decode b_I_fact 116 = .ok (.ireturn, 1) := by decide +kernel
theorem d_I_fact_117 : decode b_I_fact 117 = .ok (.aload_n 0, 1) := by decide +kernel
theorem d_I_fact_118 : decode b_I_fact 118 = .ok (.getfield 46, 3) := by decide +kernel
theorem d_I_fact_121 : decode b_I_fact 121 = .ok (.ireturn, 1) := by decide +kernel
theorem d_I_fact_122 : decode b_I_fact 122 = .ok (.aload_n 0, 1) := by decide +kernel
theorem d_I_fact_123 : decode b_I_fact 123 = .ok (.getfield 49, 3) := by decide +kernel
theorem d_I_fact_126 : decode b_I_fact 126 = .ok (.ireturn, 1) := by decide +kernel
theorem d_I_fact_127 : decode b_I_fact 127 = .ok (.aload_n 0, 1) := by decide +kernel
theorem d_I_fact_128 : decode b_I_fact 128 = .ok (.getfield 30, 3) := by decide +kernel
theorem d_I_fact_131 : decode b_I_fact 131 = .ok (.ifCond .eq 7, 3) := by decide +kernel
theorem d_I_fact_134 : decode b_I_fact 134 = .ok (.iconst 1, 1) := by decide +kernel
theorem d_I_fact_135 : decode b_I_fact 135 = .ok (.goto 4, 3) := by decide +kernel
theorem d_I_fact_138 : decode b_I_fact 138 = .ok (.iconst 0, 1) := by decide +kernel
theorem d_I_fact_139 : decode b_I_fact 139 = .ok (.ireturn, 1) := by decide +kernel
theorem d_I_fact_140 : decode b_I_fact 140 = .ok (.aload_n 0, 1) := by decide +kernel
theorem d_I_fact_141 : decode b_I_fact 141 = .ok (.getfield 21, 3) := by decide +kernel
theorem d_I_fact_144 : decode b_I_fact 144 = .ok (.ireturn, 1) := by decide +kernel
theorem d_I_fact_145 : decode b_I_fact 145 = .ok (.aload_n 0, 1) := by decide +kernel
theorem d_I_fact_146 : decode b_I_fact 146 = .ok (.getfield 52, 3) := by decide +kernel
theorem d_I_fact_149 : decode b_I_fact 149 = .ok (.ireturn, 1) := by decide +kernel
theorem d_I_fact_150 : decode b_I_fact 150 = .ok (.bipush (-102), 2) := by decide +kernel
theorem d_I_fact_152 : decode b_I_fact 152 = .ok (.ireturn, 1) := by decide +kernel
theorem d_P_init_0 : decode b_P_init 0 = .ok (.aload_n 0, 1) := by decide +kernel
theorem d_P_init_1 : decode b_P_init 1 = .ok (.invokespecial 3, 3) := by decide +kernel
theorem d_P_init_4 : decode b_P_init 4 = .ok (.aload_n 0, 1) := by decide +kernel
theorem d_P_init_5 : decode b_P_init 5 = .ok (.bipush 30, 2) := by decide +kernel
theorem d_P_init_7 : decode b_P_init 7 = .ok (.newarray .int, 2) := by decide +kernel
theorem d_P_init_9 : decode b_P_init 9 = .ok (.putfield 11, 3) := by decide +kernel
theorem d_P_init_12 : decode b_P_init 12 = .ok (.aload_n 0, 1) := by decide +kernel
theorem d_P_init_13 : decode b_P_init 13 = .ok (.iconst 0, 1) := by decide +kernel
theorem d_P_init_14 : decode b_P_init 14 = .ok (.putfield 15, 3) := by decide +kernel
theorem d_P_init_17 : decode b_P_init 17 = .ok (.return_, 1) := by decide +kernel
theorem d_P_at_0 : decode b_P_at 0 = .ok (.iload_n 1, 1) := by decide +kernel
theorem d_P_at_1 : decode b_P_at 1 = .ok (.iconst 0, 1) := by decide +kernel
theorem d_P_at_2 : decode b_P_at 2 = .ok (.aload_n 0, 1) := by decide +kernel
theorem d_P_at_3 : decode b_P_at 3 = .ok (.getfield 15, 3) := by decide +kernel
theorem d_P_at_6 : decode b_P_at 6 = .ok (.iconst 1, 1) := by decide +kernel
theorem d_P_at_7 : decode b_P_at 7 = .ok (.isub, 1) := by decide +kernel
theorem d_P_at_8 : decode b_P_at 8 = .ok (.invokestatic 19, 3) := by decide +kernel
theorem d_P_at_11 : decode b_P_at 11 = .ok (.ifCond .eq 9, 3) := by decide +kernel
theorem d_P_at_14 : decode b_P_at 14 = .ok (.iload_n 1, 1) := by decide +kernel
theorem d_P_at_15 : decode b_P_at 15 = .ok (.bipush 30, 2) := by decide +kernel
theorem d_P_at_17 : decode b_P_at 17 = .ok (.if_icmp .lt 5, 3) := by decide +kernel
theorem d_P_at_20 : decode b_P_at 20 = .ok (.iconst (-1), 1) := by decide +kernel
theorem d_P_at_21 : decode b_P_at 21 = .ok (.ireturn, 1) := by decide +kernel
theorem d_P_at_22 : decode b_P_at 22 = .ok (.aload_n 0, 1) := by decide +kernel
theorem d_P_at_23 : decode b_P_at 23 = .ok (.getfield 11, 3) := by decide +kernel
theorem d_P_at_26 : decode b_P_at 26 = .ok (.iload_n 1, 1) := by decide +kernel
theorem d_P_at_27 : decode b_P_at 27 = .ok (.iaload, 1) := by decide +kernel
theorem d_P_at_28 : decode b_P_at 28 = .ok (.ireturn, 1) := by decide +kernel
theorem d_P_fill_0 : decode b_P_fill 0 = .ok (.aload_n 0, 1) := by decide +kernel
theorem d_P_fill_1 : decode b_P_fill 1 = .ok (.iconst 0, 1) := by decide +kernel
theorem d_P_fill_2 : decode b_P_fill 2 = .ok (.putfield 15, 3) := by decide +kernel
theorem d_P_fill_5 : decode b_P_fill 5 = .ok (.aload_n 0, 1) := by decide +kernel
theorem d_P_fill_6 : decode b_P_fill 6 = .ok (.iload_n 1, 1) := by decide +kernel
theorem d_P_fill_7 : decode b_P_fill 7 = .ok (.invokevirtual 23, 3) := by decide +kernel
theorem d_P_fill_10 : decode b_P_fill 10 = .ok (.aload_n 0, 1) := by decide +kernel
theorem d_P_fill_11 : decode b_P_fill 11 = .ok (.aload_n 2, 1) := by decide +kernel
theorem d_P_fill_12 : decode b_P_fill 12 = .ok (.getfield 27, 3) := by decide +kernel
theorem d_P_fill_15 : decode b_P_fill 15 = .ok (.bipush 16, 2) := by decide +kernel
theorem d_P_fill_17 : decode b_P_fill 17 = .ok (.aload_n 2, 1) := by decide +kernel
theorem d_P_fill_18 : decode b_P_fill 18 = .ok (.getfield 32, 3) := by decide +kernel
theorem d_P_fill_21 : decode b_P_fill 21 = .ok (.imul, 1) := by decide +kernel
theorem d_P_fill_22 : decode b_P_fill 22 = .ok (.iadd, 1) := by decide +kernel
theorem d_P_fill_23 : decode b_P_fill 23 = .ok (.invokevirtual 35, 3) := by decide +kernel
theorem d_P_fill_26 : decode b_P_fill 26 = .ok (.aload_n 0, 1) := by decide +kernel
theorem d_P_fill_27 : decode b_P_fill 27 = .ok (.aload_n 2, 1) := by decide +kernel
theorem d_P_fill_28 : decode b_P_fill 28 = .ok (.getfield 38, 3) := by decide +kernel
theorem d_P_fill_31 : decode b_P_fill 31 = .ok (.invokevirtual 23, 3) := by decide +kernel
theorem d_P_fill_34 : decode b_P_fill 34 = .ok (.aload_n 0, 1) := by decide +kernel
theorem d_P_fill_35 : decode b_P_fill 35 = .ok (.aload_n 2, 1) := by decide +kernel
theorem d_P_fill_36 : decode b_P_fill 36 = .ok (.getfield 41, 3) := by decide +kernel
theorem d_P_fill_39 : decode b_P_fill 39 = .ok (.invokevirtual 35, 3) := by decide +kernel
theorem d_P_fill_42 : decode b_P_fill 42 = .ok (.aload_n 0, 1) := by decide +kernel
theorem d_P_fill_43 : decode b_P_fill 43 = .ok (.aload_n 2, 1) := by decide +kernel
theorem d_P_fill_44 : decode b_P_fill 44 = .ok (.getfield 44, 3) := by decide +kernel
theorem d_P_fill_47 : decode b_P_fill 47 = .ok (.ifCond .eq 14, 3) := by decide +kernel
theorem d_P_fill_50 : decode b_P_fill 50 = .ok (.aload_n 2, 1) := by decide +kernel
theorem d_P_fill_51 : decode b_P_fill 51 = .ok (.getfield 48, 3) := by decide +kernel
theorem d_P_fill_54 : decode b_P_fill 54 = .ok (.sipush 128, 3) := by decide +kernel
theorem d_P_fill_57 : decode b_P_fill 57 = .ok (.iadd, 1) := by decide +kernel
theorem d_P_fill_58 : decode b_P_fill 58 = .ok (.goto 7, 3) := by decide +kernel
theorem d_P_fill_61 : decode b_P_fill 61 = .ok (.aload_n 2, 1) := by decide +kernel
theorem d_P_fill_62 : decode b_P_fill 62 = .ok (.getfield 48, 3) := by decide +kernel
theorem d_P_fill_65 : decode b_P_fill 65 = .ok (.invokevirtual 35, 3) := by decide +kernel
theorem d_P_fill_68 : decode b_P_fill 68 = .ok (.aload_n 0, 1) := by decide +kernel
theorem d_P_fill_69 : decode b_P_fill 69 = .ok (.aload_n 2, 1) := by decide +kernel
theorem d_P_fill_70 : decode b_P_fill 70 = .ok (.getfield 51, 3) := by decide +kernel
theorem d_P_fill_73 : decode b_P_fill 73 = .ok (.invokevirtual 54, 3) := by decide +kernel
theorem d_P_fill_76 : decode b_P_fill 76 = .ok (.aload_n 0, 1) := by decide +kernel
theorem d_P_fill_77 : decode b_P_fill 77 = .ok (.aload_n 2, 1) := by decide +kernel
theorem d_P_fill_78 : decode b_P_fill 78 = .ok (.getfield 57, 3) := by decide +kernel
theorem d_P_fill_81 : decode b_P_fill 81 = .ok (.invokevirtual 54, 3) := by decide +kernel
theorem d_P_fill_84 : decode b_P_fill 84 = .ok (.aload_n 0, 1) := by decide +kernel
theorem d_P_fill_85 : decode b_P_fill 85 = .ok (.aload_n 2, 1) := by decide +kernel
theorem d_P_fill_86 : decode b_P_fill 86 = .ok (.getfield 60, 3) := by decide +kernel
theorem d_P_fill_89 : decode b_P_fill 89 = .ok (.invokevirtual 35, 3) := by decide +kernel
theorem d_P_fill_92 : decode b_P_fill 92 = .ok (.aload_n 0, 1) := by decide +kernel
theorem d_P_fill_93 : decode b_P_fill 93 = .ok (.aload_n 2, 1) := by decide +kernel
theorem d_P_fill_94 : decode b_P_fill 94 = .ok (.getfield 63, 3) := by decide +kernel
theorem d_P_fill_97 : decode b_P_fill 97 = .ok (.invokevirtual 35, 3) := by decide +kernel
theorem d_P_fill_100 : decode b_P_fill 100 = .ok (.iconst 0, 1) := by decide +kernel
theorem d_P_fill_101 : decode b_P_fill 101 = .ok (.istore_n 3, 1) := by decide +kernel
theorem d_P_fill_102 : decode b_P_fill 102 = .ok (.iload_n 3, 1) := by decide +kernel
theorem d_P_fill_103 : decode b_P_fill 103 = .ok (.aload_n 2, 1) := by decide +kernel
theorem d_P_fill_104 : decode b_P_fill 104 = .ok (.getfield 63, 3) := by decide +kernel
theorem d_P_fill_107 : decode b_P_fill 107 = .ok (.if_icmp .ge 47, 3) := by decide +kernel
theorem d_P_fill_110 : decode b_P_fill 110 = .ok (.iload_n 3, 1) := by decide +kernel
theorem d_P_fill_111 : decode b_P_fill 111 = .ok (.iconst 4, 1) := by decide +kernel
theorem d_P_fill_112 : decode b_P_fill 112 = .ok (.if_icmp .ge 42, 3) := by decide +kernel
theorem d_P_fill_115 : decode b_P_fill 115 = .ok (.aload_n 0, 1) := by decide +kernel
theorem d_P_fill_116 : decode b_P_fill 116 = .ok (.aload_n 2, 1) := by decide +kernel
theorem d_P_fill_117 : decode b_P_fill 117 = .ok (.getfield 66, 3) := by decide +kernel
theorem d_P_fill_120 : decode b_P_fill 120 = .ok (.iload_n 3, 1) := by decide +kernel
theorem d_P_fill_121 : decode b_P_fill 121 = .ok (.iaload, 1) := by decide +kernel
theorem d_P_fill_122 : decode b_P_fill 122 = .ok (.invokevirtual 35, 3) := by decide +kernel
theorem d_P_fill_125 : decode b_P_fill 125 = .ok (.aload_n 0, 1) := by decide +kernel
theorem d_P_fill_126 : decode b_P_fill 126 = .ok (.aload_n 2, 1) := by decide +kernel
theorem d_P_fill_127 : decode b_P_fill 127 = .ok (.getfield 69, 3) := by decide +kernel
theorem d_P_fill_130 : decode b_P_fill 130 = .ok (.iload_n 3, 1) := by decide +kernel
theorem d_P_fill_131 : decode b_P_fill 131 = .ok (.iaload, 1) := by decide +kernel
theorem d_P_fill_132 : decode b_P_fill 132 = .ok (.bipush 16, 2) := by decide +kernel
theorem d_P_fill_134 : decode b_P_fill 134 = .ok (.ishr, 1) := by decide +kernel
theorem d_P_fill_135 : decode b_P_fill 135 = .ok (.invokevirtual 35, 3) := by decide +kernel
theorem d_P_fill_138 : decode b_P_fill 138 = .ok (.aload_n 0, 1) := by decide +kernel
theorem d_P_fill_139 : decode b_P_fill 139 = .ok (.aload_n 2, 1) := by decide +kernel
theorem d_P_fill_140 : decode b_P_fill 140 = .ok (.getfield 69, 3) := by decide +kernel
theorem d_P_fill_143 : decode b_P_fill 143 = .ok (.iload_n 3, 1) := by decide +kernel
theorem d_P_fill_144 : decode b_P_fill 144 = .ok (.iaload, 1) := by decide +kernel
theorem d_P_fill_145 : decode b_P_fill 145 = .ok (.invokevirtual 23, 3) := by decide +kernel
theorem d_P_fill_148 : decode b_P_fill 148 = .ok (.iinc 3 1, 3) := by decide +kernel
theorem d_P_fill_151 : decode b_P_fill 151 = .ok (.goto (-49), 3) := by decide +kernel
theorem d_P_fill_154 : decode b_P_fill 154 = .ok (.aload_n 0, 1) := by decide +kernel
theorem d_P_fill_155 : decode b_P_fill 155 = .ok (.aload_n 0, 1) := by decide +kernel
theorem d_P_fill_156 : decode b_P_fill 156 = .ok (.invokevirtual 72, 3) := by decide +kernel
theorem d_P_fill_159 : decode b_P_fill 159 = .ok (.invokevirtual 35, 3) := by decide +kernel
theorem d_P_fill_162 : decode b_P_fill 162 = .ok (.return_, 1) := by decide +kernel
theorem d_P_add_0 : decode b_P_add 0 = .ok (.aload_n 0, 1) := by decide +kernel
theorem d_P_add_1 : decode b_P_add 1 = .ok (.getfield 15, 3) := by decide +kernel
theorem d_P_add_4 : decode b_P_add 4 = .ok (.bipush 30, 2) := by decide +kernel
theorem d_P_add_6 : decode b_P_add 6 = .ok (.if_icmp .ge 27, 3) := by decide +kernel
theorem d_P_add_9 : decode b_P_add 9 = .ok (.aload_n 0, 1) := by decide +kernel
theorem d_P_add_10 : decode b_P_add 10 = .ok (.getfield 11, 3) := by decide +kernel
theorem d_P_add_13 : decode b_P_add 13 = .ok (.aload_n 0, 1) := by decide +kernel
theorem d_P_add_14 : decode b_P_add 14 = .ok (.getfield 15, 3) := by decide +kernel
theorem d_P_add_17 : decode b_P_add 17 = .ok (.iload_n 1, 1) := by decide +kernel
theorem d_P_add_18 : decode b_P_add 18 = .ok (.sipush 255, 3) := by decide +kernel
theorem d_P_add_21 : decode b_P_add 21 = .ok (.iand, 1) := by decide +kernel
theorem d_P_add_22 : decode b_P_add 22 = .ok (.iastore, 1) := by decide +kernel
theorem d_P_add_23 : decode b_P_add 23 = .ok (.aload_n 0, 1) := by decide +kernel
theorem d_P_add_24 : decode b_P_add 24 = .ok (.dup, 1) := by decide +kernel
theorem d_P_add_25 : decode b_P_add 25 = .ok (.getfield 15, 3) := by decide +kernel
theorem d_P_add_28 : decode b_P_add 28 = .ok (.iconst 1, 1) := by decide +kernel
theorem d_P_add_29 : decode b_P_add 29 = .ok (.iadd, 1) := by decide +kernel
theorem d_P_add_30 : decode b_P_add 30 = .ok (.putfield 15, 3) := by decide +kernel
theorem d_P_add_33 : decode b_P_add 33 = .ok (.return_, 1) := by decide +kernel
theorem d_P_addTwo_0 : decode b_P_addTwo 0 = .ok (.aload_n 0, 1) := by decide +kernel
theorem d_P_addTwo_1 : decode b_P_addTwo 1 = .ok (.iload_n 1, 1) := by decide +kernel
theorem d_P_addTwo_2 : decode b_P_addTwo 2 = .ok (.bipush 8, 2) := by decide +kernel
theorem d_P_addTwo_4 : decode b_P_addTwo 4 = .ok (.ishr, 1) := by decide +kernel
theorem d_P_addTwo_5 : decode b_P_addTwo 5 = .ok (.invokevirtual 35, 3) := by decide +kernel
theorem d_P_addTwo_8 : decode b_P_addTwo 8 = .ok (.aload_n 0, 1) := by decide +kernel
theorem d_P_addTwo_9 : decode b_P_addTwo 9 = .ok (.iload_n 1, 1) := by decide +kernel
theorem d_P_addTwo_10 : decode b_P_addTwo 10 = .ok (.invokevirtual 35, 3) := by decide +kernel
theorem d_P_addTwo_13 : decode b_P_addTwo 13 = .ok (.return_, 1) := by decide +kernel
theorem d_P_addEntry_0 : decode b_P_addEntry 0 = .ok (.aload_n 0, 1) := by decide +kernel
theorem d_P_addEntry_1 : decode b_P_addEntry 1 = .ok (.iload_n 1, 1) := by decide +kernel
theorem d_P_addEntry_2 : decode b_P_addEntry 2 = .ok (.iconst (-1), 1) := by decide +kernel
theorem d_P_addEntry_3 : decode b_P_addEntry 3 = .ok (.if_icmp .ne 8, 3) := by decide +kernel
theorem d_P_addEntry_6 : decode b_P_addEntry 6 = .ok (.ldc 76, 2) := by decide +kernel
theorem d_P_addEntry_8 : decode b_P_addEntry 8 = .ok (.goto 4, 3) := by decide +kernel
theorem d_P_addEntry_11 : decode b_P_addEntry 11 = .ok (.iload_n 1, 1) := by decide +kernel
theorem d_P_addEntry_12 : decode b_P_addEntry 12 = .ok (.invokevirtual 23, 3) := by decide +kernel
theorem d_P_addEntry_15 : decode b_P_addEntry 15 = .ok (.return_, 1) := by decide +kernel
theorem d_P_xorOfAll_0 : decode b_P_xorOfAll 0 = .ok (.iconst 0, 1) := by decide +kernel
theorem d_P_xorOfAll_1 : decode b_P_xorOfAll 1 = .ok (.istore_n 1, 1) := by decide +kernel
theorem d_P_xorOfAll_2 : decode b_P_xorOfAll 2 = .ok (.iconst 0, 1) := by decide +kernel
theorem d_P_xorOfAll_3 : decode b_P_xorOfAll 3 = .ok (.istore_n 2, 1) := by decide +kernel
theorem d_P_xorOfAll_4 : decode b_P_xorOfAll 4 = .ok (.iload_n 2, 1) := by decide +kernel
theorem d_P_xorOfAll_5 : decode b_P_xorOfAll 5 = .ok (.aload_n 0, 1) := by decide +kernel
theorem d_P_xorOfAll_6 : decode b_P_xorOfAll 6 = .ok (.getfield 15, 3) := by decide +kernel
theorem d_P_xorOfAll_9 : decode b_P_xorOfAll 9 = .ok (.if_icmp .ge 24, 3) := by decide +kernel
theorem d_P_xorOfAll_12 : decode b_P_xorOfAll 12 = .ok (.iload_n 2, 1) := by decide +kernel
theorem d_P_xorOfAll_13 : decode b_P_xorOfAll 13 = .ok (.bipush 30, 2) := by decide +kernel
theorem d_P_xorOfAll_15 : decode b_P_xorOfAll 15 = .ok (.if_icmp .ge 18, 3) := by decide +kernel
theorem d_P_xorOfAll_18 : decode b_P_xorOfAll 18 = .ok (.iload_n 1, 1) := by decide +kernel
theorem d_P_xorOfAll_19 : decode b_P_xorOfAll 19 = .ok (.aload_n 0, 1) := by decide +kernel
theorem d_P_xorOfAll_20 : decode b_P_xorOfAll 20 = .ok (.getfield 11, 3) := by decide +kernel
theorem d_P_xorOfAll_23 : decode b_P_xorOfAll 23 = .ok (.iload_n 2, 1) := by decide +kernel
theorem d_P_xorOfAll_24 : decode b_P_xorOfAll 24 = .ok (.iaload, 1) := by decide +kernel
theorem d_P_xorOfAll_25 : decode b_P_xorOfAll 25 = .ok (.ixor, 1) := by decide +kernel
theorem d_P_xorOfAll_26 : decode b_P_xorOfAll 26 = .ok (.istore_n 1, 1) := by decide +kernel
theorem d_P_xorOfAll_27 : decode b_P_xorOfAll 27 = .ok (.iinc 2 1, 3) := by decide +kernel
theorem d_P_xorOfAll_30 : decode b_P_xorOfAll 30 = .ok (.goto (-26), 3) := by decide +kernel
theorem d_P_xorOfAll_33 : decode b_P_xorOfAll 33 = .ok (.iload_n 1, 1) := by decide +kernel
theorem d_P_xorOfAll_34 : decode b_P_xorOfAll 34 = .ok (.ireturn, 1) := by decide +kernel
